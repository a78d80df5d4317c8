/-! ===== the interpreter is right (2): the world, reads and writes ===== -/
theorem zlookup_mem {α : Type} {l : List (Nat × α)} {a : Nat} {b : α} (h : l.lookup a = some b) : (a, b) ∈ l := by
  induction l with
  | nil => simp at h
  | cons x t ih =>
    obtain ⟨k, v⟩ := x
    rw [List.lookup_cons] at h
    split at h
    · rename_i he
      cases h
      rw [beq_iff_eq.mp he]
      exact List.mem_cons_self
    · exact List.mem_cons_of_mem _ (ih h)
theorem zall_get {α : Type} {f : Nat → Nat × α → Bool} {l : List (List (Nat × α))} (h : zall f l = true) {c idx : Nat} {v : α} (hv : ((l[c]?).getD []).lookup idx = some v) : f c (idx, v) = true := by
  have hm := zlookup_mem hv
  have hc : c < l.length := by
    rcases Nat.lt_or_ge c l.length with q | q
    · exact q
    · rw [List.getElem?_eq_none q] at hm; simp at hm
  exact List.all_eq_true.mp (List.all_eq_true.mp h c (List.mem_range.mpr hc)) _ hm
theorem zC_lt {ci : Nat} {x : String × u_T × Nat × (Nat → FieldType)} (h : zC[ci]? = some x) : ci < 8 := (List.getElem?_eq_some_iff.mp h).1
theorem zC_ty {ci : Nat} {C : String} {T : u_T} {n : Nat} {ty : Nat → FieldType} (h : zC[ci]? = some (C, T, n, ty)) : ∀ k, k < n → parseFieldDescriptor (T k).2.2.1 = some (ty k) := by
  match ci, h with
  | 0, h => cases h; exact tyX0_ok
  | 1, h => cases h; exact tyX1_ok
  | 2, h => cases h; exact tyX2_ok
  | 3, h => cases h; exact tyX3_ok
  | 4, h => cases h; exact tyX4_ok
  | 5, h => cases h; exact tyX5_ok
  | 6, h => cases h; exact tyX6_ok
  | 7, h => cases h; exact tyX7_ok
  | n + 8, h => cases h
theorem zC_nm {ci : Nat} {C : String} {T : u_T} {n : Nat} {ty : Nat → FieldType} (h : zC[ci]? = some (C, T, n, ty)) : ∀ a, a < n → ∀ b, b < n → a ≠ b → (T a).2.1 ≠ (T b).2.1 := by
  match ci, h with
  | 0, h => cases h; exact nmX0
  | 1, h => cases h; exact nmX1
  | 2, h => cases h; exact nmX2
  | 3, h => cases h; exact nmX3
  | 4, h => cases h; exact nmX4
  | 5, h => cases h; exact nmX5
  | 6, h => cases h; exact nmX6
  | 7, h => cases h; exact nmX7
  | n + 8, h => cases h
theorem zC_own {ci : Nat} {C : String} {T : u_T} {n : Nat} {ty : Nat → FieldType} (h : zC[ci]? = some (C, T, n, ty)) : zN[ci]? = some C ∧ ∀ k, k < n → (T k).1 = C := by
  match ci, h with
  | 0, h => cases h; exact ⟨rfl, by decide +kernel⟩
  | 1, h => cases h; exact ⟨rfl, by decide +kernel⟩
  | 2, h => cases h; exact ⟨rfl, by decide +kernel⟩
  | 3, h => cases h; exact ⟨rfl, by decide +kernel⟩
  | 4, h => cases h; exact ⟨rfl, by decide +kernel⟩
  | 5, h => cases h; exact ⟨rfl, by decide +kernel⟩
  | 6, h => cases h; exact ⟨rfl, by decide +kernel⟩
  | 7, h => cases h; exact ⟨rfl, by decide +kernel⟩
  | n + 8, h => cases h
theorem zC_vw' {ci : Nat} {C : String} {T : u_T} {n : Nat} {ty : Nat → FieldType} (h : zC[ci]? = some (C, T, n, ty)) : vwCl[ci]? = some (C, T, n) := by rw [zC_vw, h]; rfl
theorem zC_ws {ci : Nat} {C : String} {T : u_T} {n : Nat} {ty : Nat → FieldType} (h : zC[ci]? = some (C, T, n, ty)) : ∀ w ∈ u_ws C T n, w ∈ zW := by
  have h1 := List.all_eq_true.mp zLP_ok ci (List.mem_range.mpr (zC_lt h))
  unfold zLPok at h1
  rw [h] at h1
  split at h1
  · rename_i e1 e2
    cases e1
    intro w hw
    obtain ⟨k, hk, rfl⟩ := List.mem_map.mp hw
    refine zW_mem (List.all_eq_true.mp h1 k hk) ?_
    unfold u_lay
    split <;> rfl
  · cases h1
theorem zC_in {ci : Nat} {C : String} {T : u_T} {n : Nat} {ty : Nat → FieldType} (h : zC[ci]? = some (C, T, n, ty)) : Cond.instantiable C n ∈ zW ∧ Cond.initialized C ∈ zW := by
  have h1 := List.all_eq_true.mp zCI_ok ci (List.mem_range.mpr (zC_lt h))
  unfold zCIok at h1
  rw [h] at h1
  split at h1
  · rename_i e1 e2
    cases e1
    rw [Bool.and_eq_true] at h1
    exact ⟨zW_mem h1.1 rfl, zW_mem h1.2 rfl⟩
  · cases h1
theorem zfld_ok {c idx ci j q : Nat} (h : zfld c idx = some (ci, j, q)) : ∃ own C T n ty, zN[c]? = some own ∧ zC[ci]? = some (C, T, n, ty) ∧ j < n ∧ Cond.fieldLink own idx (T j).1 (T j).2.1 (T j).2.2.1 ∈ zW := by
  have h1 := zall_get zF_ok h
  unfold zFok at h1
  simp only at h1
  split at h1
  · rename_i e1 e2
    rw [Bool.and_eq_true] at h1
    exact ⟨_, _, _, _, _, e1, e2, of_decide_eq_true h1.1, zW_mem h1.2 rfl⟩
  · cases h1
theorem zk32_ok {c idx q : Nat} {v : Int} (h : zk32 c idx = some (v, q)) : ∃ own, zN[c]? = some own ∧ Cond.constant own idx (Int32.ofInt v) ∈ zW := by
  have h1 := zall_get zK32_ok h
  unfold zK32ok at h1
  simp only at h1
  split at h1
  · exact ⟨_, by assumption, zW_mem h1 rfl⟩
  · cases h1
theorem zk64_ok {c idx q : Nat} {v : Int} (h : zk64 c idx = some (v, q)) : ∃ own, zN[c]? = some own ∧ Cond.constantLong own idx (Int64.ofInt v) ∈ zW := by
  have h1 := zall_get zK64_ok h
  unfold zK64ok at h1
  simp only at h1
  split at h1
  · exact ⟨_, by assumption, zW_mem h1 rfl⟩
  · cases h1
theorem zclk_ok {c idx ci q : Nat} (h : zclk c idx = some (ci, q)) : ∃ own C T n ty, zN[c]? = some own ∧ zC[ci]? = some (C, T, n, ty) ∧ Cond.classLink own idx C ∈ zW := by
  have h1 := zall_get zCL_ok h
  unfold zCLok at h1
  simp only at h1
  split at h1
  · exact ⟨_, _, _, _, _, by assumption, by assumption, zW_mem h1 rfl⟩
  · cases h1
/-! the world -/
def zfv (ad : Nat → Nat) (mi : zI) (mj : zJ) (mr : zR) (ty : FieldType) (o j : Nat) : Value := match zkind ty with
  | 0 => .int (mi o j)
  | 1 => .long (mj o j)
  | 2 => va_rf ((mr o j).map ad)
  | 3 => .int (mi o j)
  | _ => .null
def zfl (ad : Nat → Nat) (mi : zI) (mj : zJ) (mr : zR) (ci o : Nat) : List Value := match zC[ci]? with
  | some (_, _, n, ty) => (List.range n).map fun j => zfv ad mi mj mr (ty j) o j
  | none => []
def zE (AT : Nat → ClassId) (ad : Nat → Nat) (sh : zSh) (mi : zI) (mj : zJ) (mr : zR) (o : Nat) : va_E := match sh[o]? with
  | some (0, ci) => .inr (ci, zfl ad mi mj mr ci o)
  | some (1, n) => .inl (AT 1, n, .inl (mi o))
  | some (2, n) => .inl (AT 2, n, .inr (.inl (mj o)))
  | some (3, n) => .inl (AT 3, n, .inl (mi o))
  | some (4, n) => .inl (AT 4, n, .inl (mi o))
  | some (t, n) => .inl (AT t, n, .inr (.inr (.inr (.inr fun j => (mr o j).map ad))))
  | none => .inr (0, [])
def zWs (AT : Nat → ClassId) (ad : Nat → Nat) (sh : zSh) (mi : zI) (mj : zJ) (mr : zR) : va_W := (List.range (sh.length - 1)).map fun i => (ad (i + 1), zE AT ad sh mi mj mr (i + 1))
def zRep (D : va_G) (AT : Nat → ClassId) (bb base Ls : Nat) (xs : Nat → Int32) (sh : zSh) (mi : zI) (mj : zJ) (mr : zR) (H : Heap) : Prop :=
  va_P D vwCl (zWs AT (zad bb base) sh mi mj mr) H ∧ H.size = base + (sh.length - 1) ∧ 1 ≤ sh.length ∧ sh[0]? = some (99, Ls) ∧ (∀ j, mi 0 j = xs j) ∧ ∀ o, sh.length ≤ o → ∀ j, mi o j = 0 ∧ mj o j = 0 ∧ mr o j = none
def zTys (AT : Nat → ClassId) : List (ClassId × FieldType) := [(AT 1, .int), (AT 2, .long), (AT 3, .char), (AT 4, .boolean), (AT 7, .object RX2), (AT 10, .object RX5), (AT 11, .object RX6)]
def zNest (U : State) : Prop := ∀ (own : String) (idx : Nat) (y : MethodName), Cond.methodLinkNest own idx y "AffineRanges" ∈ lw_tbl → va_Nw (.methodLinkNest own idx y "AffineRanges") U
def zU (D : va_G) (AT : Nat → ClassId) (U : State) : Prop := va_K D vwCl (zTys AT) U ∧ zNest U ∧ va_AO RX6 U ∧ va_AO RX5 U ∧ va_AO RX2 U
theorem zWs_get {AT : Nat → ClassId} {ad : Nat → Nat} {sh : zSh} {mi : zI} {mj : zJ} {mr : zR} {o : Nat} {q : Nat × Nat} (h1 : 1 ≤ o) (h2 : sh[o]? = some q) : (zWs AT ad sh mi mj mr)[o - 1]? = some (ad o, zE AT ad sh mi mj mr o) := by
  have hlt : o < sh.length := (List.getElem?_eq_some_iff.mp h2).1
  unfold zWs
  rw [List.getElem?_map, List.getElem?_range (by omega)]
  simp only [Option.map_some, Option.some.injEq]
  rw [show o - 1 + 1 = o by omega]
theorem zWs_set {AT : Nat → ClassId} {ad : Nat → Nat} {sh : zSh} {mi mi' : zI} {mj mj' : zJ} {mr mr' : zR} {o : Nat} {q : Nat × Nat} {e : va_E} (h1 : 1 ≤ o) (h2 : sh[o]? = some q) (he : zE AT ad sh mi' mj' mr' o = e) (ho : ∀ o', o' ≠ o → zE AT ad sh mi' mj' mr' o' = zE AT ad sh mi mj mr o') : (zWs AT ad sh mi mj mr).set (o - 1) (ad o, e) = zWs AT ad sh mi' mj' mr' := by
  have hlt : o < sh.length := (List.getElem?_eq_some_iff.mp h2).1
  refine List.ext_getElem? fun i => ?_
  unfold zWs
  rw [List.getElem?_set, List.getElem?_map, List.getElem?_map]
  by_cases hi : o - 1 = i
  · subst hi
    rw [if_pos rfl, if_pos (by simp; omega), List.getElem?_range (by omega)]
    simp only [Option.map_some, Option.some.injEq]
    rw [show o - 1 + 1 = o by omega, he]
  · rw [if_neg hi]
    by_cases hl : i < sh.length - 1
    · rw [List.getElem?_range hl]
      simp only [Option.map_some, Option.some.injEq]
      rw [ho (i + 1) (by omega)]
    · rw [List.getElem?_eq_none (by simpa using hl)]
      rfl
theorem zE_congr {AT : Nat → ClassId} {ad : Nat → Nat} {sh : zSh} {mi mi' : zI} {mj mj' : zJ} {mr mr' : zR} {o : Nat} (h1 : mi' o = mi o) (h2 : mj' o = mj o) (h3 : mr' o = mr o) : zE AT ad sh mi' mj' mr' o = zE AT ad sh mi mj mr o := by
  unfold zE zfl zfv
  rw [h1, h2, h3]
theorem zup_ne {α : Type} {f : Nat → Nat → α} {o j o' : Nat} {v : α} (h : o' ≠ o) : zup f o j v o' = f o' := by
  funext j'
  unfold zup
  rw [if_neg (fun q => h q.1)]
theorem zup_eq {α : Type} {f : Nat → Nat → α} {o j : Nat} {v : α} : zup f o j v o = fun j' => if j' = j then v else f o j' := by
  funext j'
  unfold zup
  simp
theorem zrw_ne {α : Type} {f : Nat → Nat → α} {o o' : Nat} {g : Nat → α} (h : o' ≠ o) : zrw f o g o' = f o' := by
  funext j'
  unfold zrw
  rw [if_neg h]
theorem zrw_eq {α : Type} {f : Nat → Nat → α} {o : Nat} {g : Nat → α} : zrw f o g o = g := by
  funext j'
  unfold zrw
  simp
theorem zad_D {bb base : Nat} (AT : Nat → ClassId) (sh : zSh) (mi : zI) (mj : zJ) (mr : zR) : va_D (fun q : Nat => base ≤ q) (zWs AT (zad bb base) sh mi mj mr) := by
  refine ⟨fun i j p q hi hj he => ?_, fun k q hk => ?_⟩
  · unfold zWs at hi hj
    rw [List.getElem?_map] at hi hj
    obtain ⟨i', h1, rfl⟩ := Option.map_eq_some_iff.mp hi
    obtain ⟨j', h2, rfl⟩ := Option.map_eq_some_iff.mp hj
    obtain ⟨_, e1⟩ := List.getElem?_eq_some_iff.mp h1
    obtain ⟨_, e2⟩ := List.getElem?_eq_some_iff.mp h2
    rw [List.getElem_range] at e1 e2
    simp only [zad] at he
    rw [if_neg (by omega), if_neg (by omega)] at he
    omega
  · unfold zWs at hk
    rw [List.getElem?_map] at hk
    obtain ⟨i', h1, rfl⟩ := Option.map_eq_some_iff.mp hk
    simp only [zad]
    rw [if_neg (by omega)]
    omega
theorem zin_vp {i : Int32} {n : Nat} (h : zin i n = true) : vp_in i n := by
  unfold zin at h
  simp at h
  unfold vp_in
  intro q
  rcases q with q | q
  · exact absurd q (by simpa using h.1)
  · omega
section ZR
variable {p : Program} {l : Launch} {e : Env} {R : Room} {s : State} {m : MethodId} {args : Array Value} {below : List Frame} {meth : Method} {cd : Code} {H : Heap} {locs : List Loc} {cells slots : Nat} {Q : State → Prop}
variable {b : ByteArray} {pc len : Nat} {ls : Array Slot} {ins : Instr} {S S' : List Value}
variable {D : va_G} {AT : Nat → ClassId} {bb base Ls : Nat} {xs : Nat → Int32} {sh : zSh} {mi : zI} {mj : zJ} {mr : zR}
theorem zE_i {o n t : Nat} {ad : Nat → Nat} (h : sh[o]? = some (t, n)) (ht : t = 1 ∨ t = 3 ∨ t = 4) : zE AT ad sh mi mj mr o = .inl (AT t, n, .inl (mi o)) := by
  unfold zE; rw [h]; rcases ht with rfl | rfl | rfl <;> rfl
theorem zE_j {o n : Nat} {ad : Nat → Nat} (h : sh[o]? = some (2, n)) : zE AT ad sh mi mj mr o = .inl (AT 2, n, .inr (.inl (mj o))) := by
  unfold zE; rw [h]; rfl
theorem zE_q {o n t : Nat} {ad : Nat → Nat} (h : sh[o]? = some (t, n)) (ht : t = 7 ∨ t = 10 ∨ t = 11) : zE AT ad sh mi mj mr o = .inl (AT t, n, .inr (.inr (.inr (.inr fun j => (mr o j).map ad)))) := by
  unfold zE; rw [h]; rcases ht with rfl | rfl | rfl <;> rfl
theorem zE_o {o ci : Nat} {ad : Nat → Nat} (h : sh[o]? = some (0, ci)) : zE AT ad sh mi mj mr o = .inr (ci, zfl ad mi mj mr ci o) := by
  unfold zE; rw [h]; rfl
theorem zfl_get {ad : Nat → Nat} {ci o j n : Nat} {C : String} {T : u_T} {ty : Nat → FieldType} (h : zC[ci]? = some (C, T, n, ty)) (hj : j < n) : (zfl ad mi mj mr ci o)[j]? = some (zfv ad mi mj mr (ty j) o j) := by
  unfold zfl
  rw [h]
  simp only [List.getElem?_map, List.getElem?_range hj, Option.map_some]
theorem zfl_len {ad : Nat → Nat} {ci o n : Nat} {C : String} {T : u_T} {ty : Nat → FieldType} (h : zC[ci]? = some (C, T, n, ty)) : (zfl ad mi mj mr ci o).length = n := by
  unfold zfl
  rw [h]
  simp
def zCx (D : va_G) (AT : Nat → ClassId) (bb base Ls : Nat) (xs : Nat → Int32) (p : Program) (s : State) (m : MethodId) (args : Array Value) (cd : Code) (b : ByteArray) (ml c : Nat) (own : String) : Prop :=
  p.tables.exec = Jvm.exec ∧ cd.code = b ∧ cd.maxLocals = ml ∧ s.vm.findClass own = some m.cls ∧ zN[c]? = some own ∧ (∀ w ∈ zW, w.before args s = true) ∧ zU D AT s ∧ va_X bb Ls xs s s.heap ∧ bb < base ∧ base ≤ s.heap.size
set_option maxHeartbeats 4000000 in
theorem zs_read {ml c : Nat} {own : String} (X : zCx D AT bb base Ls xs p s m args cd b ml c own) (hS : va_S (fun q : Nat => base ≤ q) s.heap H locs) (hR : zRep D AT bb base Ls xs sh mi mj mr H) (hd : decode b pc = .ok (ins, len)) (hl : zlenOk ins len = true) (h : zread c ins S sh mi mj mr = some S')
    (kk : W p l e R s m args below meth cd H locs cells slots Q (F0 m (pc + len) ls (S'.map (zcv (zad bb base))))) : W p l e R s m args below meth cd H locs cells slots Q (F0 m pc ls (S.map (zcv (zad bb base)))) := by
  obtain ⟨hx, hb, hml, hown, hzn, hts, ⟨hK, hU⟩, hX, hbb, hbs⟩ := X
  obtain ⟨hP, hsz, hl1, hsh0, hxs, hdef⟩ := hR
  have hnb : ¬ (fun q : Nat => base ≤ q) bb := Nat.not_le.mpr hbb
  unfold zread at h
  split at h
  · cases zlenOk_eq hl (fun _ _ _ _ h => by cases h) (fun _ _ h => by cases h)
    split at h
    · rename_i o r ci j q hf
      split at h
      · rename_i C T n ty hc
        split at h
        · rename_i hso
          obtain ⟨hso, ho⟩ := hso
          obtain ⟨own', C', T', n', ty', e1, e2, hj, hlink⟩ := zfld_ok hf
          cases hzn.symm.trans e1
          cases hc.symm.trans e2
          have hget := (zWs_get (AT := AT) (ad := zad bb base) (mi := mi) (mj := mj) (mr := mr) ho hso)
          rw [zE_o hso] at hget
          have hv := zfl_get (ad := zad bb base) (mi := mi) (mj := mj) (mr := mr) (o := o) hc hj
          have key : ∀ v : Value, zfv (zad bb base) mi mj mr (ty j) o j = zcv (zad bb base) v → W p l e R s m args below meth cd H locs cells slots Q (F0 m (pc + 3) ls (zcv (zad bb base) v :: r.map (zcv (zad bb base)))) → W p l e R s m args below meth cd H locs cells slots Q (F0 m pc ls (List.map (zcv (zad bb base)) (Value.ref o :: r))) := by
            intro v hvv k2
            rw [hvv] at hv
            exact va_get hx hb hts (zC_ws hc) hown hK hP (o - 1) hget (zC_vw' hc) j hj (hts _ hlink) (fun _ z => z) hv hd k2
          split at h
          · rename_i hk; cases h
            exact key (.int (mi o j)) (by unfold zfv; rw [hk]; rfl) kk
          · rename_i hk; cases h
            exact key (.long (mj o j)) (by unfold zfv; rw [hk]; rfl) kk
          · rename_i hk; cases h
            exact key (va_rf (mr o j)) (by unfold zfv; rw [hk]; exact (zcv_rf _ _).symm) kk
          · rename_i hk; cases h
            exact key (.int (mi o j)) (by unfold zfv; rw [hk]; rfl) kk
          · cases h
        · cases h
      · cases h
    · cases h
  · cases zlenOk_eq hl (fun _ _ _ _ h => by cases h) (fun _ _ h => by cases h)
    split at h
    · split at h
      · rename_i t n hs
        split at h
        · rename_i hc
          cases h
          rcases hc with ⟨hi, ⟨rfl, ho⟩ | ⟨rfl, rfl⟩⟩
          · have hget := (zWs_get (AT := AT) (ad := zad bb base) (mi := mi) (mj := mj) (mr := mr) ho hs)
            rw [zE_i hs (Or.inl rfl)] at hget
            exact va_iald hx hb hK hP _ 0 hget rfl (zin_vp hi) hd kk
          · cases hsh0.symm.trans hs
            rw [hxs] at kk
            exact va_sld hx hb hX (Nat.lt_of_lt_of_le hbb hbs) hnb hS (zin_vp hi) hd kk
        · cases h
      · cases h
    · cases h
  · cases zlenOk_eq hl (fun _ _ _ _ h => by cases h) (fun _ _ h => by cases h)
    split at h
    · split at h
      · rename_i t n hs
        split at h
        · rename_i hc
          cases h
          obtain ⟨hi, rfl, ho⟩ := hc
          have hget := (zWs_get (AT := AT) (ad := zad bb base) (mi := mi) (mj := mj) (mr := mr) ho hs)
          rw [zE_j hs] at hget
          exact va_lald hx hb hK hP _ 1 hget rfl (zin_vp hi) hd kk
        · cases h
      · cases h
    · cases h
  · cases zlenOk_eq hl (fun _ _ _ _ h => by cases h) (fun _ _ h => by cases h)
    split at h
    · split at h
      · rename_i t n hs
        split at h
        · rename_i hc
          cases h
          obtain ⟨hi, rfl, ho⟩ := hc
          have hget := (zWs_get (AT := AT) (ad := zad bb base) (mi := mi) (mj := mj) (mr := mr) ho hs)
          rw [zE_i hs (Or.inr (Or.inl rfl))] at hget
          exact va_cald hx hb hK hP _ 2 hget rfl (zin_vp hi) hd kk
        · cases h
      · cases h
    · cases h
  · cases zlenOk_eq hl (fun _ _ _ _ h => by cases h) (fun _ _ h => by cases h)
    split at h
    · split at h
      · rename_i t n hs
        split at h
        · rename_i hc
          cases h
          obtain ⟨hi, rfl, ho⟩ := hc
          have hget := (zWs_get (AT := AT) (ad := zad bb base) (mi := mi) (mj := mj) (mr := mr) ho hs)
          rw [zE_i hs (Or.inr (Or.inr rfl))] at hget
          exact va_zald hx hb hK hP _ 3 hget rfl (zin_vp hi) hd kk
        · cases h
      · cases h
    · cases h
  · cases zlenOk_eq hl (fun _ _ _ _ h => by cases h) (fun _ _ h => by cases h)
    split at h
    · split at h
      · rename_i i o r _ t n hs
        split at h
        · rename_i hc
          cases h
          obtain ⟨hi, ht, ho⟩ := hc
          have hget := (zWs_get (AT := AT) (ad := zad bb base) (mi := mi) (mj := mj) (mr := mr) ho hs)
          rw [zE_q hs ht] at hget
          have kk : W p l e R s m args below meth cd H locs cells slots Q (F0 m (pc + 1) ls (zcv (zad bb base) (va_rf (mr o i.toNatClampNeg)) :: r.map (zcv (zad bb base)))) := kk
          rw [zcv_rf] at kk
          rcases ht with rfl | rfl | rfl
          · exact va_aldq hx hb hK hP _ 4 hget rfl (zin_vp hi) hd kk
          · exact va_aldq hx hb hK hP _ 5 hget rfl (zin_vp hi) hd kk
          · exact va_aldq hx hb hK hP _ 6 hget rfl (zin_vp hi) hd kk
        · cases h
      · cases h
    · cases h
  · cases zlenOk_eq hl (fun _ _ _ _ h => by cases h) (fun _ _ h => by cases h)
    split at h
    · split at h
      · rename_i t n hs
        split at h
        · rename_i hc
          cases h
          rcases hc with ⟨rfl | rfl | rfl, ho⟩ | ⟨rfl, rfl⟩
          · have hget := (zWs_get (AT := AT) (ad := zad bb base) (mi := mi) (mj := mj) (mr := mr) ho hs)
            rw [zE_i hs (Or.inl rfl)] at hget
            exact va_alen hx hb hK hP _ 0 hget rfl rfl hd kk
          · have hget := (zWs_get (AT := AT) (ad := zad bb base) (mi := mi) (mj := mj) (mr := mr) ho hs)
            rw [zE_j hs] at hget
            exact va_alen hx hb hK hP _ 1 hget rfl rfl hd kk
          · have hget := (zWs_get (AT := AT) (ad := zad bb base) (mi := mi) (mj := mj) (mr := mr) ho hs)
            rw [zE_i hs (Or.inr (Or.inl rfl))] at hget
            exact va_alen hx hb hK hP _ 2 hget rfl rfl hd kk
          · cases hsh0.symm.trans hs
            exact va_slen hx hb hX (Nat.lt_of_lt_of_le hbb hbs) hnb hS hd kk
        · cases h
      · cases h
    · cases h
  · cases zlenOk_eq hl (fun _ _ _ _ h => by cases h) (fun _ _ h => by cases h)
    split at h
    · rename_i v q hk
      cases h
      obtain ⟨own', e1, hw⟩ := zk32_ok hk
      cases hzn.symm.trans e1
      exact lv_ldc hx hb hown (hts _ hw) hd kk
    · cases h
  · cases zlenOk_eq hl (fun _ _ _ _ h => by cases h) (fun _ _ h => by cases h)
    split at h
    · rename_i v q hk
      cases h
      obtain ⟨own', e1, hw⟩ := zk32_ok hk
      cases hzn.symm.trans e1
      exact lv_ldcw hx hb hown (hts _ hw) hd kk
    · cases h
  · cases zlenOk_eq hl (fun _ _ _ _ h => by cases h) (fun _ _ h => by cases h)
    split at h
    · rename_i v q hk
      cases h
      obtain ⟨own', e1, hw⟩ := zk64_ok hk
      cases hzn.symm.trans e1
      exact lv_ldc2 hx hb hown (hts _ hw) hd kk
    · cases h
  · cases h
end ZR
