/-! ===== the interpreter is right (3): writes, what is new, calls ===== -/
theorem zTys_of {t : Nat} {AT : Nat → ClassId} {D : va_G} {U : State} (hK : va_K D vwCl (zTys AT) U) (k : Nat) {q : ClassId × FieldType} (h : (zTys AT)[k]? = some q) : ArrOfT U q.1 q.2 ∧ va_RA U q.1 q.2 := hK.2 k q h
theorem zfl_set {ad : Nat → Nat} {mi mi' : zI} {mj mj' : zJ} {mr mr' : zR} {ci o j n : Nat} {C : String} {T : u_T} {ty : Nat → FieldType} {v : Value} (h : zC[ci]? = some (C, T, n, ty)) (hj : j < n)
    (h1 : zfv ad mi' mj' mr' (ty j) o j = v) (h2 : ∀ i, i ≠ j → mi' o i = mi o i ∧ mj' o i = mj o i ∧ mr' o i = mr o i) : zfl ad mi' mj' mr' ci o = (zfl ad mi mj mr ci o).set j v := by
  refine List.ext_getElem? fun i => ?_
  rw [List.getElem?_set, zfl_len h]
  by_cases hi : i < n
  · rw [zfl_get h hi]
    by_cases e : j = i
    · subst e
      rw [if_pos rfl, if_pos hi, h1]
    · rw [if_neg e, zfl_get h hi]
      obtain ⟨a1, a2, a3⟩ := h2 i (fun q => e q.symm)
      unfold zfv
      rw [a1, a2, a3]
  · rw [List.getElem?_eq_none (by rw [zfl_len h]; omega), if_neg (by omega), List.getElem?_eq_none (by rw [zfl_len h]; omega)]
theorem zkind0 {t : FieldType} (h : zkind t = 0) : t = .int := by cases t <;> simp [zkind] at h; rfl
theorem zkind1 {t : FieldType} (h : zkind t = 1) : t = .long := by cases t <;> simp [zkind] at h; rfl
theorem zkind3 {t : FieldType} (h : zkind t = 3) : t = .boolean := by cases t <;> simp [zkind] at h; rfl
theorem zkind2 {t : FieldType} (h : zkind t = 2) : (∃ n, t = .object n) ∨ ∃ u, t = .array u := by
  cases t <;> simp [zkind] at h
  · exact Or.inl ⟨_, rfl⟩
  · exact Or.inr ⟨_, rfl⟩
theorem zdef_up {sh : zSh} {α : Type} {z : α} {f : Nat → Nat → α} {o i : Nat} {v : α} (ho : o < sh.length) (h : ∀ q, sh.length ≤ q → ∀ j, f q j = z) : ∀ q, sh.length ≤ q → ∀ j, zup f o i v q j = z := by
  intro q hq j
  unfold zup
  rw [if_neg (by omega)]
  exact h q hq j
theorem zdef_rw {sh : zSh} {α : Type} {z : α} {f : Nat → Nat → α} {o : Nat} {g : Nat → α} (ho : o < sh.length) (h : ∀ q, sh.length ≤ q → ∀ j, f q j = z) : ∀ q, sh.length ≤ q → ∀ j, zrw f o g q j = z := by
  intro q hq j
  unfold zrw
  rw [if_neg (by omega)]
  exact h q hq j
def zsz (sh : zSh) : Nat := (sh.map fun q => match q with
  | (0, ci) => (match zC[ci]? with
    | some (_, _, n, _) => n
    | none => 0)
  | (_, n) => n).sum
theorem zsz_app (sh : zSh) (q : Nat × Nat) : zsz (sh ++ [q]) = zsz sh + zsz [q] := by
  unfold zsz
  rw [List.map_append, List.sum_append]
section ZWR
variable {p : Program} {l : Launch} {e : Env} {R : Room} {s : State} {m : MethodId} {args : Array Value} {below : List Frame} {meth : Method} {cd : Code} {H : Heap} {locs : List Loc} {cells slots : Nat} {Q : State → Prop}
variable {b : ByteArray} {pc len : Nat} {ls : Array Slot} {ins : Instr} {S S' : List Value}
variable {D : va_G} {AT : Nat → ClassId} {bb base Ls : Nat} {xs : Nat → Int32} {sh sh' : zSh} {mi mi' : zI} {mj mj' : zJ} {mr mr' : zR}
theorem zwrite_mono {c : Nat} {init : Bool} (h : zwrite c init ins S sh mi mj mr = some (S', sh', mi', mj', mr')) : sh' = sh ∨ ∃ q, sh' = sh ++ [q] := by
  unfold zwrite at h
  split at h
  all_goals (repeat' (split at h))
  all_goals first | (cases h; exact Or.inl rfl) | (cases h; exact Or.inr ⟨_, rfl⟩) | (cases h)
theorem zRep_new {H1 : Heap} {q : Nat × Nat} (hR : zRep D AT bb base Ls xs sh mi mj mr H) (z1 : H1.size = H.size + 1) (o1 : ∀ q : Nat, q < H.size → H1[q]? = H[q]?)
    (he : va_at D vwCl (H.size, zE AT (zad bb base) (sh ++ [q]) mi mj mr sh.length) H1) : zRep D AT bb base Ls xs (sh ++ [q]) mi mj mr H1 := by
  obtain ⟨hP, hsz, hl1, hsh0, hxs, hdef⟩ := hR
  have hw : zWs AT (zad bb base) (sh ++ [q]) mi mj mr = zWs AT (zad bb base) sh mi mj mr ++ [(H.size, zE AT (zad bb base) (sh ++ [q]) mi mj mr sh.length)] := by
    refine List.ext_getElem? fun i => ?_
    unfold zWs
    rw [List.getElem?_append, List.length_map, List.length_range]
    by_cases hi : i < sh.length - 1
    · rw [if_pos hi, List.getElem?_map, List.getElem?_map, List.getElem?_range hi, List.getElem?_range (by simp; omega)]
      simp only [Option.map_some, Option.some.injEq]
      unfold zE
      rw [List.getElem?_append_left (by omega)]
    · rw [if_neg hi, List.getElem?_map]
      by_cases h2 : i = sh.length - 1
      · subst h2
        rw [List.getElem?_range (by simp; omega), Nat.sub_self]
        simp only [Option.map_some, List.getElem?_cons_zero, Option.some.injEq]
        rw [show sh.length - 1 + 1 = sh.length by omega, hsz]
        unfold zad
        rw [if_neg (by omega)]
      · rw [List.getElem?_eq_none (by simp; omega), List.getElem?_eq_none (by simp; omega)]
        rfl
  refine ⟨?_, by rw [z1, hsz]; simp; omega, by simp, by rw [List.getElem?_append_left (by omega)]; exact hsh0, hxs, fun o ho => hdef o (by simp at ho; omega)⟩
  rw [hw]
  refine (hP.kept fun k x hx => o1 x.1 ((hP k x hx).lt)).app fun k x hx => ?_
  have hz : k < 1 := (List.getElem?_eq_some_iff.mp hx).1
  rw [show k = 0 by omega] at hx
  cases hx
  exact he
theorem zS_new {H1 : Heap} {H0 : Heap} (hS : va_S (fun q : Nat => base ≤ q) H0 H locs) (z1 : H1.size = H.size + 1) (o1 : ∀ q : Nat, q < H.size → H1[q]? = H[q]?) : va_S (fun q : Nat => base ≤ q) H0 H1 locs :=
  ⟨Nat.le_trans hS.1 (by omega), fun x h1 h2 => (o1 x (Nat.lt_of_lt_of_le h1 hS.1)).trans (hS.2.1 x h1 h2), hS.2.2⟩
theorem zad_len (hR : zRep D AT bb base Ls xs sh mi mj mr H) : zad bb base sh.length = H.size := by
  obtain ⟨-, hsz, hl1, -⟩ := hR
  unfold zad
  rw [if_neg (by omega), hsz]
theorem znewa {ty : FieldType} {aty : ArrayType} {t k : Nat} {n : Int32} {r : List Value} {ml c : Nat} {own : String} (X : zCx D AT bb base Ls xs p s m args cd b ml c own) (hS : va_S (fun q : Nat => base ≤ q) s.heap H locs) (hR : zRep D AT bb base Ls xs sh mi mj mr H) (hd : decode b pc = .ok (.newarray aty, 2))
    (hty : newarray.typeOf aty = ty) (hword : Cond.arrayClass ty ∈ zW) (hk : (zTys AT)[k]? = some (AT t, ty)) (hRA : ∀ cA, va_RA s (AT t) ty → s.vm.findClass ("[" ++ ty.toString) = some cA → cA = AT t)
    (hn : 0 ≤ n ∧ n ≤ 100000) (hcb : componentBytes ty ≤ 8) (hcell : zE AT (zad bb base) (sh ++ [(t, n.toNatClampNeg)]) mi mj mr sh.length = .inl (AT t, n.toNatClampNeg, .inl (mi sh.length)) ∧ defaultValue ty = .int 0 ∨ zE AT (zad bb base) (sh ++ [(t, n.toNatClampNeg)]) mi mj mr sh.length = .inl (AT t, n.toNatClampNeg, .inr (.inl (mj sh.length))) ∧ defaultValue ty = .long 0)
    (hc : cells + 1 ≤ R.cells) (hs : slots + n.toNatClampNeg ≤ R.slots)
    (kk : ∀ H1, zRep D AT bb base Ls xs (sh ++ [(t, n.toNatClampNeg)]) mi mj mr H1 → va_S (fun q : Nat => base ≤ q) s.heap H1 locs → W p l e R s m args below meth cd H1 locs (cells + 1) (slots + n.toNatClampNeg) Q (F0 m (pc + 2) ls (.ref (zad bb base sh.length) :: r))) : W p l e R s m args below meth cd H locs cells slots Q (F0 m pc ls (.int n :: r)) := by
  subst hty
  obtain ⟨hx, hb, hml, hown, hzn, hts, ⟨hK, hU⟩, hX, hbb, hbs⟩ := X
  have hdef := hR.2.2.2.2.2
  have h100 : n.toNatClampNeg ≤ 100000 := by
    have := Int32.le_iff_toInt_le.mp hn.2
    have h0 := Int32.le_iff_toInt_le.mp hn.1
    unfold Int32.toNatClampNeg
    have e1 : (100000 : Int32).toInt = 100000 := by decide
    have e0 : (0 : Int32).toInt = 0 := by decide
    omega
  refine va_newaK hx hb (hts _ hword) rfl hd rfl (fun q => ?_) rfl ?_ hc hs rfl fun H1 cA e1 z1 o1 hAr hNm => ?_
  · have h0 := Int32.le_iff_toInt_le.mp hn.1
    have h1 := Int32.lt_iff_toInt_lt.mp q
    omega
  · exact Nat.le_trans (Nat.mul_le_mul h100 hcb) (Nat.le_of_ble_eq_true rfl)
  · cases hRA cA (hK.2 k _ hk).2 hNm
    rw [zad_len hR] at kk
    refine kk H1 (zRep_new hR z1 o1 ?_) (zS_new hS z1 o1)
    rcases hcell with ⟨hE, hdv⟩ | ⟨hE, hdv⟩
    · rw [hE]
      show H1[H.size]? = some (vp_cell _ _)
      rw [vp_cell_i, e1, hdv]
      congr 2
      funext j
      rw [(hdef sh.length (Nat.le_refl _) j).1]
    · rw [hE]
      show H1[H.size]? = some (vp_cell _ _)
      rw [vp_cell_l, e1, hdv]
      congr 2
      funext j
      rw [(hdef sh.length (Nat.le_refl _) j).2.1]
theorem zA_mem : Cond.arrayClass .int ∈ zW ∧ Cond.arrayClass .long ∈ zW ∧ Cond.arrayClass .char ∈ zW ∧ Cond.arrayClass .boolean ∈ zW ∧ Cond.initialized "java/lang/System" ∈ zW := by
  have h := zA_ok
  simp only [Bool.and_eq_true] at h
  obtain ⟨⟨⟨⟨⟨⟨⟨h1, h2⟩, h3⟩, h4⟩, -⟩, -⟩, -⟩, h5⟩ := h
  exact ⟨zW_mem h1 rfl, zW_mem h2 rfl, zW_mem h3 rfl, zW_mem h4 rfl, zW_mem h5 rfl⟩
theorem zRep_upd {o : Nat} {q : Nat × Nat} {H1 : Heap} (hR : zRep D AT bb base Ls xs sh mi mj mr H) (hso : sh[o]? = some q) (ho : 1 ≤ o) (z : H1.size = H.size) (oq : ∀ q : Nat, q ≠ zad bb base o → H1[q]? = H[q]?)
    (he : va_at D vwCl (zad bb base o, zE AT (zad bb base) sh mi' mj' mr' o) H1) (h2 : ∀ o', o' ≠ o → mi' o' = mi o' ∧ mj' o' = mj o' ∧ mr' o' = mr o') : zRep D AT bb base Ls xs sh mi' mj' mr' H1 := by
  obtain ⟨hP, hsz, hl1, hsh0, hxs, hdef⟩ := hR
  have hlt : o < sh.length := (List.getElem?_eq_some_iff.mp hso).1
  have hget := (zWs_get (AT := AT) (ad := zad bb base) (mi := mi) (mj := mj) (mr := mr) ho hso)
  have hws : (zWs AT (zad bb base) sh mi mj mr).set (o - 1) (zad bb base o, zE AT (zad bb base) sh mi' mj' mr' o) = zWs AT (zad bb base) sh mi' mj' mr' :=
    zWs_set ho hso rfl fun o' ho' => zE_congr (h2 o' ho').1 (h2 o' ho').2.1 (h2 o' ho').2.2
  refine ⟨?_, z.trans hsz, hl1, hsh0, fun i => ?_, fun q hq i => ?_⟩
  · rw [← hws]
    exact hP.set (zad_D AT sh mi mj mr) hget he oq
  · rw [(h2 0 (by omega)).1]; exact hxs i
  · obtain ⟨a1, a2, a3⟩ := h2 q (by omega)
    rw [a1, a2, a3]; exact hdef q hq i
theorem zad_A {o : Nat} (ho : 1 ≤ o) : base ≤ zad bb base o := by
  unfold zad
  rw [if_neg (by omega)]
  omega
theorem zput {c : Nat} {ml : Nat} {own : String} {o ci j idx n : Nat} {C : String} {T : u_T} {ty : Nat → FieldType} {v : Value} {r : List Value} (X : zCx D AT bb base Ls xs p s m args cd b ml c own) (hS : va_S (fun q : Nat => base ≤ q) s.heap H locs) (hR : zRep D AT bb base Ls xs sh mi mj mr H)
    (hd : decode b pc = .ok (.putfield idx, 3)) (hso : sh[o]? = some (0, ci)) (ho : 1 ≤ o) (hc : zC[ci]? = some (C, T, n, ty)) (hj : j < n) (hlink : Cond.fieldLink own idx (T j).1 (T j).2.1 (T j).2.2.1 ∈ zW)
    (hfin : (T j).2.2.2 = false ∨ (meth.name = "<init>" ∧ ci = c)) (hn : narrow (ty j) (zcv (zad bb base) v) = zcv (zad bb base) v) (hfit : fits (ty j) (zcv (zad bb base) v) = true)
    (hv : zfv (zad bb base) mi' mj' mr' (ty j) o j = zcv (zad bb base) v) (h2 : ∀ o' i, ¬ (o' = o ∧ i = j) → mi' o' i = mi o' i ∧ mj' o' i = mj o' i ∧ mr' o' i = mr o' i)
    (kk : ∀ H1 locs1, zRep D AT bb base Ls xs sh mi' mj' mr' H1 → va_S (fun q : Nat => base ≤ q) s.heap H1 locs1 → W p l e R s m args below meth cd H1 locs1 cells slots Q (F0 m (pc + 3) ls (r.map (zcv (zad bb base))))) : W p l e R s m args below meth cd H locs cells slots Q (F0 m pc ls (List.map (zcv (zad bb base)) (v :: .ref o :: r))) := by
  obtain ⟨hx, hb, hml, hown, hzn, hts, ⟨hK, hU⟩, hX, hbb, hbs⟩ := X
  have hget := (zWs_get (AT := AT) (ad := zad bb base) (mi := mi) (mj := mj) (mr := mr) ho hso)
  rw [zE_o hso] at hget
  have hfl : zfl (zad bb base) mi' mj' mr' ci o = (zfl (zad bb base) mi mj mr ci o).set j (zcv (zad bb base) v) := zfl_set hc hj hv fun i hi => h2 o i (fun q => hi q.2)
  have hin := zC_ws hc
  have hap := va_apart (own := own) hts hin ty (zC_ty hc) (zC_nm hc) hK (zC_vw' hc)
  obtain ⟨r', h1, cell, q1, q2, q3, q4⟩ := hR.1 _ _ hget
  cases h1.symm.trans (zC_vw' hc)
  obtain ⟨hSl, hfc, kC, hkC, hkind⟩ := hK.1 ci _ (zC_vw' hc)
  obtain ⟨cf, kf, fi, f, hi, hsl⟩ := hSl j hj
  have hst := (u_facts hfc hkC (u_lays hts hin hj) hi).1
  have hd2 := zC_ty hc j hj
  have fin : ∀ H' : Heap, H'[zad bb base o]? = some (cell.setSlot (D.2 ci j) (zcv (zad bb base) v)) → H'.size = H.size → (∀ q, q ≠ zad bb base o → H'[q]? = H[q]?) → zRep D AT bb base Ls xs sh mi' mj' mr' H' ∧ va_S (fun q : Nat => base ≤ q) s.heap H' (locs ++ [⟨zad bb base o, D.2 ci j⟩]) := by
    intro H' e1 e2 e3
    refine ⟨zRep_upd hR hso ho e2 e3 ?_ fun o' ho' => ⟨?_, ?_, ?_⟩, hS.put e2 e3 (zad_A ho)⟩
    · rw [zE_o hso, hfl]
      exact ⟨_, zC_vw' hc, t_OB.to (V := updV (vp_V (zfl (zad bb base) mi mj mr ci o)) j (zcv (zad bb base) v)) ⟨_, e1, q2, q3, t_set q4 hap hj _⟩ (fun i _ => vp_updV_set (by rw [zfl_len hc]; exact hj) _ i)⟩
    · funext i; exact (h2 o' i (fun q => ho' q.1)).1
    · funext i; exact (h2 o' i (fun q => ho' q.1)).2.1
    · funext i; exact (h2 o' i (fun q => ho' q.1)).2.2
  have hlay := hts _ (hin _ (u_in_lay hj))
  unfold u_lay at hlay
  rcases Bool.eq_false_or_eq_true (T j).2.2.2 with hf | hf
  · rcases hfin with h | ⟨hin2, rfl⟩
    · rw [hf] at h; cases h
    · have hdecl : (T j).1 = own := by
        obtain ⟨p1, p2⟩ := zC_own hc
        cases hzn.symm.trans p1
        exact p2 j hj
      rw [if_pos hf] at hlay
      have hcf : m.cls = cf := by
        obtain ⟨_, _, c', _, _, _, -, -, hf', -, -, -, hown2, -⟩ := Cond.laysFinal_spec hlay
        have e1 : c' = cf := by have := hi.symm.trans hf'; simp at this; exact this.1.symm
        rw [hdecl] at hown2
        rw [← e1]; exact Option.some.inj (hown.symm.trans hown2)
      have h6 := u_fits hfc hkC hkind (Or.inr hlay) hi hd2 hn hfit
      refine W.putFinK hx hb hown (hts _ hlink) hi hst hcf hin2 (by rw [q2]; exact h6) q1 q3 (by rw [hsl]; exact k2_hasslot (q4 j hj)) rfl rfl hd fun H' e1 e2 e3 => ?_
      rw [hsl] at e1 ⊢
      exact kk H' _ (fin H' e1 e2 e3).1 (fin H' e1 e2 e3).2
  · rw [if_neg (by rw [hf]; decide)] at hlay
    have h6 := u_store hfc hkC hkind hlay hi hd2 hn hfit
    refine W.putK hx hb (f := f) ⟨hown, hts _ hlink, ⟨_, _, _, hi⟩, hst⟩ (by rw [q2]; exact h6) q1 q3 (by rw [hsl]; exact k2_hasslot (q4 j hj)) rfl rfl hd fun H' e1 e2 e3 => ?_
    rw [hsl] at e1 ⊢
    exact kk H' _ (fin H' e1 e2 e3).1 (fin H' e1 e2 e3).2
theorem zupI {t : Nat} {n o i : Nat} {v : Int32} {c0 : ClassId} (h : t = 1 ∨ t = 3 ∨ t = 4) (hso : sh[o]? = some (t, n)) {H1 : Heap} {a : Nat} (e : H1[a]? = some ((vp_cell c0 (n, .inl (mi o))).setSlot i (.int v))) (hc0 : c0 = AT t) {ad : Nat → Nat} :
    va_at D vwCl (a, zE AT ad sh (zup mi o i v) mj mr o) H1 := by
  subst hc0
  rw [zE_i hso h]
  show H1[a]? = some (vp_cell _ _)
  rw [e, vp_cell_i, vp_cell_i, arrV_store]
  congr 2
  funext q
  unfold updV zup
  by_cases hq : q = i
  · subst hq; simp
  · simp [hq]
set_option maxHeartbeats 4000000 in
theorem zcopy {α : Type} {F : α → Value} {t k : Nat} {ty : FieldType} {ml c idx : Nat} {own : String} {a0 a n0 n1 : Nat} {sp dp n : Int32} {f g : Nat → α} {rest : List Value} {E : Nat → (Nat → α) → vp_A} (X : zCx D AT bb base Ls xs p s m args cd b ml c own) (hlen : ls.size = ml) (hS : va_S (fun q : Nat => base ≤ q) s.heap H locs) (hR : zRep D AT bb base Ls xs sh mi mj mr H)
    (hcell : ∀ (cA : ClassId) (N : Nat) (f : Nat → α), vp_cell cA (E N f) = arrV cA N (fun j => F (f j)))
    (hs0 : sh[a0]? = some (t, n0)) (hs1 : sh[a]? = some (t, n1)) (h10 : 1 ≤ a0) (h11 : 1 ≤ a) (hE0 : zE AT (zad bb base) sh mi mj mr a0 = .inl (AT t, E n0 f)) (hE1 : zE AT (zad bb base) sh mi mj mr a = .inl (AT t, E n1 g))
    (hE' : zE AT (zad bb base) sh mi' mj' mr' a = .inl (AT t, E n1 (va_cpy f g sp.toNatClampNeg dp.toNatClampNeg n.toNatClampNeg))) (h2 : ∀ o', o' ≠ a → mi' o' = mi o' ∧ mj' o' = mj o' ∧ mr' o' = mr o')
    (hk : (zTys AT)[k]? = some (AT t, ty)) (hprim : refKind ty = false) (hfit : ∀ x : α, fits ty (F x) = true ∧ ∀ (T : State) (c : ClassId), T.takes c (F x)) (hl : Cond.methodLink own idx arraycopyName ∈ zW) (hst : Cond.static arraycopyName ∈ zW) (hnat : Cond.native arraycopyName ∈ zW)
    (h1 : 0 ≤ sp) (h2' : 0 ≤ dp) (h3 : 0 ≤ n) (h4 : sp.toNatClampNeg + n.toNatClampNeg ≤ n0) (h5 : dp.toNatClampNeg + n.toNatClampNeg ≤ n1) (hfr : 1 ≤ R.frames) (hlo : 38 ≤ R.locals) (hcat : (rest.map fun v => v.category).sum ≤ 8) (hd : decode b pc = .ok (.invokestatic idx, 3))
    (kk : ∀ H1 locs1, zRep D AT bb base Ls xs sh mi' mj' mr' H1 → va_S (fun q : Nat => base ≤ q) s.heap H1 locs1 → W p l e R s m args below meth cd H1 locs1 cells slots Q (F0 m (pc + 3) ls rest)) :
    W p l e R s m args below meth cd H locs cells slots Q (F0 m pc ls (.int n :: .int dp :: .ref (zad bb base a) :: .int sp :: .ref (zad bb base a0) :: rest)) := by
  obtain ⟨hx, hb, hml, hown, hzn, hts, ⟨hK, hU⟩, hX, hbb, hbs⟩ := X
  have ha0 := (zWs_get (AT := AT) (ad := zad bb base) (mi := mi) (mj := mj) (mr := mr) h10 hs0)
  have ha1 := (zWs_get (AT := AT) (ad := zad bb base) (mi := mi) (mj := mj) (mr := mr) h11 hs1)
  rw [hE0] at ha0
  rw [hE1] at ha1
  have nn : ∀ z : Int32, 0 ≤ z → z.toInt = (z.toNatClampNeg : Int) ∧ ¬ z < 0 := by
    intro z hz
    have hz0 : (0 : Int) ≤ z.toInt := by simpa using Int32.le_iff_toInt_le.mp hz
    refine ⟨?_, fun q => ?_⟩
    · show z.toInt = ((z.toInt.toNat : Nat) : Int)
      omega
    · have := Int32.lt_iff_toInt_lt.mp q
      simp at this
      omega
  have hw : nativeFrameWords "java/lang/System" "arraycopy" 5 ≤ 19 := by decide +kernel
  have hroom : 2 * (F0 m pc ls (.int n :: .int dp :: .ref (zad bb base a) :: .int sp :: .ref (zad bb base a0) :: rest)).monitorRoom + (rest.map fun v => v.category).sum + (nativeFrameWords "java/lang/System" "arraycopy" 5 + 11) ≤ R.locals := by show 2 * 0 + _ + _ ≤ _; omega
  intro T hT X
  have hc0 : H[zad bb base a0]? = some (vp_cell (AT t) (E n0 f)) := hR.1 _ _ ha0
  have hc1 : H[zad bb base a]? = some (vp_cell (AT t) (E n1 g)) := hR.1 _ _ ha1
  rw [hcell] at hc0 hc1
  obtain ⟨-, k0, hk0, cm0, hkk0⟩ := (hK.2 k _ hk).1 n0 (fun j => F (f j))
  obtain ⟨-, k1, hk1, cm1, hkk1⟩ := (hK.2 k _ hk).1 n1 (fun j => F (g j))
  obtain ⟨vm', X', step⟩ := X.arraycopy hx hown (hts _ hl) (hts _ hnat) (hts _ hst) (hts _ zA_mem.2.2.2.2) (src := zad bb base a0) (dst := zad bb base a) (cs := arrV (AT t) n0 fun j => F (f j)) (cd := arrV (AT t) n1 fun j => F (g j)) (srcPos := sp) (destPos := dp) (n := n) (by rw [hT]; exact hc0) (by rw [hT]; exact hc1)
    (fun _ h => by cases h) (fun _ h => by cases h) (fun h => by cases h) (fun h => by cases h) hk0 hk1 hkk0 hkk1 (by simp [hprim]) (nn sp h1).2 (nn dp h2').2 (nn n h3).2
    (by rw [(nn sp h1).1, (nn n h3).1, arrV_size]; omega)
    (by rw [(nn dp h2').1, (nn n h3).1, arrV_size]; omega)
    (fun vm₁ _ i hi => by
      have e : (arrV (AT t) n0 fun j => F (f j)).slots.getD (sp.toNatClampNeg + i) .null = F (f (sp.toNatClampNeg + i)) := by
        rw [Array.getD_eq_getD_getElem?, arrV_read _ _ (by omega)]
        rfl
      refine ⟨?_, ?_⟩
      · rw [e]
        exact (hfit _).1
      · rw [e]
        exact (hfit _).2 _ _)
    (g := F0 m pc ls (.int n :: .int dp :: .ref (zad bb base a) :: .int sp :: .ref (zad bb base a0) :: rest)) rfl (by rw [hml, hlen]) (rest := rest) rfl (by rw [hb]; exact hd) hfr hroom
  have e1 : copied (arrV (AT t) n0 fun j => F (f j)) (arrV (AT t) n1 fun j => F (g j)) sp dp n = arrV (AT t) n1 fun j => F (va_cpy f g sp.toNatClampNeg dp.toNatClampNeg n.toNatClampNeg j) := va_copied F (AT t) (AT t) f g h4
  rw [e1] at X' step
  have hl2 : zad bb base a < H.size := (Array.getElem?_eq_some_iff.mp hc1).1
  have hheap : ((T.setVm vm').setCell (zad bb base a) (arrV (AT t) n1 fun j => F (va_cpy f g sp.toNatClampNeg dp.toNatClampNeg n.toNatClampNeg j))).heap = H.setIfInBounds (zad bb base a) (arrV (AT t) n1 fun j => F (va_cpy f g sp.toNatClampNeg dp.toNatClampNeg n.toNatClampNeg j)) := by rw [← hT]; rfl
  have oq : ∀ q : Nat, q ≠ zad bb base a → (H.setIfInBounds (zad bb base a) (arrV (AT t) n1 fun j => F (va_cpy f g sp.toNatClampNeg dp.toNatClampNeg n.toNatClampNeg j)))[q]? = H[q]? := fun q hq => by simp [Array.getElem?_setIfInBounds, Ne.symm hq]
  obtain ⟨t', a1, b1⟩ := kk _ _ (zRep_upd hR hs1 h11 (by simp) oq (by rw [hE']; show (H.setIfInBounds (zad bb base a) _)[zad bb base a]? = some (vp_cell _ _); rw [hcell]; simp [Array.getElem?_setIfInBounds, hl2]) h2) ⟨by simp; exact hS.1, fun q g1 g2 => by
      rw [oq q (fun e => g2 (by rw [e]; exact zad_A h11))]
      exact hS.2.1 q g1 g2, fun q hq => by
      rcases List.mem_append.mp hq with h | h
      · exact hS.2.2 q h
      · obtain ⟨z, -, hz⟩ := List.mem_map.mp h
        rw [← hz]
        exact zad_A h11⟩ _ hheap X'
  exact ⟨t', step t' a1, b1⟩
end ZWR
