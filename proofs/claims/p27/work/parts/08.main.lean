/-! ===== the interpreter is right (5): calls, and whole runs ===== -/
theorem zpop_spec : ∀ {n : Nat} {S acc A R : List Value}, zpop n S acc = some (A, R) → ∃ P, A = P ++ acc ∧ S = P.reverse ++ R ∧ P.length = n
  | 0, S, acc, A, R, h => by cases h; exact ⟨[], rfl, rfl, rfl⟩
  | n + 1, v :: S, acc, A, R, h => by
    obtain ⟨P, h1, h2, h3⟩ := zpop_spec (n := n) h
    exact ⟨P ++ [v], by rw [h1]; simp, by rw [h2]; simp, by simp [h3]⟩
  | n + 1, [], acc, A, R, h => by cases h
theorem zentL_sl (ad : Nat → Nat) (as : List Value) : (zentL as).length = (lg_sl (as.map (zcv ad))).length := by
  induction as with
  | nil => rfl
  | cons v r ih =>
    rw [zentL, List.map_cons]
    unfold lg_sl at ih ⊢
    rw [List.flatMap_cons, List.length_append, zcv_cat, ← ih]
    split <;> simp <;> omega
theorem zentL_get (ad : Nat → Nat) : ∀ (as : List Value) (i j : Nat) (v : Value), zget (zentL as) j = some v → (i + j, zcv ad v) ∈ lv_args i (as.map (zcv ad))
  | [], i, j, v, h => by simp [zentL, zget] at h
  | u :: r, i, j, v, h => by
    rw [zentL] at h
    rw [List.map_cons, lv_args, zcv_cat]
    split at h
    · rename_i hc
      rw [if_pos hc]
      match j, h with
      | 0, h => simp [zget] at h; subst h; exact List.mem_cons_self
      | 1, h => simp [zget] at h
      | j + 2, h =>
        simp only [zget] at h
        have := zentL_get ad r (i + 2) j v h
        rw [show i + 2 + j = i + (j + 2) by omega] at this
        exact List.mem_cons_of_mem _ this
    · rename_i hc
      rw [if_neg hc]
      match j, h with
      | 0, h => simp [zget] at h; subst h; exact List.mem_cons_self
      | j + 1, h =>
        simp only [zget] at h
        have := zentL_get ad r (i + 1) j v h
        rw [show i + 1 + j = i + (j + 1) by omega] at this
        exact List.mem_cons_of_mem _ this
theorem zent_has (ad : Nat → Nat) {as : List Value} {ml : Nat} (h : (zentL as).length ≤ ml) : zHas ad ((lg_sl (as.map (zcv ad)) ++ List.replicate (ml - (lg_sl (as.map (zcv ad))).length) Slot.unset).toArray) ml (zent ml as) := by
  have e := zentL_sl ad as
  obtain ⟨h1, h2, h3⟩ := lv_entry (as.map (zcv ad)) (n := ml) (by rw [← e]; exact h)
  refine ⟨h1, h2, fun j v hj => ?_, by unfold zent; simp; omega⟩
  have hj' : zget (zentL as) j = some v := by
    unfold zent at hj
    rw [zget_eq] at hj ⊢
    rcases Nat.lt_or_ge j (zentL as).length with q | q
    · rw [List.getElem?_append_left q] at hj; exact hj
    · rw [List.getElem?_append_right q] at hj
      rw [List.getElem?_replicate] at hj
      split at hj <;> simp at hj
  have := zentL_get ad as 0 j v hj'
  rw [Nat.zero_add] at this
  exact h3 _ this
theorem zstep_mono {k pc : Nat} {L : zLS} {S : List Value} {sh : zSh} {mi : zI} {mj : zJ} {mr : zR} {pc' : Nat} {L' : zLS} {S' : List Value} {sh' : zSh} {mi' : zI} {mj' : zJ} {mr' : zR}
    (h : zstep k pc L S sh mi mj mr = some (.inl (pc', L', S', sh', mi', mj', mr'))) : sh.length ≤ sh'.length ∧ zsz sh ≤ zsz sh' := by
  have ok : (sh' = sh ∨ ∃ q, sh' = sh ++ [q]) → sh.length ≤ sh'.length ∧ zsz sh ≤ zsz sh' := by
    rintro (rfl | ⟨q, rfl⟩)
    · exact ⟨Nat.le_refl _, Nat.le_refl _⟩
    · exact ⟨by simp, by rw [zsz_app]; omega⟩
  unfold zstep at h
  split at h
  · split at h
    · split at h
      · unfold zins at h
        split at h
        · cases h; exact ok (Or.inl rfl)
        · split at h
          · split at h
            · cases h; exact ok (Or.inl rfl)
            · cases h
          · split at h
            · cases h; exact ok (Or.inl rfl)
            · split at h
              · cases h; exact ok (Or.inl rfl)
              · split at h
                · rename_i hw
                  cases h
                  exact ok (zwrite_mono hw)
                · split at h
                  · cases h
                  · split at h <;> cases h
      · cases h
    · cases h
  · cases h
theorem zex_grow : ∀ (n k pc : Nat) (L : zLS) (S : List Value) (sh : zSh) (mi : zI) (mj : zJ) (mr : zR) (r : zRes), zex n k pc L S sh mi mj mr = some r → sh.length ≤ r.2.1.length ∧ zsz sh ≤ zsz r.2.1 := by
  intro n
  induction n with
  | zero => intro k pc L S sh mi mj mr r h; simp [zex] at h
  | succ n ih =>
    intro k pc L S sh mi mj mr r h
    rw [zex] at h
    split at h
    · rename_i hs
      have h1 := zstep_mono hs
      have h2 := ih _ _ _ _ _ _ _ _ _ h
      exact ⟨Nat.le_trans h1.1 h2.1, Nat.le_trans h1.2 h2.2⟩
    · cases h; exact ⟨Nat.le_refl _, Nat.le_refl _⟩
    · obtain ⟨q, h1, h2⟩ := Option.bind_eq_some_iff.mp h
      have a := ih _ _ _ _ _ _ _ _ _ h1
      have b := ih _ _ _ _ _ _ _ _ _ h2
      exact ⟨Nat.le_trans a.1 b.1, Nat.le_trans a.2 b.2⟩
    · cases h
section ZM
variable {p : Program} {l : Launch} {e : Env} {R : Room} {s : State} {m : MethodId} {args : Array Value} {below : List Frame} {meth : Method} {cd : Code} {H : Heap} {locs : List Loc} {cells slots : Nat} {Q : State → Prop}
variable {b : ByteArray} {pc len : Nat} {ls : Array Slot} {ins : Instr} {S S' : List Value}
variable {D : va_G} {AT : Nat → ClassId} {bb base Ls : Nat} {xs : Nat → Int32} {sh sh' : zSh} {mi mi' : zI} {mj mj' : zJ} {mr mr' : zR}
/-- a method's start and end -/
def zPre (D : va_G) (AT : Nat → ClassId) (bb base Ls : Nat) (xs : Nat → Int32) (sh : zSh) (mi : zI) (mj : zJ) (mr : zR) (U : State) : Prop := zRep D AT bb base Ls xs sh mi mj mr U.heap ∧ zU D AT U ∧ va_X bb Ls xs U U.heap ∧ bb < base
def zQ (D : va_G) (AT : Nat → ClassId) (bb base Ls : Nat) (xs : Nat → Int32) (v : Option Value) (sh : zSh) (mi : zI) (mj : zJ) (mr : zR) : Array Value → State → Outcome → State → Prop := fun _ st oc t => (oc = .returned (v.map (zcv (zad bb base))) ∧ zRep D AT bb base Ls xs sh mi mj mr t.heap) ∧ va_F (fun q : Nat => base ≤ q) st t
def zRetAt (ad : Nat → Nat) (b : ByteArray) (rt : Option FieldType) (pc : Nat) (v : Option Value) (S : List Value) : Prop := ∃ ins S0, decode b pc = .ok (ins, 1) ∧ zretv rt ins S0 = some v ∧ S = S0.map (zcv ad)
theorem zPre_blind {av : List Value} : FrameBlind (va_Pc av (zPre D AT bb base Ls xs sh mi mj mr)) := by
  intro a U g mk h
  obtain ⟨h1, h2, ⟨hK, hN, hA1, hA2, hA3⟩, h4, h5⟩ := h
  refine ⟨h1, h2, ⟨va_K.moved (u := U) (U := U.calling g mk a) (Vm.Alike.refl U.vm) hK, fun own idx y hy => va_Nw.same rfl (u := U) (U := U.calling g mk a) rfl (hN own idx y hy), hA1.moved (u := U) (U := U.calling g mk a) (Vm.Alike.refl U.vm), hA2.moved (u := U) (U := U.calling g mk a) (Vm.Alike.refl U.vm), hA3.moved (u := U) (U := U.calling g mk a) (Vm.Alike.refl U.vm)⟩, ?_, h5⟩
  exact va_X.moved (u := U) (U := U.calling g mk a) (Vm.Alike.refl U.vm) h4
theorem z_call {mc ms : Nat} {st0 rest : List Value} {v : Option Value} {a : Array Value} (hr : va_Run p l e R s m args below meth cd H locs cells slots mc ms (F0 m pc ls st0) rest (zQ D AT bb base Ls xs v sh mi mj mr a) (fun q : Nat => base ≤ q)) (hS : va_S (fun q : Nat => base ≤ q) s.heap H locs)
    (kk : ∀ H1 locs1, zRep D AT bb base Ls xs sh mi mj mr H1 → va_S (fun q : Nat => base ≤ q) s.heap H1 locs1 → W p l e R s m args below meth cd H1 locs1 (cells + mc) (slots + ms) Q (F0 m (pc + 3) ls ((v.map (zcv (zad bb base))).toList ++ rest))) : W p l e R s m args below meth cd H locs cells slots Q (F0 m pc ls st0) := by
  intro T hT X
  obtain ⟨v', st₀, t, T', L, h0, X', hL, e1, e2, ⟨⟨hv, hp⟩, hz, hk⟩, st⟩ := hr T hT X
  cases hv
  rw [h0] at hz hk
  obtain ⟨t2, a1, b1⟩ := kk T'.heap (locs ++ L) (by rw [e1]; exact hp)
    ⟨Nat.le_trans hS.1 (by rw [e1]; exact hz), fun q h1 h2 => by rw [e1, hk q (Nat.lt_of_lt_of_le h1 hS.1) h2]; exact hS.2.1 q h1 h2, fun q hq => by
      rcases List.mem_append.mp hq with h | h
      · exact hS.2.2 q h
      · exact hL q h⟩ T' rfl X'
  exact ⟨t2, st t2 a1, b1⟩
theorem zM_get {k : Nat} {y : MethodName} {b : ByteArray} {ml c lv np q1 q2 : Nat} {rt : Option FieldType} (hk : 1 ≤ k) (h : zM[k]? = some (y, b, ml, rt, c, lv, np, q1, q2)) :
    Cond.code y b ml rt ∈ zW ∧ Cond.initialized y.cls ∈ zW ∧ (y.cls ≠ "java/lang/invoke/MethodHandle" ∧ y.cls ≠ "java/lang/invoke/VarHandle") ∧ (parseMethodDescriptor y.desc).map (fun d => d.parameters.length) = some np ∧ ml ≤ 19 ∧ 1 ≤ lv ∧ zN[c]? = some y.cls ∧ plainFor y = true := by
  have hm : (y, b, ml, rt, c, lv, np, q1, q2) ∈ zM.drop 1 := by
    refine List.mem_of_getElem? (i := k - 1) ?_
    rw [List.getElem?_drop, show 1 + (k - 1) = k by omega]
    exact h
  have h1 := List.all_eq_true.mp zM_ok _ hm
  have h2 := List.all_eq_true.mp zMc_ok _ hm
  unfold zMok at h1
  unfold zMcf at h2
  simp only [Bool.and_eq_true, decide_eq_true_eq, Bool.or_eq_true] at h1
  obtain ⟨⟨⟨⟨⟨⟨⟨a1, a2⟩, a3⟩, a4⟩, a5⟩, a6⟩, a7⟩, a8⟩ := h1
  refine ⟨zW_mem h2 rfl, zW_mem a1 rfl, ⟨a2, a3⟩, a4, a5, a6, a7, ?_⟩
  rcases a8 with q | q
  · exact plainFor_of_name q
  · exact q
/-- what a run of the interpreter gives for the machine -/
def zGoal (n : Nat) : Prop := ∀ (k pc : Nat) (L : zLS) (S : List Value) (sh : zSh) (mi : zI) (mj : zJ) (mr : zR) (v : Option Value) (sh' : zSh) (mi' : zI) (mj' : zJ) (mr' : zR), zex n k pc L S sh mi mj mr = some (v, sh', mi', mj', mr') →
  ∀ (y : MethodName) (b : ByteArray) (ml : Nat) (rt : Option FieldType) (c lv np q1 q2 : Nat), zM[k]? = some (y, b, ml, rt, c, lv, np, q1, q2) →
  ∀ (p : Program) (l : Launch) (e : Env) (R : Room) (s : State) (m : MethodId) (args : Array Value) (below : List Frame) (meth : Method) (cd : Code) (H : Heap) (locs : List Loc) (cells slots : Nat) (Q : State → Prop) (ls : Array Slot) (D : va_G) (AT : Nat → ClassId) (bb base Ls : Nat) (xs : Nat → Int32),
  zCx D AT bb base Ls xs p s m args cd b ml c y.cls → ((y.name == "<init>") = true → meth.name = "<init>") → 1 ≤ lv → lv ≤ R.frames → 38 * lv ≤ R.locals → va_S (fun q : Nat => base ≤ q) s.heap H locs → zRep D AT bb base Ls xs sh mi mj mr H → zHas (zad bb base) ls ml L →
  cells + (sh'.length - sh.length) ≤ R.cells → slots + (zsz sh' - zsz sh) ≤ R.slots →
  (∀ H1 locs1 ls1 pc1 S1, zRetAt (zad bb base) b rt pc1 v S1 → zRep D AT bb base Ls xs sh' mi' mj' mr' H1 → va_S (fun q : Nat => base ≤ q) s.heap H1 locs1 → W p l e R s m args below meth cd H1 locs1 R.cells R.slots Q (F0 m pc1 ls1 S1)) →
  W p l e R s m args below meth cd H locs cells slots Q (F0 m pc ls (S.map (zcv (zad bb base))))
theorem zQ_end {v : Option Value} {t : State} (hS : va_S (fun q : Nat => base ≤ q) s.heap H locs) (hR : zRep D AT bb base Ls xs sh mi mj mr H) (ht : t.heap = H) (a : Array Value) (o : Outcome) (ho : o = .returned (v.map (zcv (zad bb base)))) : zQ D AT bb base Ls xs v sh mi mj mr a s o t :=
  ⟨⟨ho, by rw [ht]; exact hR⟩, hS.F ht⟩
set_option maxHeartbeats 4000000 in
theorem zmet (n : Nat) (ih : zGoal n) (k : Nat) (hk : 1 ≤ k) (as : List Value) (v : Option Value) (sh : zSh) (mi : zI) (mj : zJ) (mr : zR) (sh' : zSh) (mi' : zI) (mj' : zJ) (mr' : zR) (h : zex n k 0 (zent (zml k) as) [] sh mi mj mr = some (v, sh', mi', mj', mr'))
    (y : MethodName) (b : ByteArray) (ml : Nat) (rt : Option FieldType) (c lv np q1 q2 : Nat) (hM : zM[k]? = some (y, b, ml, rt, c, lv, np, q1, q2)) (hlen : (zentL as).length ≤ ml) (l : Launch) (D : va_G) (AT : Nat → ClassId) (bb base Ls : Nat) (xs : Nat → Int32) :
    Met l y (Cond.code y b ml rt :: zW) { frames := lv, cells := sh'.length - sh.length, slots := zsz sh' - zsz sh, locals := 38 * lv } (va_Pc (as.map (zcv (zad bb base))) (zPre D AT bb base Ls xs sh mi mj mr)) (zQ D AT bb base Ls xs v sh' mi' mj' mr') (sh'.length - sh.length) (zsz sh' - zsz sh) (fun q : Nat => base ≤ q) := by
  obtain ⟨g1, g2, g3, g4, g5, g6, g7, g8⟩ := zM_get hk hM
  have hml : zml k = ml := by unfold zml; rw [hM]
  rw [hml] at h
  refine va_MetF (cc := b) (maxL := ml) (ret := rt) g8 rfl ?_
  intro p e s m args below meth cd s₁ B hcm hv
  obtain ⟨rfl, hR, hU, hX, hbb⟩ := hv
  have hx := B.exec
  have hb := B.bytes
  have hr := B.returns
  have hts := atoms_spec (ws := Cond.code y b ml rt :: zW) B.pre
  have hown : s.vm.findClass y.cls = some m.cls := findClass_of_methodNamed B.named
  have hlocks := B.notSynchronized
  have hnm : (y.name == "<init>") = true → meth.name = "<init>" := fun q => ((name_of_methodNamed B.named B.method).1).trans (beq_iff_eq.mp q)
  rw [lg_entry_eq]
  have hbs : base ≤ s.heap.size := by rw [hR.2.1]; omega
  have hcx : zCx D AT bb base Ls xs p s m ((as.map (zcv (zad bb base))).toArray) cd b ml c y.cls := ⟨hx, hb, hcm, hown, g7, fun w hw => hts w (List.mem_cons_of_mem _ hw), hU, hX, hbb, hbs⟩
  refine ih k 0 _ [] sh mi mj mr v sh' mi' mj' mr' h y b ml rt c lv np q1 q2 hM p l e _ s m _ below meth cd s.heap [] 0 0 _ _ D AT bb base Ls xs hcx hnm g6 (Nat.le_refl _) (Nat.le_refl _) va_S.rf hR (zent_has (zad bb base) hlen) (by rw [Nat.zero_add]; exact Nat.le_refl _) (by rw [Nat.zero_add]; exact Nat.le_refl _) ?_
  intro H1 locs1 ls1 pc1 S1 hret hR1 hS1
  obtain ⟨ins, S0, hd, hrv, rfl⟩ := hret
  unfold zretv at hrv
  split at hrv
  · cases hrv
    exact W.vret hx hb hr (fun t ht hW => zQ_end hS1 hR1 ht _ _ rfl) hS1.2.2 hd
  · split at hrv
    · rename_i hn
      cases hrv
      exact W.zret hx hb hr hn (fun t ht hW => zQ_end hS1 hR1 ht _ _ rfl) hS1.2.2 hd
    · cases hrv
  · cases hrv
    exact W.lret hx hb hr (fun t ht hW => zQ_end hS1 hR1 ht _ _ rfl) hS1.2.2 hd
  · cases hrv
    exact W.aret hx hb hr (Or.inl ⟨_, rfl⟩) (Or.inr ⟨_, rfl⟩) (fun t ht hW => zQ_end hS1 hR1 ht _ _ rfl) hS1.2.2 hd
  · cases hrv
    exact W.aret hx hb hr (Or.inl ⟨_, rfl⟩) (Or.inl rfl) (fun t ht hW => zQ_end hS1 hR1 ht _ _ rfl) hS1.2.2 hd
  · cases hrv
end ZM
