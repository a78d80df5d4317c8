/-! ===== the interpreter is right (4): every write ===== -/
theorem zmth_ok {c idx kd k2 p q1 q2 : Nat} (h : zmth c idx = some (kd, k2, p, q1, q2)) : ∃ own y b ml rt c2 lv np pc pi, zN[c]? = some own ∧ zM[k2]? = some (y, b, ml, rt, c2, lv, np, pc, pi) ∧
    (kd = 0 → 1 ≤ k2 ∧ Cond.methodLink own idx y ∈ zW ∧ Cond.instanceMethod y ∈ zW ∧ Cond.selects y.cls y y ∈ zW) ∧
    (kd = 1 → 1 ≤ k2 ∧ Cond.methodLink own idx y ∈ zW ∧ Cond.instanceMethod y ∈ zW ∧ y.name = "<init>" ∧ rt = none) ∧
    (kd = 2 → 1 ≤ k2 ∧ Cond.methodLink own idx y ∈ zW ∧ Cond.static y ∈ zW) ∧
    (kd = 3 → 1 ≤ k2 ∧ Cond.methodLinkNest own idx y "AffineRanges" ∈ lw_tbl ∧ Cond.instanceMethod y ∈ zW ∧ y.name = "<init>" ∧ rt = none) ∧
    (kd = 4 → Cond.methodLink own idx objectInit ∈ zW ∧ Cond.instanceMethod objectInit ∈ zW ∧ Cond.code objectInit ⟨#[0xb1]⟩ 1 none ∈ zW) ∧
    (kd = 5 → Cond.methodLink own idx arraycopyName ∈ zW ∧ Cond.static arraycopyName ∈ zW ∧ Cond.native arraycopyName ∈ zW) := by
  have h1 := zall_get zI_ok h
  unfold zIok at h1
  simp only at h1
  split at h1
  · rename_i own y b ml rt c2 lv np pc pi e1 e2
    refine ⟨own, y, b, ml, rt, c2, lv, np, pc, pi, e1, e2, ?_, ?_, ?_, ?_, ?_, ?_⟩
    · rintro rfl
      simp only [↓reduceIte, Bool.and_eq_true, decide_eq_true_eq] at h1
      exact ⟨h1.1.1.1, zW_mem h1.1.1.2 rfl, zW_mem h1.1.2 rfl, zW_mem h1.2 rfl⟩
    · rintro rfl
      simp only [Nat.one_ne_zero, ↓reduceIte, Bool.and_eq_true, decide_eq_true_eq] at h1
      exact ⟨h1.1.1.1.1, zW_mem h1.1.1.1.2 rfl, zW_mem h1.1.1.2 rfl, h1.1.2, h1.2⟩
    · rintro rfl
      simp at h1
      exact ⟨h1.1.1, zW_mem h1.1.2 rfl, zW_mem h1.2 rfl⟩
    · rintro rfl
      simp at h1
      exact ⟨h1.1.1.1.1, zT_mem h1.1.1.1.2, zW_mem h1.1.1.2 rfl, h1.1.2, h1.2⟩
    · rintro rfl
      simp at h1
      exact ⟨zW_mem h1.1.1 rfl, zW_mem h1.1.2 rfl, zW_mem h1.2 rfl⟩
    · rintro rfl
      simp at h1
      exact ⟨zW_mem h1.1.1 rfl, zW_mem h1.1.2 rfl, zW_mem h1.2 rfl⟩
  · cases h1
section ZW2
variable {p : Program} {l : Launch} {e : Env} {R : Room} {s : State} {m : MethodId} {args : Array Value} {below : List Frame} {meth : Method} {cd : Code} {H : Heap} {locs : List Loc} {cells slots : Nat} {Q : State → Prop}
variable {b : ByteArray} {pc len : Nat} {ls : Array Slot} {ins : Instr} {S S' : List Value}
variable {D : va_G} {AT : Nat → ClassId} {bb base Ls : Nat} {xs : Nat → Int32} {sh sh' : zSh} {mi mi' : zI} {mj mj' : zJ} {mr mr' : zR}
theorem zsz_one (sh : zSh) (t n : Nat) (ht : 1 ≤ t) : zsz (sh ++ [(t, n)]) - zsz sh = n := by
  rw [zsz_app]
  unfold zsz
  match t, ht with
  | t + 1, _ => simp
theorem zlen_one (sh : zSh) (q : Nat × Nat) : (sh ++ [q]).length - sh.length = 1 := by simp
theorem zs_nint {n : Int32} (hn : 0 ≤ n ∧ n ≤ 100000) : ¬ n < 0 ∧ n.toNatClampNeg ≤ 100000 := by
  have := Int32.le_iff_toInt_le.mp hn.2
  have h0 := Int32.le_iff_toInt_le.mp hn.1
  have e1 : (100000 : Int32).toInt = 100000 := by decide
  have e0 : (0 : Int32).toInt = 0 := by decide
  refine ⟨fun q => ?_, ?_⟩
  · have h1 := Int32.lt_iff_toInt_lt.mp q
    omega
  · unfold Int32.toNatClampNeg
    omega
theorem zs_new {idx ci q ml c : Nat} {own : String} (X : zCx D AT bb base Ls xs p s m args cd b ml c own) (hS : va_S (fun q : Nat => base ≤ q) s.heap H locs) (hR : zRep D AT bb base Ls xs sh mi mj mr H) (hd : decode b pc = .ok (.new idx, 3)) (hk : zclk c idx = some (ci, q))
    (hC : cells + ((sh ++ [(0, ci)]).length - sh.length) ≤ R.cells) (hSl : slots + (zsz (sh ++ [(0, ci)]) - zsz sh) ≤ R.slots)
    (kk : ∀ H1, zRep D AT bb base Ls xs (sh ++ [(0, ci)]) mi mj mr H1 → va_S (fun q : Nat => base ≤ q) s.heap H1 locs → W p l e R s m args below meth cd H1 locs (cells + ((sh ++ [(0, ci)]).length - sh.length)) (slots + (zsz (sh ++ [(0, ci)]) - zsz sh)) Q (F0 m (pc + 3) ls (.ref (zad bb base sh.length) :: S.map (zcv (zad bb base))))) : W p l e R s m args below meth cd H locs cells slots Q (F0 m pc ls (S.map (zcv (zad bb base)))) := by
  obtain ⟨hx, hb, hml, hown, hzn, hts, ⟨hK, hU⟩, hX, hbb, hbs⟩ := X
  have hdef := hR.2.2.2.2.2
  obtain ⟨own', C, T, n, ty, e1, hc, hlink⟩ := zclk_ok hk
  cases hzn.symm.trans e1
  have hz : zsz (sh ++ [(0, ci)]) - zsz sh = n := by
    rw [zsz_app]
    unfold zsz
    simp [hc]
  rw [hz] at hSl kk
  rw [zlen_one] at hC kk
  have hKn := hK.1 ci _ (zC_vw' hc)
  refine W.newcK hx hb hown (hts _ hlink) (hts _ (zC_in hc).1) (hts _ (zC_in hc).2) rfl hd hC hSl hKn.2.1 rfl fun H1 kC hkC e1 z1 o1 => ?_
  rw [zad_len hR] at kk
  refine kk H1 (zRep_new hR z1 o1 ?_) (zS_new hS z1 o1)
  rw [zE_o (by rw [List.getElem?_append_right (Nat.le_refl _), Nat.sub_self]; rfl)]
  refine ⟨_, zC_vw' hc, (u_born ty hts (zC_ws hc) hKn hkC e1 (zC_ty hc)).to fun j hj => ?_⟩
  show _ = vp_V (zfl (zad bb base) mi mj mr ci sh.length) j
  unfold vp_V
  rw [List.getD_eq_getElem?_getD, zfl_get hc hj]
  obtain ⟨d1, d2, d3⟩ := hdef sh.length (Nat.le_refl _) j
  show defaultValue (ty j) = zfv _ _ _ _ _ _ _
  unfold zfv
  rw [d1, d2, d3]
  have ok : zkind (ty j) ≠ 9 := by
    have hall : (List.range 8).all (fun ci => match zC[ci]? with
      | some (_, _, n, ty) => (List.range n).all fun j => decide (zkind (ty j) ≠ 9)
      | none => false) = true := by decide +kernel
    have h1 := List.all_eq_true.mp hall ci (List.mem_range.mpr (zC_lt hc))
    rw [hc] at h1
    exact of_decide_eq_true (List.all_eq_true.mp h1 j (List.mem_range.mpr hj))
  cases hty : ty j <;> simp [zkind, hty, defaultValue, va_rf] at ok ⊢
set_option maxHeartbeats 8000000 in
theorem zs_write {ml c : Nat} {own : String} {init : Bool} (X : zCx D AT bb base Ls xs p s m args cd b ml c own) (hinit : init = true → meth.name = "<init>") (hlen : ls.size = ml) (hfr : 1 ≤ R.frames) (hlo : 38 ≤ R.locals)
    (hS : va_S (fun q : Nat => base ≤ q) s.heap H locs) (hR : zRep D AT bb base Ls xs sh mi mj mr H) (hd : decode b pc = .ok (ins, len)) (hl : zlenOk ins len = true) (h : zwrite c init ins S sh mi mj mr = some (S', sh', mi', mj', mr'))
    (hC : cells + (sh'.length - sh.length) ≤ R.cells) (hSl : slots + (zsz sh' - zsz sh) ≤ R.slots)
    (kk : ∀ H1 locs1, zRep D AT bb base Ls xs sh' mi' mj' mr' H1 → va_S (fun q : Nat => base ≤ q) s.heap H1 locs1 → W p l e R s m args below meth cd H1 locs1 (cells + (sh'.length - sh.length)) (slots + (zsz sh' - zsz sh)) Q (F0 m (pc + len) ls (S'.map (zcv (zad bb base))))) : W p l e R s m args below meth cd H locs cells slots Q (F0 m pc ls (S.map (zcv (zad bb base)))) := by
  obtain ⟨hx, hb, hml, hown, hzn, hts, ⟨hK, hU⟩, hX, hbb, hbs⟩ := id X
  have hP := hR.1
  unfold zwrite at h
  split at h
  · -- putfield
    cases zlenOk_eq hl (fun _ _ _ _ h => by cases h) (fun _ _ h => by cases h)
    split at h
    · rename_i v o r ci j q hf
      split at h
      · rename_i C T n ty hc
        split at h
        · rename_i hso
          obtain ⟨hso, ho, hfin⟩ := hso
          obtain ⟨own', C', T', n', ty', e1, e2, hj, hlink⟩ := zfld_ok hf
          cases hzn.symm.trans e1
          cases hc.symm.trans e2
          have hfin' : (T j).2.2.2 = false ∨ (meth.name = "<init>" ∧ ci = c) := hfin.imp id fun q => ⟨hinit q.1, q.2⟩
          split at h
          · rename_i hk; cases h
            simp only [Nat.sub_self, Nat.add_zero] at kk
            refine zput (mi' := zup mi o j _) (mj' := mj) (mr' := mr) X hS hR hd hso ho hc hj hlink hfin' (by rw [zkind0 hk]; rfl) (by rw [zkind0 hk]; rfl) (by unfold zfv; rw [hk]; simp [zup, zcv]) (fun o' i q => ⟨by unfold zup; rw [if_neg q], rfl, rfl⟩) kk
          · rename_i hk; cases h
            simp only [Nat.sub_self, Nat.add_zero] at kk
            refine zput (mi' := mi) (mj' := zup mj o j _) (mr' := mr) X hS hR hd hso ho hc hj hlink hfin' (by rw [zkind1 hk]; rfl) (by rw [zkind1 hk]; rfl) (by unfold zfv; rw [hk]; simp [zup, zcv]) (fun o' i q => ⟨rfl, by unfold zup; rw [if_neg q], rfl⟩) kk
          · rename_i hk; cases h
            simp only [Nat.sub_self, Nat.add_zero] at kk
            refine zput (mi' := mi) (mj' := mj) (mr' := zup mr o j _) X hS hR hd hso ho hc hj hlink hfin' (by rcases zkind2 hk with ⟨n, q⟩ | ⟨n, q⟩ <;> rw [q] <;> rfl) (by rcases zkind2 hk with ⟨n, q⟩ | ⟨n, q⟩ <;> rw [q] <;> rfl) (by unfold zfv; rw [hk]; simp [zup, zcv, va_rf]) (fun o' i q => ⟨rfl, rfl, by unfold zup; rw [if_neg q]⟩) kk
          · rename_i hk
            split at h
            · rename_i hx01
              cases h
              simp only [Nat.sub_self, Nat.add_zero] at kk
              refine zput (mi' := zup mi o j _) (mj' := mj) (mr' := mr) X hS hR hd hso ho hc hj hlink hfin' (by rw [zkind3 hk]; rcases hx01 with q | q <;> rw [q] <;> rfl) (by rw [zkind3 hk]; rcases hx01 with q | q <;> rw [q] <;> rfl) (by unfold zfv; rw [hk]; simp [zup, zcv]) (fun o' i q => ⟨by unfold zup; rw [if_neg q], rfl, rfl⟩) kk
            · cases h
          · cases h
        · cases h
      · cases h
    · cases h
  · -- iastore
    cases zlenOk_eq hl (fun _ _ _ _ h => by cases h) (fun _ _ h => by cases h)
    split at h
    · rename_i x i o r
      split at h
      · rename_i t n hs
        split at h
        · rename_i hc
          cases h
          obtain ⟨hi, rfl, ho⟩ := hc
          simp only [Nat.sub_self, Nat.add_zero] at kk
          have hget := (zWs_get (AT := AT) (ad := zad bb base) (mi := mi) (mj := mj) (mr := mr) ho hs)
          rw [zE_i hs (Or.inl rfl)] at hget
          refine W.iast hx hb (hP _ _ hget) ((hK.2 0 _ rfl).1 n (fun j => .int (mi o j))) (fun q => by cases q) (by show ¬ (i < 0 ∨ (arrV _ _ _).slots.size ≤ _); rw [arrV_size]; exact zin_vp hi) rfl rfl hd fun H1 e z oq => ?_
          exact kk H1 _ (zRep_upd hR hs ho z oq (zupI (Or.inl rfl) hs e rfl) fun o' ho' => ⟨zup_ne ho', rfl, rfl⟩) (hS.put z oq (zad_A ho))
        · cases h
      · cases h
    · cases h
  · -- castore
    cases zlenOk_eq hl (fun _ _ _ _ h => by cases h) (fun _ _ h => by cases h)
    split at h
    · rename_i x i o r
      split at h
      · rename_i t n hs
        split at h
        · rename_i hc
          cases h
          obtain ⟨hi, rfl, ho⟩ := hc
          simp only [Nat.sub_self, Nat.add_zero] at kk
          have hget := (zWs_get (AT := AT) (ad := zad bb base) (mi := mi) (mj := mj) (mr := mr) ho hs)
          rw [zE_i hs (Or.inr (Or.inl rfl))] at hget
          refine W.cast hx hb (hP _ _ hget) ((hK.2 2 _ rfl).1 n (fun j => .int (mi o j))) (fun q => by cases q) (by show ¬ (i < 0 ∨ (arrV _ _ _).slots.size ≤ _); rw [arrV_size]; exact zin_vp hi) rfl rfl hd fun H1 e z oq => ?_
          exact kk H1 _ (zRep_upd hR hs ho z oq (zupI (Or.inr (Or.inl rfl)) hs e rfl) fun o' ho' => ⟨zup_ne ho', rfl, rfl⟩) (hS.put z oq (zad_A ho))
        · cases h
      · cases h
    · cases h
  · -- bastore
    cases zlenOk_eq hl (fun _ _ _ _ h => by cases h) (fun _ _ h => by cases h)
    split at h
    · rename_i x i o r
      split at h
      · rename_i t n hs
        split at h
        · rename_i hc
          cases h
          obtain ⟨hi, rfl, ho⟩ := hc
          simp only [Nat.sub_self, Nat.add_zero] at kk
          have hget := (zWs_get (AT := AT) (ad := zad bb base) (mi := mi) (mj := mj) (mr := mr) ho hs)
          rw [zE_i hs (Or.inr (Or.inr rfl))] at hget
          refine W.zast hx hb (hP _ _ hget) ((hK.2 3 _ rfl).1 n (fun j => .int (mi o j))) (fun q => by cases q) (by show ¬ (i < 0 ∨ (arrV _ _ _).slots.size ≤ _); rw [arrV_size]; exact zin_vp hi) rfl rfl hd fun H1 e z oq => ?_
          exact kk H1 _ (zRep_upd hR hs ho z oq (zupI (Or.inr (Or.inr rfl)) hs e rfl) fun o' ho' => ⟨zup_ne ho', rfl, rfl⟩) (hS.put z oq (zad_A ho))
        · cases h
      · cases h
    · cases h
  · -- lastore
    cases zlenOk_eq hl (fun _ _ _ _ h => by cases h) (fun _ _ h => by cases h)
    split at h
    · rename_i x i o r
      split at h
      · rename_i t n hs
        split at h
        · rename_i hc
          cases h
          obtain ⟨hi, rfl, ho⟩ := hc
          simp only [Nat.sub_self, Nat.add_zero] at kk
          have hget := (zWs_get (AT := AT) (ad := zad bb base) (mi := mi) (mj := mj) (mr := mr) ho hs)
          rw [zE_j hs] at hget
          refine W.last hx hb (hP _ _ hget) ((hK.2 1 _ rfl).1 n (fun j => .long (mj o j))) (fun q => by cases q) (by show ¬ (i < 0 ∨ (arrV _ _ _).slots.size ≤ _); rw [arrV_size]; exact zin_vp hi) rfl rfl hd fun H1 e z oq => ?_
          refine kk H1 _ (zRep_upd hR hs ho z oq ?_ fun o' ho' => ⟨rfl, zup_ne ho', rfl⟩) (hS.put z oq (zad_A ho))
          rw [zE_j hs]
          show H1[zad bb base o]? = some (vp_cell _ _)
          rw [e, vp_cell_l, vp_cell_l, arrV_store]
          congr 2
          funext q
          unfold updV zup
          by_cases hq : q = i.toNatClampNeg
          · subst hq; simp
          · simp [hq]
        · cases h
      · cases h
    · cases h
  · -- aastore
    cases zlenOk_eq hl (fun _ _ _ _ h => by cases h) (fun _ _ h => by cases h)
    split at h
    · rename_i x i o r
      split at h
      · rename_i t n hs
        split at h
        · rename_i hc
          cases h
          obtain ⟨hi, ht, ho, hx1, hsx⟩ := hc
          simp only [Nat.sub_self, Nat.add_zero] at kk
          have hget := (zWs_get (AT := AT) (ad := zad bb base) (mi := mi) (mj := mj) (mr := mr) ho hs)
          rw [zE_q hs ht] at hget
          have hgx := (zWs_get (AT := AT) (ad := zad bb base) (mi := mi) (mj := mj) (mr := mr) hx1 hsx)
          rw [zE_o hsx] at hgx
          obtain ⟨r', hr', cellV, g1, g2, g3, -⟩ := hP _ _ hgx
          obtain ⟨kk0, C, n0, hk0, hC0⟩ : ∃ (kk0 : Nat) (T : u_T) (n0 : Nat), (zTys AT)[kk0]? = some (AT t, .object r'.1) ∧ r' = (r'.1, T, n0) := by
            rcases ht with rfl | rfl | rfl
            · cases hr'; exact ⟨4, _, _, rfl, rfl⟩
            · cases hr'; exact ⟨5, _, _, rfl, rfl⟩
            · cases hr'; exact ⟨6, _, _, rfl, rfl⟩
          have hcls := (hK.1 _ r' hr').2
          obtain ⟨kA, comp, k1, k2, k3, -⟩ := (hK.2 kk0 _ hk0).2
          have hcomp : comp = D.1 (t - 5) := Option.some.inj (k3.symm.trans hcls.1)
          subst hcomp
          obtain ⟨kC, hkC, -⟩ := hcls.2
          have hi2 := zin_vp hi
          refine W.aast hx hb (hP _ _ hget) (fun q h => by cases h) (fun h => by cases h) k1 k2 rfl hkC ⟨fun q => hi2 (Or.inl q), by show _ < (arrV _ _ _).slots.size; rw [arrV_size]; exact Nat.not_le.mp fun q => hi2 (Or.inr q)⟩ g1 (fun q h => by rw [g3] at h; cases h) (by rw [g2]; exact hkC) (by rw [g2]; exact va_assign hcls) rfl rfl hd fun H1 e z oq => ?_
          refine kk H1 _ (zRep_upd hR hs ho z oq ?_ fun o' ho' => ⟨rfl, rfl, zup_ne ho'⟩) (hS.put z oq (zad_A ho))
          rw [zE_q hs ht]
          show H1[zad bb base o]? = some (vp_cell _ _)
          rw [e, vp_cell_q, vp_cell_q, arrV_store]
          congr 2
          funext q
          unfold updV zup
          by_cases hq : q = i.toNatClampNeg
          · subst hq; simp [va_rf]
          · simp [hq]
        · cases h
      · cases h
    · cases h
  · -- new
    cases zlenOk_eq hl (fun _ _ _ _ h => by cases h) (fun _ _ h => by cases h)
    split at h
    · rename_i ci q hk
      split at h
      · cases h
        exact zs_new X hS hR hd hk hC hSl fun H1 h1 h2 => kk H1 locs h1 h2
      · cases h
    · cases h
  · -- newarray
    cases zlenOk_eq hl (fun _ _ _ _ h => by cases h) (fun _ _ h => by cases h)
    split at h
    · rename_i n r
      split at h
      · rename_i hn
        split at h
        · cases h
          rw [zlen_one] at hC; rw [zsz_one _ _ _ (Nat.le_refl _)] at hSl
          rw [zlen_one, zsz_one _ _ _ (Nat.le_refl _)] at kk
          exact znewa (t := 1) (k := 0) X hS hR hd rfl zA_mem.1 rfl (fun cA h1 h2 => Option.some.inj (h2.symm.trans h1)) hn (by decide) (Or.inl ⟨zE_i (by rw [List.getElem?_append_right (Nat.le_refl _), Nat.sub_self]; rfl) (Or.inl rfl), rfl⟩) hC hSl fun H1 h1 h2 => kk H1 locs h1 h2
        · cases h
          rw [zlen_one] at hC; rw [zsz_one _ _ _ (by decide)] at hSl
          rw [zlen_one, zsz_one _ _ _ (by decide)] at kk
          exact znewa (t := 2) (k := 1) X hS hR hd rfl zA_mem.2.1 rfl (fun cA h1 h2 => Option.some.inj (h2.symm.trans h1)) hn (by decide) (Or.inr ⟨zE_j (by rw [List.getElem?_append_right (Nat.le_refl _), Nat.sub_self]; rfl), rfl⟩) hC hSl fun H1 h1 h2 => kk H1 locs h1 h2
        · cases h
          rw [zlen_one] at hC; rw [zsz_one _ _ _ (by decide)] at hSl
          rw [zlen_one, zsz_one _ _ _ (by decide)] at kk
          exact znewa (t := 3) (k := 2) X hS hR hd rfl zA_mem.2.2.1 rfl (fun cA h1 h2 => Option.some.inj (h2.symm.trans h1)) hn (by decide) (Or.inl ⟨zE_i (by rw [List.getElem?_append_right (Nat.le_refl _), Nat.sub_self]; rfl) (Or.inr (Or.inl rfl)), rfl⟩) hC hSl fun H1 h1 h2 => kk H1 locs h1 h2
        · cases h
          rw [zlen_one] at hC; rw [zsz_one _ _ _ (by decide)] at hSl
          rw [zlen_one, zsz_one _ _ _ (by decide)] at kk
          exact znewa (t := 4) (k := 3) X hS hR hd rfl zA_mem.2.2.2.1 rfl (fun cA h1 h2 => Option.some.inj (h2.symm.trans h1)) hn (by decide) (Or.inl ⟨zE_i (by rw [List.getElem?_append_right (Nat.le_refl _), Nat.sub_self]; rfl) (Or.inr (Or.inr rfl)), rfl⟩) hC hSl fun H1 h1 h2 => kk H1 locs h1 h2
        · cases h
      · cases h
    · cases h
  · -- anewarray
    cases zlenOk_eq hl (fun _ _ _ _ h => by cases h) (fun _ _ h => by cases h)
    split at h
    · rename_i n r ci q hk
      split at h
      · rename_i hn
        cases h
        obtain ⟨hn0, hn1, hci⟩ := hn
        rw [zlen_one] at hC; rw [zsz_one _ _ _ (by omega)] at hSl
        rw [zlen_one, zsz_one _ _ _ (by omega)] at kk
        obtain ⟨own', C, T, n0, ty, e1, hc, hlink⟩ := zclk_ok hk
        cases hzn.symm.trans e1
        obtain ⟨kk0, hk0, hao⟩ : ∃ (kk0 : Nat), (zTys AT)[kk0]? = some (AT (ci + 5), .object C) ∧ va_AO C s := by
          rcases hci with rfl | rfl | rfl
          · cases hc; exact ⟨4, rfl, hU.2.2.2⟩
          · cases hc; exact ⟨5, rfl, hU.2.2.1⟩
          · cases hc; exact ⟨6, rfl, hU.2.1⟩
        obtain ⟨hnn, h100⟩ := zs_nint ⟨hn0, hn1⟩
        have hdef := hR.2.2.2.2.2
        refine W.anew hx hb hown (hts _ hlink) (va_AO.use hao) rfl hd rfl hnn (by omega) hC hSl fun cA kA comp f1 f2 f3 f4 => ?_
        obtain ⟨kA', comp', g1, g2, g3, g4⟩ := (hK.2 kk0 _ hk0).2
        cases f1.symm.trans g4
        have z1 : (H.push ({ cls := AT (ci + 5), slots := Array.replicate n.toNatClampNeg .null, vm := .none } : Cell)).size = H.size + 1 := by rw [Array.size_push]
        have o1 : ∀ q : Nat, q < H.size → (H.push ({ cls := AT (ci + 5), slots := Array.replicate n.toNatClampNeg .null, vm := .none } : Cell))[q]? = H[q]? := fun q hq => by rw [Array.getElem?_push, if_neg (Nat.ne_of_lt hq)]
        have kk' := kk (H.push ({ cls := AT (ci + 5), slots := Array.replicate n.toNatClampNeg .null, vm := .none } : Cell)) locs (zRep_new hR z1 o1 (by
          rw [zE_q (t := ci + 5) (n := n.toNatClampNeg) (by rw [List.getElem?_append_right (Nat.le_refl _), Nat.sub_self]; rfl) (by omega)]
          show (H.push _)[H.size]? = some (vp_cell _ _)
          rw [vp_cell_q, Array.getElem?_push_size, arrV_new]
          refine congrArg some ?_
          refine congrArg (arrV (AT (ci + 5)) n.toNatClampNeg) ?_
          funext j
          rw [(hdef sh.length (Nat.le_refl _) j).2.2]
          rfl)) (zS_new hS z1 o1)
        have e2 : List.map (zcv (zad bb base)) (Value.ref sh.length :: r) = .ref H.size :: r.map (zcv (zad bb base)) := by
          rw [← zad_len hR]; rfl
        rw [e2] at kk'
        exact kk'
      · cases h
    · cases h
  · -- Object's constructor
    cases zlenOk_eq hl (fun _ _ _ _ h => by cases h) (fun _ _ h => by cases h)
    split at h
    · rename_i q a r hm
      obtain ⟨k2, p1, q1, q2⟩ := q
      split at h
      · rename_i hcat
        cases h
        simp only [Nat.sub_self, Nat.add_zero] at kk
        obtain ⟨own', y, b', ml', rt', c2, lv', np', pc', pi', e1, e2, -, -, -, -, h4, -⟩ := zmth_ok hm
        cases hzn.symm.trans e1
        obtain ⟨w1, w2, w3⟩ := h4 rfl
        exact W.objInit hx hb hown (hts _ w1) (hts _ w2) (hts _ w3) rfl (by rw [hml]; exact hlen) rfl hd hfr (by rw [zcv_sum]; show 2 * 0 + _ + 12 ≤ _; omega) (kk H locs hR hS)
      · cases h
    · cases h
  · -- arraycopy
    cases zlenOk_eq hl (fun _ _ _ _ h => by cases h) (fun _ _ h => by cases h)
    split at h
    · rename_i q n dp a sp a0 r hm
      obtain ⟨k2, p1, q1, q2⟩ := q
      split at h
      · rename_i t0 n0 t1 n1 hs0 hs1
        split at h
        · rename_i hc
          obtain ⟨hcat, h10, h11, h1, h2, h3, h4, h5, rfl⟩ := hc
          obtain ⟨own', y, b', ml', rt', c2, lv', np', pc', pi', e1, e2, -, -, -, -, -, h5'⟩ := zmth_ok hm
          cases hzn.symm.trans e1
          obtain ⟨w1, w2, w3⟩ := h5' rfl
          split at h
          · rename_i ht
            subst ht
            cases h
            simp only [Nat.sub_self, Nat.add_zero] at kk
            exact zcopy (F := Value.int) (E := fun n f => (n, .inl f)) (k := 0) (f := mi a0) (g := mi a) (mi' := zrw mi a _) X hlen hS hR (fun _ _ _ => rfl) hs0 hs1 h10 h11 (zE_i hs0 (Or.inl rfl)) (zE_i hs1 (Or.inl rfl)) (by rw [zE_i hs1 (Or.inl rfl), zrw_eq]) (fun o' ho' => ⟨zrw_ne ho', rfl, rfl⟩) rfl rfl (fun x => ⟨rfl, fun _ _ => trivial⟩) w1 w2 w3 h1 h2 h3 h4 h5 hfr hlo (by rw [zcv_sum]; exact hcat) hd kk
          · split at h
            · rename_i ht
              subst ht
              cases h
              simp only [Nat.sub_self, Nat.add_zero] at kk
              exact zcopy (F := Value.long) (E := fun n f => (n, .inr (.inl f))) (k := 1) (f := mj a0) (g := mj a) (mj' := zrw mj a _) X hlen hS hR (fun _ _ _ => rfl) hs0 hs1 h10 h11 (zE_j hs0) (zE_j hs1) (by rw [zE_j hs1, zrw_eq]) (fun o' ho' => ⟨rfl, zrw_ne ho', rfl⟩) rfl rfl (fun x => ⟨rfl, fun _ _ => trivial⟩) w1 w2 w3 h1 h2 h3 h4 h5 hfr hlo (by rw [zcv_sum]; exact hcat) hd kk
            · cases h
        · cases h
      · cases h
    · cases h
  · cases h
end ZW2
