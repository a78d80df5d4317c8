/-! ===== the interpreter is right (6): whole runs ===== -/
section ZT2
variable {p : Program} {l : Launch} {e : Env} {R : Room} {s : State} {m : MethodId} {args : Array Value} {below : List Frame} {meth : Method} {cd : Code} {H : Heap} {locs : List Loc} {cells slots : Nat} {Q : State → Prop}
variable {b : ByteArray} {pc len : Nat} {ls : Array Slot} {ins : Instr} {S S' : List Value}
variable {D : va_G} {AT : Nat → ClassId} {bb base Ls : Nat} {xs : Nat → Int32} {sh sh' : zSh} {mi mi' : zI} {mj mj' : zJ} {mr mr' : zR}
theorem zW_pay {y : MethodName} {b : ByteArray} {ml : Nat} {rt : Option FieldType} (hts : ∀ w ∈ zW, w.before args s = true) (h : Cond.code y b ml rt ∈ zW) : ∀ w ∈ Cond.code y b ml rt :: zW, ∀ (a' : Array Value) (U : State), s.WarmedH U.vm → w.before a' U = true :=
  pay_in (big := zW) hts fun w hw => by
    rcases List.mem_cons.mp hw with rfl | hw
    · exact zW_good _ h
    · exact zW_good _ hw
theorem zPre_call {ml c : Nat} {own : String} (X : zCx D AT bb base Ls xs p s m args cd b ml c own) (hS : va_S (fun q : Nat => base ≤ q) s.heap H locs) (hR : zRep D AT bb base Ls xs sh mi mj mr H) (U : State) (hU : U.heap = H) (hW : s.WarmedH U.vm) : zPre D AT bb base Ls xs sh mi mj mr U := by
  obtain ⟨hx, hb, hml, hown, hzn, hts, ⟨hK, hN, hA1, hA2, hA3⟩, hX, hbb, hbs⟩ := X
  refine ⟨by rw [hU]; exact hR, ⟨va_K.moved hW.alike hK, fun own idx y hy => va_Nw.warmM hW (hN own idx y hy), hA1.moved hW.alike, hA2.moved hW.alike, hA3.moved hW.alike⟩, ?_, hbb⟩
  rw [hU]
  exact va_X.moved hW.alike (va_X.kept hX (hS.2.1 bb (Nat.lt_of_lt_of_le hbb hbs) (Nat.not_le.mpr hbb)))
set_option maxHeartbeats 4000000 in
theorem zs_call {n k k2 lv ml c : Nat} {own : String} {as : List Value} {v : Option Value} (ih : zGoal n) (X : zCx D AT bb base Ls xs p s m args cd b ml c own) (hlen : ls.size = ml) (hfr : lv ≤ R.frames) (hlo : 38 * lv ≤ R.locals) (hS : va_S (fun q : Nat => base ≤ q) s.heap H locs) (hR : zRep D AT bb base Ls xs sh mi mj mr H)
    (hd : decode b pc = .ok (ins, len)) (hl : zlenOk ins len = true) (h : zinv c lv ins S sh = some (k2, as, S')) (hrun : zex n k2 0 (zent (zml k2) as) [] sh mi mj mr = some (v, sh', mi', mj', mr'))
    (hC : cells + (sh'.length - sh.length) ≤ R.cells) (hSl : slots + (zsz sh' - zsz sh) ≤ R.slots)
    (kk : ∀ H1 locs1, zRep D AT bb base Ls xs sh' mi' mj' mr' H1 → va_S (fun q : Nat => base ≤ q) s.heap H1 locs1 → W p l e R s m args below meth cd H1 locs1 (cells + (sh'.length - sh.length)) (slots + (zsz sh' - zsz sh)) Q (F0 m (pc + 3) ls ((v.toList ++ S').map (zcv (zad bb base))))) :
    W p l e R s m args below meth cd H locs cells slots Q (F0 m pc ls (S.map (zcv (zad bb base)))) := by
  obtain ⟨hx, hb, hml, hown, hzn, hts, ⟨hK, hN, hA1, hA2, hA3⟩, hX, hbb, hbs⟩ := id X
  have hP := hR.1
  have kk' : ∀ H1 locs1, zRep D AT bb base Ls xs sh' mi' mj' mr' H1 → va_S (fun q : Nat => base ≤ q) s.heap H1 locs1 → W p l e R s m args below meth cd H1 locs1 (cells + (sh'.length - sh.length)) (slots + (zsz sh' - zsz sh)) Q (F0 m (pc + 3) ls ((v.map (zcv (zad bb base))).toList ++ S'.map (zcv (zad bb base)))) := by
    intro H1 locs1 g1 g2
    have := kk H1 locs1 g1 g2
    rw [List.map_append] at this
    cases v <;> exact this
  have np_of : ∀ {y : MethodName} {np : Nat}, (parseMethodDescriptor y.desc).map (fun d => d.parameters.length) = some np → ∀ sig, parseMethodDescriptor y.desc = some sig → np = sig.parameters.length := by
    intro y np h4 sig hs
    rw [hs] at h4
    exact (Option.some.inj h4).symm
  unfold zinv at h
  split at h
  · cases zlenOk_eq hl (fun _ _ _ _ h => by cases h) (fun _ _ h => by cases h)
    split at h
    · rename_i k2' q hm
      obtain ⟨p1, q1, q2⟩ := q
      unfold zgoV at h
      split at h
      · rename_i y b2 ml2 rt2 c2 lv2 np2 r1 r2 hM
        split at h
        · rename_i as' o r hpop
          split at h
          · rename_i hc
            cases h
            obtain ⟨hcat, hlv, hzl, ho, hsh⟩ := hc
            have hso := hsh rfl
            obtain ⟨own', y', b', ml', rt', c2', lv', np', pc', pi', e1, e2, h0, -⟩ := zmth_ok hm
            cases hzn.symm.trans e1
            cases hM.symm.trans e2
            obtain ⟨hk2, w1, w2, w3⟩ := h0 rfl
            obtain ⟨g1, g2, g3, g4, g5, g6, g7, g8⟩ := zM_get hk2 hM
            obtain ⟨P, hP1, hP2, hP3⟩ := zpop_spec hpop
            rw [List.append_nil] at hP1
            subst hP1
            have hget := (zWs_get (AT := AT) (ad := zad bb base) (mi := mi) (mj := mj) (mr := mr) ho hso)
            rw [zE_o hso] at hget
            obtain ⟨r', hr', cellV, j1, j2, j3, -⟩ := hP _ _ hget
            have hrc : r'.1 = y.cls := by
              rw [zC_vw] at hr'
              obtain ⟨x, hx1, hx2⟩ := Option.map_eq_some_iff.mp hr'
              obtain ⟨C, T, n0, ty⟩ := x
              obtain ⟨m1, -⟩ := zC_own hx1
              rw [← hx2]
              exact Option.some.inj (m1.symm.trans g7)
            have hcls := (hK.1 _ r' hr').2.1
            refine z_call (va_runV (C := y.cls) (As := as'.map (zcv (zad bb base))) (rest := S'.map (zcv (zad bb base))) ⟨hx, hb, hml, hown, hts⟩ (zmet n ih k2 hk2 (.ref o :: as') v sh mi mj mr sh' mi' mj' mr' hrun y b2 ml2 rt2 c2 lv2 np2 r1 r2 hM hzl l D AT bb base Ls xs)
              ⟨⟨rfl, rfl, Nat.le_trans hlv hfr, by show 8 + (ml2 + 11) + 38 * lv2 ≤ R.locals; omega, zW_pay hts g1, List.mem_cons_self, hts _ g1, hts _ g2, g3, np_of g4, hts _ w1⟩, hts _ w2, hts _ w3⟩
              ⟨zPre_blind, ⟨cellV, j1, by rw [j3]; rfl, by rw [j2, ← hrc]; exact hcls⟩, fun U hU hW => ⟨rfl, zPre_call X hS hR U hU hW⟩⟩ rfl (by rw [List.length_map]; exact hP3) hlen ?_ (by rw [zcv_sum]; show 2 * 0 + _ ≤ 8; omega) hd ⟨hC, hSl⟩) hS kk'
            rw [hP2, List.map_append, List.map_reverse]
            rfl
          · cases h
        · cases h
      · cases h
    · cases h
  · cases zlenOk_eq hl (fun _ _ _ _ h => by cases h) (fun _ _ h => by cases h)
    split at h
    · rename_i k2' q hm
      obtain ⟨p1, q1, q2⟩ := q
      unfold zgoV at h
      split at h
      · rename_i y b2 ml2 rt2 c2 lv2 np2 r1 r2 hM
        split at h
        · rename_i as' o r hpop
          split at h
          · rename_i hc
            cases h
            obtain ⟨hcat, hlv, hzl, ho, -⟩ := hc
            obtain ⟨own', y', b', ml', rt', c2', lv', np', pc', pi', e1, e2, -, h1, -⟩ := zmth_ok hm
            cases hzn.symm.trans e1
            cases hM.symm.trans e2
            obtain ⟨hk2, w1, w2, w3, rfl⟩ := h1 rfl
            obtain ⟨g1, g2, g3, g4, g5, g6, g7, g8⟩ := zM_get hk2 hM
            obtain ⟨P, hP1, hP2, hP3⟩ := zpop_spec hpop
            rw [List.append_nil] at hP1
            subst hP1
            refine z_call (va_runI (As := as'.map (zcv (zad bb base))) (rest := S'.map (zcv (zad bb base))) ⟨hx, hb, hml, hown, hts⟩ (zmet n ih k2 hk2 (.ref o :: as') v sh mi mj mr sh' mi' mj' mr' hrun y b2 ml2 none c2 lv2 np2 r1 r2 hM hzl l D AT bb base Ls xs)
              ⟨⟨rfl, rfl, Nat.le_trans hlv hfr, by show 8 + (ml2 + 11) + 38 * lv2 ≤ R.locals; omega, zW_pay hts g1, List.mem_cons_self, hts _ g1, hts _ g2, g3, np_of g4, hts _ w1⟩, w3, hts _ w2⟩
              ⟨zPre_blind, fun U hU hW => ⟨rfl, zPre_call X hS hR U hU hW⟩⟩ rfl (by rw [List.length_map]; exact hP3) hlen ?_ (by rw [zcv_sum]; show 2 * 0 + _ ≤ 8; omega) hd ⟨hC, hSl⟩) hS kk'
            rw [hP2, List.map_append, List.map_reverse]
            rfl
          · cases h
        · cases h
      · cases h
    · rename_i k2' q hm
      obtain ⟨p1, q1, q2⟩ := q
      unfold zgoV at h
      split at h
      · rename_i y b2 ml2 rt2 c2 lv2 np2 r1 r2 hM
        split at h
        · rename_i as' o r hpop
          split at h
          · rename_i hc
            cases h
            obtain ⟨hcat, hlv, hzl, ho, -⟩ := hc
            obtain ⟨own', y', b', ml', rt', c2', lv', np', pc', pi', e1, e2, -, -, -, h3, -⟩ := zmth_ok hm
            cases hzn.symm.trans e1
            cases hM.symm.trans e2
            obtain ⟨hk2, w1, w2, w3, rfl⟩ := h3 rfl
            obtain ⟨g1, g2, g3, g4, g5, g6, g7, g8⟩ := zM_get hk2 hM
            obtain ⟨P, hP1, hP2, hP3⟩ := zpop_spec hpop
            rw [List.append_nil] at hP1
            subst hP1
            refine z_call (va_runIN (host := "AffineRanges") (As := as'.map (zcv (zad bb base))) (rest := S'.map (zcv (zad bb base))) ⟨hx, hb, hml, hown, hts⟩ (zmet n ih k2 hk2 (.ref o :: as') v sh mi mj mr sh' mi' mj' mr' hrun y b2 ml2 none c2 lv2 np2 r1 r2 hM hzl l D AT bb base Ls xs)
              ⟨⟨⟨rfl, rfl, Nat.le_trans hlv hfr, by show 8 + (ml2 + 11) + 38 * lv2 ≤ R.locals; omega, zW_pay hts g1, List.mem_cons_self⟩, hts _ g1, hts _ g2, g3, np_of g4, va_Nw.use rfl (hN _ _ _ w1)⟩, w3, hts _ w2⟩
              ⟨zPre_blind, fun U hU hW => ⟨rfl, zPre_call X hS hR U hU hW⟩⟩ rfl (by rw [List.length_map]; exact hP3) hlen ?_ (by rw [zcv_sum]; show 2 * 0 + _ ≤ 8; omega) hd ⟨hC, hSl⟩) hS kk'
            rw [hP2, List.map_append, List.map_reverse]
            rfl
          · cases h
        · cases h
      · cases h
    · cases h
  · cases zlenOk_eq hl (fun _ _ _ _ h => by cases h) (fun _ _ h => by cases h)
    split at h
    · rename_i k2' q hm
      obtain ⟨p1, q1, q2⟩ := q
      unfold zgoS at h
      split at h
      · rename_i y b2 ml2 rt2 c2 lv2 np2 r1 r2 hM
        split at h
        · rename_i as' r hpop
          split at h
          · rename_i hc
            cases h
            obtain ⟨hcat, hlv, hzl⟩ := hc
            obtain ⟨own', y', b', ml', rt', c2', lv', np', pc', pi', e1, e2, -, -, h2, -⟩ := zmth_ok hm
            cases hzn.symm.trans e1
            cases hM.symm.trans e2
            obtain ⟨hk2, w1, w2⟩ := h2 rfl
            obtain ⟨g1, g2, g3, g4, g5, g6, g7, g8⟩ := zM_get hk2 hM
            obtain ⟨P, hP1, hP2, hP3⟩ := zpop_spec hpop
            rw [List.append_nil] at hP1
            subst hP1
            refine z_call (va_runS (As := as.map (zcv (zad bb base))) (rest := S'.map (zcv (zad bb base))) ⟨hx, hb, hml, hown, hts⟩ (zmet n ih k2 hk2 as v sh mi mj mr sh' mi' mj' mr' hrun y b2 ml2 rt2 c2 lv2 np2 r1 r2 hM hzl l D AT bb base Ls xs)
              ⟨⟨rfl, rfl, Nat.le_trans hlv hfr, by show 8 + (ml2 + 11) + 38 * lv2 ≤ R.locals; omega, zW_pay hts g1, List.mem_cons_self, hts _ g1, hts _ g2, g3, np_of g4, hts _ w1⟩, hts _ w2⟩
              ⟨zPre_blind, fun U hU hW => ⟨rfl, zPre_call X hS hR U hU hW⟩⟩ rfl (by rw [List.length_map]; exact hP3) hlen ?_ (by rw [zcv_sum]; show 2 * 0 + _ ≤ 8; omega) hd ⟨hC, hSl⟩) hS kk'
            rw [hP2, List.map_append, List.map_reverse]
          · cases h
        · cases h
      · cases h
    · cases h
  · cases h
theorem zretv_len {rt : Option FieldType} {v : Option Value} (h : zretv rt ins S = some v) (hl : zlenOk ins len = true) : len = 1 := by
  unfold zretv at h
  split at h
  all_goals first | (cases zlenOk_eq hl (fun _ _ _ _ h => by cases h) (fun _ _ h => by cases h); rfl) | cases h
end ZT2
set_option maxHeartbeats 4000000 in
theorem zgoal : ∀ n, zGoal n := by
  intro n
  induction n with
  | zero =>
    intro k pc L S sh mi mj mr v sh' mi' mj' mr' h
    simp [zex] at h
  | succ n ih =>
    intro k pc L S sh mi mj mr v sh' mi' mj' mr' h y b ml rt c lv np q1 q2 hM p l e R s m args below meth cd H locs cells slots Q ls D AT bb base Ls xs X hinit hlv hfr hlo hS hR hL hC hSl kk
    have hx := X.1
    have hb := X.2.1
    rw [zex] at h
    split at h
    · rename_i pc' L' S' sh1 mi1 mj1 mr1 hs
      have hg := zex_grow _ _ _ _ _ _ _ _ _ _ h
      have hg1 := zstep_mono hs
      simp only at hg
      have next : ∀ (H1 : Heap) (locs1 : List Loc) (ls1 : Array Slot), zRep D AT bb base Ls xs sh1 mi1 mj1 mr1 H1 → va_S (fun q : Nat => base ≤ q) s.heap H1 locs1 → zHas (zad bb base) ls1 ml L' → W p l e R s m args below meth cd H1 locs1 (cells + (sh1.length - sh.length)) (slots + (zsz sh1 - zsz sh)) Q (F0 m pc' ls1 (S'.map (zcv (zad bb base)))) := fun H1 locs1 ls1 a1 a2 a3 =>
        ih k pc' L' S' sh1 mi1 mj1 mr1 v sh' mi' mj' mr' h y b ml rt c lv np q1 q2 hM p l e R s m args below meth cd H1 locs1 _ _ Q ls1 D AT bb base Ls xs X hinit hlv hfr hlo a2 a1 a3 (by omega) (by omega) kk
      unfold zstep at hs
      rw [hM] at hs
      simp only at hs
      split at hs
      · rename_i ins len hd
        split at hs
        · rename_i hl
          unfold zins at hs
          split at hs
          · rename_i hz
            cases hs
            have nx := next H locs ls hR hS hL
            simp only [Nat.sub_self, Nat.add_zero] at nx
            exact zs_pure hx hb hd hl hz nx
          · split at hs
            · rename_i hz
              split at hs
              · rename_i hge
                cases hs
                have nx := next H locs ls hR hS hL
                simp only [Nat.sub_self, Nat.add_zero] at nx
                exact zs_jump hx hb hd hl hz hge nx
              · cases hs
            · split at hs
              · rename_i hz
                cases hs
                refine zs_loc hx hb hd hl hL hz fun ls' hL' => ?_
                have nx := next H locs ls' hR hS hL'
                simp only [Nat.sub_self, Nat.add_zero] at nx
                exact nx
              · split at hs
                · rename_i hz
                  cases hs
                  have nx := next H locs ls hR hS hL
                  simp only [Nat.sub_self, Nat.add_zero] at nx
                  exact zs_read X hS hR hd hl hz nx
                · split at hs
                  · rename_i hz
                    cases hs
                    exact zs_write X hinit hL.1 (Nat.le_trans hlv hfr) (by omega) hS hR hd hl hz (by omega) (by omega) fun H1 locs1 a1 a2 => next H1 locs1 ls a1 a2 hL
                  · split at hs
                    · cases hs
                    · split at hs <;> cases hs
        · cases hs
      · cases hs
    · rename_i v' hs
      cases h
      unfold zstep at hs
      rw [hM] at hs
      simp only at hs
      split at hs
      · rename_i ins len hd
        split at hs
        · rename_i hl
          unfold zins at hs
          split at hs
          · cases hs
          · split at hs
            · split at hs <;> cases hs
            · split at hs
              · cases hs
              · split at hs
                · cases hs
                · split at hs
                  · cases hs
                  · split at hs
                    · rename_i hz
                      cases hs
                      cases zretv_len hz hl
                      exact W.widen (by omega) (by omega) (kk H locs ls pc (S.map (zcv (zad bb base))) ⟨ins, S, hd, hz, rfl⟩ hR hS)
                    · split at hs <;> cases hs
        · cases hs
      · cases hs
    · rename_i k2 as S' hs
      obtain ⟨r, h1, h2⟩ := Option.bind_eq_some_iff.mp h
      obtain ⟨v1, sh1, mi1, mj1, mr1⟩ := r
      have hg := zex_grow _ _ _ _ _ _ _ _ _ _ h2
      have hg1 := zex_grow _ _ _ _ _ _ _ _ _ _ h1
      simp only at hg hg1
      unfold zstep at hs
      rw [hM] at hs
      simp only at hs
      split at hs
      · rename_i ins len hd
        split at hs
        · rename_i hl
          unfold zins at hs
          split at hs
          · cases hs
          · split at hs
            · split at hs <;> cases hs
            · split at hs
              · cases hs
              · split at hs
                · cases hs
                · split at hs
                  · cases hs
                  · split at hs
                    · cases hs
                    · split at hs
                      · rename_i hz
                        cases hs
                        refine zs_call (k := k) ih X hL.1 hfr hlo hS hR hd hl hz h1 (by omega) (by omega) fun H1 locs1 a1 a2 => ?_
                        exact ih k (pc + 3) L (v1.toList ++ S') sh1 mi1 mj1 mr1 v sh' mi' mj' mr' h2 y b ml rt c lv np q1 q2 hM p l e R s m args below meth cd H1 locs1 _ _ Q ls D AT bb base Ls xs X hinit hlv hfr hlo a2 a1 hL (by omega) (by omega) kk
                      · cases hs
        · cases hs
      · cases hs
    · cases h
