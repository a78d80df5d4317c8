/-! ===== ranges are right (6): all stacks of forms ===== -/
def invS (N : Int) (E : Nat → Int) (Z : Nat → Int) (d : Nat) (S : Nat → En) : Prop := 0 < N ∧ (∀ s, s < 12 → bnd (E s) N) ∧ (∀ s, s < 4 → E s = 0) ∧ ∀ j, j < d → (S j).1 = zi 0 → fOk (S j).2 ∧ sndF N E (Z j) (S j).2
section
variable {N : Int} {E Z : Nat → Int} {S : Nat → En} {d n s x u : Nat} {e e1 e2 : En} {lo hi V : Nat → Int32} {K : Nat → Nat} {v : Int32}
theorem op_u {Zx : Int} (hN : 0 < N) (hE : ∀ s, s < 12 → bnd (E s) N) (hn : n = 7 ∨ n = 10 ∨ n = 12 ∨ n = 13) (h : e.1 = zi 0 → fOk e.2 ∧ sndF N E Zx e.2) : opS N E (uop n e) := by
  by_cases hz : e.1 = zi 0
  · obtain ⟨hx, sx⟩ := h hz
    unfold uop
    rw [if_pos hz]
    rcases hn with rfl | rfl | rfl | rfl
    · rw [if_pos rfl]; exact op_neg hx sx
    · rw [if_neg (by omega), if_pos rfl]; exact op_sq hN hE hx.bd sx
    · rw [if_neg (by omega), if_neg (by omega), if_pos rfl]; exact op_abs hN hx sx
    · rw [if_neg (by omega), if_neg (by omega), if_neg (by omega)]
      by_cases c : fhigh e.2 < 0
      · rw [if_pos c]; intro q; exact absurd q (by decide : ¬ zi 2 = zi 0)
      · rw [if_neg c]; exact op_root hN hx c
  · have : uop n e = e := if_neg hz
    rw [this]
    intro q; exact absurd q hz
theorem op_b {Zx Zy : Int} (hN : 0 < N) (hE : ∀ s, s < 12 → bnd (E s) N) (hn : n = 5 ∨ n = 6 ∨ n = 9 ∨ n = 11 ∨ n = 14 ∨ n = 15) (h : e1.1 = zi 0 → fOk e1.2 ∧ sndF N E Zx e1.2) (h2 : e2.1 = zi 0 → fOk e2.2 ∧ sndF N E Zy e2.2) : opS N E (bop n e1 e2) := by
  by_cases hz : e1.1 = zi 0
  · by_cases hz2 : e2.1 = zi 0
    · obtain ⟨hx, sx⟩ := h hz
      obtain ⟨hy, sy⟩ := h2 hz2
      have a1 : e1 = (zi 0, e1.2) := Prod.ext hz rfl
      have a2 : e2 = (zi 0, e2.2) := Prod.ext hz2 rfl
      rw [a1, a2]
      rcases hn with rfl | rfl | rfl | rfl | rfl | rfl
      · rw [bop_5]; exact op_add hx hy sx sy
      · rw [bop_6]; exact op_sub hx hy sx sy
      · rw [bop_9]; exact op_mul hN hE hx.bd hy.bd sx sy
      · rw [bop_11]
        by_cases c : flow e2.2 ≤ 0 ∧ 0 ≤ fhigh e2.2
        · rw [if_pos c]; intro q; exact absurd q (by decide : ¬ zi 1 = zi 0)
        · rw [if_neg c]; exact op_div hN hE hx hy sx c
      · rw [bop_14]; exact op_lea hN hx hy sx sy
      · rw [bop_15]; exact op_gre hN hx hy sx sy
    · have : bop n e1 e2 = e2 := by unfold bop; rw [if_pos hz, if_neg hz2]
      rw [this]
      intro q; exact absurd q hz2
  · have : bop n e1 e2 = e1 := by unfold bop; rw [if_neg hz]
    rw [this]
    intro q; exact absurd q hz
theorem op_all (hI : invS N E Z d S) (hn : n < 16) (ho : opn n ≤ d) (h8 : n = 8 → 1 ≤ d) (hb : boxIn lo hi) (hv : n = 0 → 0 ≤ v.toInt ∧ v.toInt ≤ 99999) : opS N E (mkE lo hi n v d S) ∧ (n < 5 → gdE (mkE lo hi n v d S)) := by
  obtain ⟨hN, hE, hE4, hS⟩ := hI
  by_cases c0 : n = 0
  · subst c0
    obtain ⟨v1, v2⟩ := hv rfl
    obtain ⟨r, s, b⟩ := op_num (N := N) (E := E) hN v1 v2
    exact ⟨op1 r s, fun _ _ => fOk_of hN hE r b s⟩
  · by_cases c5 : n < 5
    · have em : mkE lo hi n v d S = (zi 0, fInp (n - 1) (lo (n - 1)) (hi (n - 1))) := by unfold mkE; rw [if_neg c0, if_pos c5]
      have hbk := hb (n - 1) (by omega)
      obtain ⟨r, s, b⟩ := op_inp (N := N) (E := E) hN (show n - 1 < 4 by omega) hE4 hbk.1 hbk.2.1 hbk.2.2
      rw [em]
      exact ⟨op1 r s, fun _ _ => fOk_of hN hE r b s⟩
    · refine ⟨?_, fun h => absurd h c5⟩
      by_cases c8 : n = 8
      · subst c8
        have hd := h8 rfl
        have em : mkE lo hi 8 v d S = S (d - 1) := rfl
        rw [em]
        intro hz
        obtain ⟨a, b⟩ := hS (d - 1) (by omega) hz
        have := op_self a b
        exact this rfl
      · by_cases c1 : opn n = 1
        · have em : mkE lo hi n v d S = uop n (S (d - 1)) := by unfold mkE; rw [if_neg c0, if_neg c5, if_neg c8, if_pos c1]
          rw [em]
          exact op_u hN hE (opn_1 n hn c1) (hS (d - 1) (by omega))
        · obtain ⟨hc, h2⟩ := opn_2 n hn c5 c8 c1
          have em : mkE lo hi n v d S = bop n (S (d - 2)) (S (d - 1)) := by unfold mkE; rw [if_neg c0, if_neg c5, if_neg c8, if_neg c1]
          rw [em]
          exact op_b hN hE hc (hS (d - 2) (by omega)) (hS (d - 1) (by omega))
theorem bnd_sc {t a : Int} (ht : 0 < t) (h : bnd a N) : bnd (t * a) (t * N) := ⟨by rw [← Int.mul_neg]; exact nn_mul (by omega) h.1, nn_mul (by omega) h.2⟩
theorem inv_push (hI : invS N E Z d S) (hx : x ≤ d) (hop : opS N E e) : gdE (fin e) ∧ ∃ N' E' Z', invS N' E' Z' (x + 1) (stP S x (fin e)) := by
  obtain ⟨hN, hE, hE4, hS⟩ := hI
  by_cases hz : (fin e).1 = zi 0
  · have hze : e.1 = zi 0 ∧ ¬ fBig e.2 := by
      rw [fin_eq] at hz
      by_cases c : e.1 = zi 0 ∧ fBig e.2
      · rw [if_pos c] at hz
        exact absurd hz (by decide : ¬ zi 3 = zi 0)
      · rw [if_neg c] at hz
        exact ⟨hz, fun h => c ⟨hz, h⟩⟩
    have hf : fin e = e := by rw [fin_eq, if_neg (fun c => hze.2 c.2)]
    rw [hf]
    obtain ⟨t, Z', ht, hr, hs⟩ := hop hze.1
    have hN' : 0 < t * N := Int.mul_pos ht hN
    have hE' : ∀ s, s < 12 → bnd (t * E s) (t * N) := fun s h => bnd_sc ht (hE s h)
    have hok := fOk_of hN' hE' hr hze.2 hs
    refine ⟨fun _ => hok, t * N, fun k => t * E k, fun j => if j = x then Z' else t * Z j, hN', hE', fun s h => by show t * E s = 0; rw [hE4 s h, Int.mul_zero], fun j hj => ?_⟩
    show (stP S x e j).1 = zi 0 → fOk (stP S x e j).2 ∧ sndF (t * N) (fun k => t * E k) (if j = x then Z' else t * Z j) (stP S x e j).2
    unfold stP
    by_cases c : j = x
    · subst c
      rw [if_pos rfl, if_pos rfl]
      exact fun _ => ⟨hok, hs⟩
    · rw [if_neg c, if_neg c]
      intro q
      obtain ⟨a, b⟩ := hS j (by omega) q
      exact ⟨a, snd_sc ht b⟩
  · refine ⟨fun q => absurd q hz, N, E, Z, hN, hE, hE4, fun j hj => ?_⟩
    unfold stP
    by_cases c : j = x
    · subst c; rw [if_pos rfl]; exact fun q => absurd q hz
    · rw [if_neg c]; exact hS j (by omega)
theorem chs_ge (W : Nat → Int64) (n : Nat) : 4 ≤ chs W n := by
  induction n with
  | zero => exact Nat.le_refl 4
  | succ n ih => rw [chs]; split <;> omega
theorem dot_del {a : Nat → Int} (s n : Nat) : dot a E n = dot (fun k => if k = s then 0 else a k) E n + (if s < n then a s * E s else 0) := by
  induction n with
  | zero => simp [dot]
  | succ n ih =>
    rw [dot, dot, ih]
    by_cases c : n = s
    · subst c
      rw [if_neg (by omega), if_pos rfl, if_pos (by omega)]
      simp
    · rw [if_neg c]
      by_cases c2 : s < n
      · rw [if_pos c2, if_pos (by omega)]; omega
      · rw [if_neg c2, if_neg (by omega)]; omega
theorem dot_t {a E' : Nat → Int} {t : Int} (n : Nat) (h : ∀ k, k < n → a k * E' k = t * (a k * E k)) : dot a E' n = t * dot a E n := by
  induction n with
  | zero => simp [dot]
  | succ n ih => rw [dot, dot, ih fun k hk => h k (by omega), h n (by omega), Int.mul_add]
theorem cd_13 {F : FF} (h : fOk F) (hs : s < 12) : (F 13 + zabs (F (s + 1))).toInt = (F 13).toInt + ((F (s + 1)).toInt.natAbs : Int) ∧ (F 13).toInt + ((F (s + 1)).toInt.natAbs : Int) ≤ 1000000000 := by
  have h1 := h.1 (s + 1) (by omega)
  have h2 := h.1 13 (by omega)
  have e := zabs_n (u := F (s + 1)) (by omega)
  obtain ⟨f1, -⟩ := frad_i h.raw 12 (by omega)
  have a := asum_ge (a := ic F) 12 s hs
  have e2 : ((ic F s).natAbs : Int) = ((F (s + 1)).toInt.natAbs : Int) := rfl
  have := h.2.2.2.1
  refine ⟨by rw [zj_add (by rw [e]; omega) (by rw [e]; omega), e], by omega⟩
theorem fOk_cd {F : FF} (h : fOk F) (hs : s < 12) : fOk (fCd F (zabs (F (s + 1))) s) := by
  have hr : frad (fCd F (zabs (F (s + 1))) s) 12 = frad F 12 := by rw [frad_cd hs 12 (by omega), if_pos hs, Int64.add_sub_cancel]
  obtain ⟨c1, c2⟩ := cd_13 h hs
  have h13 := h.2.1
  have hfl : flow (fCd F (zabs (F (s + 1))) s) = flow F := by unfold flow; rw [hr]; rfl
  have hfh : fhigh (fCd F (zabs (F (s + 1))) s) = fhigh F := by unfold fhigh; rw [hr]; rfl
  refine ⟨?_, ?_, by rw [hr]; exact h.2.2.1, by rw [hr]; exact h.2.2.2.1, by rw [hfl, hfh]; exact h.2.2.2.2⟩
  · refine mk_all (P := fun u => -1000000000 ≤ u.toInt ∧ u.toInt ≤ 1000000000) (h.1 0 (by omega)) (fun j hj => ?_) ⟨by omega, by omega⟩ (h.1 14 (by omega)) (h.1 15 (by omega))
    split
    · exact ⟨by decide, by decide⟩
    · exact h.1 (j + 1) (by omega)
  · show 0 ≤ (F 13 + zabs (F (s + 1))).toInt
    omega
theorem fOk_nm {F : FF} (h : fOk F) (hs : s < 12) (h0 : F (s + 1) = 0) : fOk (fNm F s) := by
  have hr : frad (fNm F s) 12 = frad F 12 := by rw [frad_nm hs h0 h.e 12 (by omega), if_pos hs]
  have hfl : flow (fNm F s) = flow F := by unfold flow; rw [hr]; rfl
  have hfh : fhigh (fNm F s) = fhigh F := by unfold fhigh; rw [hr]; rfl
  refine ⟨?_, by show 0 ≤ (0 : Int64).toInt; decide, by rw [hr]; exact h.2.2.1, by rw [hr]; exact h.2.2.2.1, by rw [hfl, hfh]; exact h.2.2.2.2⟩
  refine mk_all (P := fun u => -1000000000 ≤ u.toInt ∧ u.toInt ≤ 1000000000) (h.1 0 (by omega)) (fun j hj => ?_) ⟨by decide, by decide⟩ (h.1 14 (by omega)) (h.1 15 (by omega))
  split
  · exact h.1 13 (by omega)
  · exact h.1 (j + 1) (by omega)
theorem snd_cd {F : FF} {Zx : Int} (h : fOk F) (hs : s < 12) (hE : bnd (E s) N) (hx : sndF N E Zx F) : sndF N E Zx (fCd F (zabs (F (s + 1))) s) := by
  refine ⟨hx.1, hx.2.1, ?_⟩
  obtain ⟨c1, c2⟩ := cd_13 h hs
  show bnd (Zx - N * (F 0).toInt - _) (N * (F 13 + zabs (F (s + 1))).toInt)
  have e : dot (ic (fCd F (zabs (F (s + 1))) s)) E 12 = dot (fun k => if k = s then 0 else ic F k) E 12 := by
    refine dot_ext 12 (fun k hk => ?_) (fun _ _ => rfl)
    show (fCd F (zabs (F (s + 1))) s (k + 1)).toInt = _
    unfold fCd
    rw [fMk_c hk]
    by_cases c : k = s
    · rw [if_pos c, if_pos c]; exact kj0
    · rw [if_neg c, if_neg c]; rfl
  have e2 := dot_del (E := E) (a := ic F) s 12
  rw [if_pos hs] at e2
  rw [e, c1, Int.mul_add]
  have b := (bnd.abs (ic F s)).mul hE
  rw [Int.mul_comm ((ic F s).natAbs : Int)] at b
  have b1 := hx.2.2.add b
  have e3 : Zx - N * (F 0).toInt - dot (ic F) E 12 + ic F s * E s = Zx - N * (F 0).toInt - dot (fun k => if k = s then 0 else ic F k) E 12 := by omega
  rw [e3] at b1
  exact b1
theorem inv_nm (hI : invS N E Z d S) (hd : 1 ≤ d) (hz : (S (d - 1)).1 = zi 0) (hp : 0 < (S (d - 1)).2 13) (hu1 : 1 ≤ u) (hu8 : u ≤ 8) : ∃ N' E' Z', invS N' E' Z' d (nmS S d u) := by
  obtain ⟨hN, hE, hE4, hS⟩ := hI
  have hs : chs (fun s => wsm S s d) (u - 1) < 12 := by have := chs_lt (fun s => wsm S s d) (u - 1); omega
  have hs4 := chs_ge (fun s => wsm S s d) (u - 1)
  have hfin : ∀ i, nmS S d u i = if i = d - 1 then nmE (cdE (S i) (chs (fun s => wsm S s d) (u - 1))) (chs (fun s => wsm S s d) (u - 1)) else cdE (S i) (chs (fun s => wsm S s d) (u - 1)) := fun i => rfl
  generalize chs (fun s => wsm S s d) (u - 1) = s at hs hs4 hfin
  have hC : ∀ j, j < d → (S j).1 = zi 0 → fOk (cdE (S j) s).2 ∧ sndF N E (Z j) (cdE (S j) s).2 ∧ (cdE (S j) s).2 (s + 1) = 0 ∧ ((S j).2 13).toInt ≤ ((cdE (S j) s).2 13).toInt := by
    intro j hj hzj
    obtain ⟨a, b⟩ := hS j hj hzj
    have ew : wt (S j) s = zabs ((S j).2 (s + 1)) := if_pos hzj
    have ec : (cdE (S j) s).2 = fCd (S j).2 (zabs ((S j).2 (s + 1))) s := by
      show fCd (S j).2 (wt (S j) s) s = _
      rw [ew]
    rw [ec]
    refine ⟨fOk_cd a hs, snd_cd a hs (hE _ hs) b, ?_, ?_⟩
    · unfold fCd; rw [fMk_c hs, if_pos rfl]
    · show _ ≤ ((S j).2 13 + zabs _).toInt
      rw [(cd_13 a hs).1]; omega
  obtain ⟨t1, t2, t3, t4⟩ := hC (d - 1) (by omega) hz
  rw [zj_lt, kj0] at hp
  generalize hF : (cdE (S (d - 1)) s).2 = F at t1 t2 t3 t4
  have he : 0 < (F 13).toInt := by omega
  refine ⟨(F 13).toInt * N, fun k => if k = s then Z (d - 1) - N * (F 0).toInt - dot (ic F) E 12 else (F 13).toInt * E k, fun j => (F 13).toInt * Z j, Int.mul_pos he hN, fun k hk => ?_, fun k hk => ?_, fun j hj => ?_⟩
  · show bnd (if k = s then _ else _) _
    by_cases c : k = s
    · have q := t2.2.2
      rw [Int.mul_comm N (F 13).toInt] at q
      rw [if_pos c]; exact q
    · rw [if_neg c]; exact bnd_sc he (hE k hk)
  · show (if k = s then _ else _) = (0 : Int)
    rw [if_neg (by omega), hE4 k hk, Int.mul_zero]
  · rw [hfin j]
    by_cases c : j = d - 1
    · rw [if_pos c]
      subst c
      intro _
      show fOk (fNm (cdE (S (d - 1)) s).2 s) ∧ sndF _ _ _ (fNm (cdE (S (d - 1)) s).2 s)
      rw [hF]
      refine ⟨fOk_nm t1 hs t3, ?_, ?_, ?_⟩
      · show _ * (F 14).toInt ≤ _
        rw [Int.mul_assoc]; exact nn_mul (by omega) t2.1
      · show _ ≤ _ * (F 15).toInt
        rw [Int.mul_assoc]; exact nn_mul (by omega) t2.2.1
      · show bnd (_ - (F 13).toInt * N * (F 0).toInt - _) ((F 13).toInt * N * (0 : Int64).toInt)
        rw [kj0, Int.mul_zero]
        have e1 := dot_del (E := fun k => if k = s then Z (d - 1) - N * (F 0).toInt - dot (ic F) E 12 else (F 13).toInt * E k) (a := ic (fNm F s)) s 12
        rw [if_pos hs, if_pos rfl] at e1
        have e2 : ic (fNm F s) s = (F 13).toInt := by
          show (fNm F s (s + 1)).toInt = _
          unfold fNm; rw [fMk_c hs, if_pos rfl]
        have e3 : dot (fun k => if k = s then 0 else ic (fNm F s) k) (fun k => if k = s then Z (d - 1) - N * (F 0).toInt - dot (ic F) E 12 else (F 13).toInt * E k) 12 = (F 13).toInt * dot (ic F) E 12 := by
          have e4 : dot (fun k => if k = s then 0 else ic (fNm F s) k) (fun k => if k = s then Z (d - 1) - N * (F 0).toInt - dot (ic F) E 12 else (F 13).toInt * E k) 12 = (F 13).toInt * dot (fun k => if k = s then 0 else ic (fNm F s) k) E 12 := by
            refine dot_t 12 (fun k hk => ?_)
            by_cases c : k = s
            · rw [if_pos c, if_pos c]; simp
            · rw [if_neg c, if_neg c]; grind
          rw [e4]
          congr 1
          refine dot_ext 12 (fun k hk => ?_) (fun _ _ => rfl)
          by_cases c : k = s
          · subst c
            rw [if_pos rfl]
            show _ = (F (k + 1)).toInt
            rw [t3]; exact kj0.symm
          · rw [if_neg c]
            show (fNm F s (k + 1)).toInt = (F (k + 1)).toInt
            unfold fNm; rw [fMk_c hk, if_neg c]
        rw [e1, e2, e3]
        have e5 : (F 13).toInt * Z (d - 1) - (F 13).toInt * N * (F 0).toInt - ((F 13).toInt * dot (ic F) E 12 + (F 13).toInt * (Z (d - 1) - N * (F 0).toInt - dot (ic F) E 12)) = 0 := by grind
        rw [e5]
        exact ⟨by omega, by omega⟩
    · rw [if_neg c]
      intro hzj
      obtain ⟨a, b, q, -⟩ := hC j hj hzj
      refine ⟨a, ?_, ?_, ?_⟩
      · rw [Int.mul_assoc]; exact nn_mul (by omega) b.1
      · rw [Int.mul_assoc]; exact nn_mul (by omega) b.2.1
      · have e4 : dot (ic (cdE (S j) s).2) (fun k => if k = s then Z (d - 1) - N * (F 0).toInt - dot (ic F) E 12 else (F 13).toInt * E k) 12 = (F 13).toInt * dot (ic (cdE (S j) s).2) E 12 := by
          refine dot_t 12 (fun k hk => ?_)
          by_cases c : k = s
          · subst c
            have : ic (cdE (S j) k).2 k = 0 := by show ((cdE (S j) k).2 (k + 1)).toInt = 0; rw [q]; exact kj0
            rw [this]; simp
          · rw [if_neg c]; grind
        rw [e4]
        have := bnd_sc he b.2.2
        have e5 : (F 13).toInt * Z j - (F 13).toInt * N * ((cdE (S j) s).2 0).toInt - (F 13).toInt * dot (ic (cdE (S j) s).2) E 12 = (F 13).toInt * (Z j - N * ((cdE (S j) s).2 0).toInt - dot (ic (cdE (S j) s).2) E 12) := by grind
        rw [e5, Int.mul_assoc]
        exact this
theorem gd_all (hb : boxIn lo hi) (hu8 : u ≤ 8) (n : Nat) : wfK K n → valIn K V n → (∃ N E Z, invS N E Z (dep K n) (stk lo hi u K V n)) ∧ gdS lo hi u K V n := by
  induction n with
  | zero => exact fun _ _ => ⟨⟨1, fun _ => 0, fun _ => 0, by omega, fun _ _ => show bnd 0 1 from ⟨by omega, by omega⟩, fun _ _ => rfl, fun j hj => absurd hj (by show ¬ j < 0; omega)⟩, fun i hi => by omega⟩
  | succ n ih =>
    intro hw hv
    obtain ⟨⟨N, E, Z, hI⟩, hg⟩ := ih (hw.le (by omega)) (fun k hk => hv k (by omega))
    obtain ⟨w1, w2, w3, w4⟩ := hw n (by omega)
    obtain ⟨o1, o2⟩ := op_all (v := V n) hI w1 w2 w4 hb (hv n (by omega))
    obtain ⟨p1, N', E', Z', p2⟩ := inv_push (x := dep K n - opn (K n)) hI (by omega) o1
    refine ⟨?_, fun i hi => ?_⟩
    · show ∃ N E Z, invS N E Z (dep K n - opn (K n) + 1) (stE lo hi u (K n) (V n) (dep K n) (stk lo hi u K V n))
      unfold stE
      by_cases c : 9 ≤ K n ∧ (fin (mkE lo hi (K n) (V n) (dep K n) (stk lo hi u K V n))).1 = zi 0 ∧ 0 < (fin (mkE lo hi (K n) (V n) (dep K n) (stk lo hi u K V n))).2 13 ∧ 1 ≤ u
      · rw [if_pos c]
        refine inv_nm p2 (by omega) ?_ ?_ c.2.2.2 hu8
        · rw [Nat.add_sub_cancel]; unfold stP; rw [if_pos rfl]; exact c.2.1
        · rw [Nat.add_sub_cancel]; unfold stP; rw [if_pos rfl]; exact c.2.2.1
      · rw [if_neg c]
        exact ⟨N', E', Z', p2⟩
    · by_cases c : i = n
      · subst c
        exact ⟨fun j hj hz => (hI.2.2.2 j hj hz).1, p1, o2⟩
      · exact hg i (by omega)
theorem exOk_of (hb : boxIn lo hi) (hu8 : u ≤ 8) (hw : wfK K n) (hv : valIn K V n) : exOk lo hi u K V n := ⟨hv, hw, (gd_all hb hu8 n hw hv).2⟩
end
