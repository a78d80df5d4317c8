/-! ===== ranges are right (6): the true value at a point, for two evaluations at once ===== -/
/-- the noise of the inputs at a point of the box -/
def einP (N : Int) (E : Nat → Int) (lo hi : Nat → Int32) (p : Nat → Int) : Prop := ∀ k, k < 4 → N * (p k - ((lo k).toInt + (hi k).toInt) / 2) = wid (lo k).toInt (hi k).toInt * E k
def inB (lo hi : Nat → Int32) (p : Nat → Int) : Prop := ∀ k, k < 4 → (lo k).toInt ≤ p k ∧ p k ≤ (hi k).toInt
def invZ (lo hi : Nat → Int32) (p : Nat → Int) (N : Int) (E Z : Nat → Int) (d : Nat) (S : Nat → En) : Prop := 0 < N ∧ (∀ s, s < 12 → bnd (E s) N) ∧ einP N E lo hi p ∧ ∀ j, j < d → (S j).1 = zi 0 → fOk (S j).2 ∧ sndF N E (Z j) (S j).2
/-- over which denominator, and what, the true value of a step is -/
def tvT (n : Nat) (N Zy : Int) : Int := if n = 9 then 256 * N else if n = 10 then 256 * N else if n = 11 then (if Zy = 0 then 1 else 256 * ((Zy.natAbs : Int) * N) * (Zy.natAbs : Int)) else 1
def tvZ (n : Nat) (N Zx Zy : Int) : Int := if n = 5 then Zx + Zy else if n = 6 then Zx - Zy else if n = 7 then -Zx else if n = 9 then Zx * Zy else if n = 10 then Zx * Zx else if n = 11 then (Zy.natAbs : Int) * Zx * (65536 * N * N * Zy.sign) else if n = 12 then (Zx.natAbs : Int) else if n = 14 then (if Zx ≤ Zy then Zx else Zy) else (if Zx ≤ Zy then Zy else Zx)
section
variable {N t z : Int} {E Z EA EB ZA ZB : Nat → Int} {S SA SB : Nat → En} {d n s x u off : Nat} {e e1 e2 eA eB : En} {lo hi V loA hiA loB hiB : Nat → Int32} {K : Nat → Nat} {v : Int32} {p : Nat → Int}
theorem wild_op (hz : ¬ e.1 = zi 0) : opZ N E t z e := fun q => absurd q hz
theorem tvT_pos (hN : 0 < N) (Zy : Int) : 0 < tvT n N Zy := by
  unfold tvT
  split
  · omega
  · split
    · omega
    · split
      · split
        · omega
        · have hs : 0 < (Zy.natAbs : Int) := by omega
          have h1 : 0 < (Zy.natAbs : Int) * N := Int.mul_pos hs hN
          exact Int.mul_pos (by omega) hs
      · omega
theorem op_u {Zx : Int} (hN : 0 < N) (hE : ∀ s, s < 12 → bnd (E s) N) (hn : n = 7 ∨ n = 10 ∨ n = 12) (h : e.1 = zi 0 → fOk e.2 ∧ sndF N E Zx e.2) : opZ N E (tvT n N 0) (tvZ n N Zx 0) (uop n e) := by
  by_cases hz : e.1 = zi 0
  · obtain ⟨hx, sx⟩ := h hz
    unfold uop
    rw [if_pos hz]
    rcases hn with rfl | rfl | rfl
    · rw [if_pos rfl]; exact op_neg hx sx
    · rw [if_neg (by omega), if_pos rfl]; exact op_sq hN hE hx.bd sx
    · rw [if_neg (by omega), if_neg (by omega), if_pos rfl]; exact op_abs hN hE hx sx
  · have : uop n e = e := if_neg hz
    rw [this]
    exact wild_op hz
theorem op_b {Zx Zy : Int} (hN : 0 < N) (hE : ∀ s, s < 12 → bnd (E s) N) (hn : n = 5 ∨ n = 6 ∨ n = 9 ∨ n = 11 ∨ n = 14 ∨ n = 15) (h : e1.1 = zi 0 → fOk e1.2 ∧ sndF N E Zx e1.2) (h2 : e2.1 = zi 0 → fOk e2.2 ∧ sndF N E Zy e2.2) : opZ N E (tvT n N Zy) (tvZ n N Zx Zy) (bop n e1 e2) := by
  by_cases hz : e1.1 = zi 0
  · by_cases hz2 : e2.1 = zi 0
    · obtain ⟨hx, sx⟩ := h hz
      obtain ⟨hy, sy⟩ := h2 hz2
      have a1 : e1 = (zi 0, e1.2) := Prod.ext hz rfl
      have a2 : e2 = (zi 0, e2.2) := Prod.ext hz2 rfl
      rw [a1, a2]
      rcases hn with rfl | rfl | rfl | rfl | rfl | rfl
      · rw [bop_5]; exact op_add hx hy sx sy
      · rw [bop_6]; exact op_sub hx hy sx sy
      · rw [bop_9]; exact op_mul hN hE hx.bd hy.bd sx sy
      · rw [bop_11]
        by_cases c : flow e2.2 ≤ 0 ∧ 0 ≤ fhigh e2.2
        · rw [if_pos c]; exact wild_op (by decide : ¬ zi 1 = zi 0)
        · rw [if_neg c]
          obtain ⟨z0, z1⟩ := op_div hN hE hx hy sx sy c
          have e : tvT 11 N Zy = 256 * ((Zy.natAbs : Int) * N) * (Zy.natAbs : Int) := by
            unfold tvT
            rw [if_neg (by omega), if_neg (by omega), if_pos rfl, if_neg z0]
          rw [e]
          exact z1
      · rw [bop_14]; exact op_lea hN hE hx hy sx sy
      · rw [bop_15]; exact op_gre hN hE hx hy sx sy
    · have : bop n e1 e2 = e2 := by unfold bop; rw [if_pos hz, if_neg hz2]
      rw [this]
      exact wild_op hz2
  · have : bop n e1 e2 = e1 := by unfold bop; rw [if_neg hz]
    rw [this]
    exact wild_op hz
/-- the roots of two forms of one value -/
theorem op_rt {Zx : Int} (hN : 0 < N) (hA : ∀ s, s < 12 → bnd (EA s) N) (hB : ∀ s, s < 12 → bnd (EB s) N) (h : eA.1 = zi 0 → fOk eA.2 ∧ sndF N EA Zx eA.2) (h2 : eB.1 = zi 0 → fOk eB.2 ∧ sndF N EB Zx eB.2) : ∃ z, opZ N EA 1 (N * z) (uop 13 eA) ∧ opZ N EB 1 (N * z) (uop 13 eB) := by
  have W : ∀ {E : Nat → Int} {e : En} {z : Int}, ¬ (e.1 = zi 0 ∧ ¬ fhigh e.2 < 0) → opZ N E 1 (N * z) (uop 13 e) := by
    intro E e z hw
    by_cases hz : e.1 = zi 0
    · have c : fhigh e.2 < 0 := by
        by_cases c : fhigh e.2 < 0
        · exact c
        · exact absurd ⟨hz, c⟩ hw
      unfold uop
      rw [if_pos hz, if_neg (by omega), if_neg (by omega), if_neg (by omega), if_pos c]
      exact wild_op (by decide : ¬ zi 2 = zi 0)
    · have : uop 13 e = e := if_neg hz
      rw [this]
      exact wild_op hz
  have Y : ∀ {E : Nat → Int} {e : En} {z : Int}, (e.1 = zi 0 → fOk e.2 ∧ sndF N E Zx e.2) → (e.1 = zi 0 ∧ ¬ fhigh e.2 < 0 → rtL e.2 ≤ z ∧ z ≤ rtU e.2) → opZ N E 1 (N * z) (uop 13 e) := by
    intro E e z he hr
    by_cases hw : e.1 = zi 0 ∧ ¬ fhigh e.2 < 0
    · obtain ⟨hz, c⟩ := hw
      obtain ⟨r1, r2⟩ := hr ⟨hz, c⟩
      unfold uop
      rw [if_pos hz, if_neg (by omega), if_neg (by omega), if_neg (by omega), if_neg c]
      exact op_root hN (he hz).1 c r1 r2
    · exact W hw
  by_cases a : eA.1 = zi 0 ∧ ¬ fhigh eA.2 < 0
  · obtain ⟨ax, as⟩ := h a.1
    obtain ⟨-, aa, -, -⟩ := rt_ends ax a.2
    obtain ⟨a1, a2, -, -⟩ := snd_fl hN hA ax as
    by_cases b : eB.1 = zi 0 ∧ ¬ fhigh eB.2 < 0
    · obtain ⟨bx, bs⟩ := h2 b.1
      obtain ⟨-, bb, -, -⟩ := rt_ends bx b.2
      obtain ⟨b1, b2, -, -⟩ := snd_fl hN hB bx bs
      have m1 := rt_meet hN ax bx a.2 b.2 a1 b2
      have m2 := rt_meet hN bx ax b.2 a.2 b1 a2
      exact ⟨if rtL eA.2 ≤ rtL eB.2 then rtL eB.2 else rtL eA.2, Y h (fun _ => by split <;> omega), Y h2 (fun _ => by split <;> omega)⟩
    · exact ⟨rtL eA.2, Y h (fun _ => by omega), W b⟩
  · by_cases b : eB.1 = zi 0 ∧ ¬ fhigh eB.2 < 0
    · obtain ⟨bx, bs⟩ := h2 b.1
      obtain ⟨-, bb, -, -⟩ := rt_ends bx b.2
      exact ⟨rtL eB.2, W a, Y h2 (fun _ => by omega)⟩
    · exact ⟨0, W a, W b⟩
/-- one step of both -/
theorem jop (hbA : boxIn loA hiA) (hbB : boxIn loB hiB) (pA : inB loA hiA p) (pB : inB loB hiB p) (iA : invZ loA hiA p N EA ZA (off + d) SA) (iB : invZ loB hiB p N EB ZB d SB) (hZ : ∀ j, j < d → ZB j = ZA (off + j)) (hn : n < 16) (ho : opn n ≤ d) (h8 : n = 8 → 1 ≤ d) (hv : n = 0 → 0 ≤ v.toInt ∧ v.toInt ≤ 99999) :
    ∃ t z, 0 < t ∧ opZ N EA t z (mkE loA hiA n v (off + d) SA) ∧ opZ N EB t z (mkE loB hiB n v d SB) ∧ (n < 5 → gdE (mkE loA hiA n v (off + d) SA) ∧ gdE (mkE loB hiB n v d SB)) := by
  obtain ⟨hN, hEA, hiA', hSA⟩ := iA
  obtain ⟨-, hEB, hiB', hSB⟩ := iB
  by_cases c0 : n = 0
  · subst c0
    obtain ⟨v1, v2⟩ := hv rfl
    obtain ⟨r, s, b⟩ := op_num (N := N) (E := EA) hN v1 v2
    obtain ⟨r', s', b'⟩ := op_num (N := N) (E := EB) hN v1 v2
    exact ⟨1, _, by omega, op1 r s, op1 r' s', fun _ => ⟨fun _ => fOk_of hN hEA r b s, fun _ => fOk_of hN hEB r' b' s'⟩⟩
  · by_cases c5 : n < 5
    · have emA : mkE loA hiA n v (off + d) SA = (zi 0, fInp (n - 1) (loA (n - 1)) (hiA (n - 1))) := by unfold mkE; rw [if_neg c0, if_pos c5]
      have emB : mkE loB hiB n v d SB = (zi 0, fInp (n - 1) (loB (n - 1)) (hiB (n - 1))) := by unfold mkE; rw [if_neg c0, if_pos c5]
      have hk : n - 1 < 4 := by omega
      have kA := hbA (n - 1) hk
      have kB := hbB (n - 1) hk
      obtain ⟨r, s, b⟩ := op_inp (N := N) (E := EA) (p := p (n - 1)) hN hk (hiA' _ hk) kA.1 kA.2.1 kA.2.2 (pA _ hk).1 (pA _ hk).2
      obtain ⟨r', s', b'⟩ := op_inp (N := N) (E := EB) (p := p (n - 1)) hN hk (hiB' _ hk) kB.1 kB.2.1 kB.2.2 (pB _ hk).1 (pB _ hk).2
      rw [emA, emB]
      exact ⟨1, _, by omega, op1 r s, op1 r' s', fun _ => ⟨fun _ => fOk_of hN hEA r b s, fun _ => fOk_of hN hEB r' b' s'⟩⟩
    · by_cases c8 : n = 8
      · subst c8
        have hd := h8 rfl
        have ez : ZB (d - 1) = ZA (off + d - 1) := by rw [hZ _ (by omega), Nat.add_sub_assoc hd]
        refine ⟨1, ZA (off + d - 1), by omega, ?_, ?_, fun h => absurd h c5⟩
        · show opZ N EA 1 _ (SA (off + d - 1))
          intro hz
          obtain ⟨a, b⟩ := hSA (off + d - 1) (by omega) hz
          exact op_self a b rfl
        · show opZ N EB 1 _ (SB (d - 1))
          intro hz
          obtain ⟨a, b⟩ := hSB (d - 1) (by omega) hz
          rw [ez] at b
          exact op_self a b rfl
      · by_cases c1 : opn n = 1
        · have emA : mkE loA hiA n v (off + d) SA = uop n (SA (off + d - 1)) := by unfold mkE; rw [if_neg c0, if_neg c5, if_neg c8, if_pos c1]
          have emB : mkE loB hiB n v d SB = uop n (SB (d - 1)) := by unfold mkE; rw [if_neg c0, if_neg c5, if_neg c8, if_pos c1]
          have ez : ZB (d - 1) = ZA (off + d - 1) := by rw [hZ _ (by omega), Nat.add_sub_assoc (by omega)]
          have qA := hSA (off + d - 1) (by omega)
          have qB := hSB (d - 1) (by omega)
          rw [ez] at qB
          rw [emA, emB]
          by_cases c13 : n = 13
          · subst c13
            obtain ⟨z, z1, z2⟩ := op_rt hN hEA hEB qA qB
            exact ⟨1, N * z, by omega, z1, z2, fun h => absurd h c5⟩
          · have hc := opn_1 n hn c1
            exact ⟨_, _, tvT_pos (n := n) hN 0, op_u hN hEA (by omega) qA, op_u hN hEB (by omega) qB, fun h => absurd h c5⟩
        · obtain ⟨hc, h2⟩ := opn_2 n hn c5 c8 c1
          have emA : mkE loA hiA n v (off + d) SA = bop n (SA (off + d - 2)) (SA (off + d - 1)) := by unfold mkE; rw [if_neg c0, if_neg c5, if_neg c8, if_neg c1]
          have emB : mkE loB hiB n v d SB = bop n (SB (d - 2)) (SB (d - 1)) := by unfold mkE; rw [if_neg c0, if_neg c5, if_neg c8, if_neg c1]
          have ez : ZB (d - 1) = ZA (off + d - 1) := by rw [hZ _ (by omega), Nat.add_sub_assoc (by omega)]
          have ez2 : ZB (d - 2) = ZA (off + d - 2) := by rw [hZ _ (by omega), Nat.add_sub_assoc (by omega)]
          have qB := hSB (d - 1) (by omega)
          have qB2 := hSB (d - 2) (by omega)
          rw [ez] at qB
          rw [ez2] at qB2
          rw [emA, emB]
          exact ⟨_, _, tvT_pos (n := n) hN (ZA (off + d - 1)), op_b hN hEA hc (hSA (off + d - 2) (by omega)) (hSA (off + d - 1) (by omega)), op_b hN hEB hc qB2 qB, fun h => absurd h c5⟩
theorem einP.sc (h : einP N E lo hi p) : einP (t * N) (fun k => t * E k) lo hi p := by
  intro k hk
  have := h k hk
  show t * N * _ = wid _ _ * (t * E k)
  rw [Int.mul_assoc, this]
  grind
theorem iz_sc (ht : 0 < t) (h : invZ lo hi p N E Z d S) : invZ lo hi p (t * N) (fun k => t * E k) (fun j => t * Z j) d S := by
  obtain ⟨hN, hE, hi', hS⟩ := h
  exact ⟨Int.mul_pos ht hN, fun s hs => bnd_sc ht (hE s hs), hi'.sc, fun j hj hz => ⟨(hS j hj hz).1, snd_sc ht (hS j hj hz).2⟩⟩
theorem iz_push (hI : invZ lo hi p N E Z d S) (hx : x ≤ d) (ht : 0 < t) (hop : opZ N E t z e) : gdE (fin e) ∧ invZ lo hi p (t * N) (fun k => t * E k) (fun j => if j = x then z else t * Z j) (x + 1) (stP S x (fin e)) := by
  obtain ⟨hN, hE, hei, hS⟩ := hI
  have hN' : 0 < t * N := Int.mul_pos ht hN
  have hE' : ∀ s, s < 12 → bnd (t * E s) (t * N) := fun s h => bnd_sc ht (hE s h)
  have key : (fin e).1 = zi 0 → fOk (fin e).2 ∧ sndF (t * N) (fun k => t * E k) z (fin e).2 := by
    intro hz
    have hze : e.1 = zi 0 ∧ ¬ fBig e.2 := by
      rw [fin_eq] at hz
      by_cases c : e.1 = zi 0 ∧ fBig e.2
      · rw [if_pos c] at hz
        exact absurd hz (by decide : ¬ zi 3 = zi 0)
      · rw [if_neg c] at hz
        exact ⟨hz, fun h => c ⟨hz, h⟩⟩
    have hf : fin e = e := by rw [fin_eq, if_neg (fun c => hze.2 c.2)]
    rw [hf]
    obtain ⟨hr, hs⟩ := hop hze.1
    exact ⟨fOk_of hN' hE' hr hze.2 hs, hs⟩
  refine ⟨fun hz => (key hz).1, hN', hE', hei.sc, fun j hj => ?_⟩
  show (stP S x (fin e) j).1 = zi 0 → fOk (stP S x (fin e) j).2 ∧ sndF (t * N) (fun k => t * E k) (if j = x then z else t * Z j) (stP S x (fin e) j).2
  unfold stP
  by_cases c : j = x
  · subst c
    rw [if_pos rfl, if_pos rfl]
    exact key
  · rw [if_neg c, if_neg c]
    intro q
    obtain ⟨a, b⟩ := hS j (by omega) q
    exact ⟨a, snd_sc ht b⟩
theorem chs_ge (W : Nat → Int64) (n : Nat) : 4 ≤ chs W n := by
  induction n with
  | zero => exact Nat.le_refl 4
  | succ n ih => rw [chs]; split <;> omega
theorem dot_del {a : Nat → Int} (s n : Nat) : dot a E n = dot (fun k => if k = s then 0 else a k) E n + (if s < n then a s * E s else 0) := by
  induction n with
  | zero => simp [dot]
  | succ n ih =>
    rw [dot, dot, ih]
    by_cases c : n = s
    · subst c
      rw [if_neg (by omega), if_pos rfl, if_pos (by omega)]
      simp
    · rw [if_neg c]
      by_cases c2 : s < n
      · rw [if_pos c2, if_pos (by omega)]; omega
      · rw [if_neg c2, if_neg (by omega)]; omega
theorem dot_t {a E' : Nat → Int} {t : Int} (n : Nat) (h : ∀ k, k < n → a k * E' k = t * (a k * E k)) : dot a E' n = t * dot a E n := by
  induction n with
  | zero => simp [dot]
  | succ n ih => rw [dot, dot, ih fun k hk => h k (by omega), h n (by omega), Int.mul_add]
theorem cd_13 {F : FF} (h : fOk F) (hs : s < 12) : (F 13 + zabs (F (s + 1))).toInt = (F 13).toInt + ((F (s + 1)).toInt.natAbs : Int) ∧ (F 13).toInt + ((F (s + 1)).toInt.natAbs : Int) ≤ 1000000000 := by
  have h1 := h.1 (s + 1) (by omega)
  have h2 := h.1 13 (by omega)
  have e := zabs_n (u := F (s + 1)) (by omega)
  obtain ⟨f1, -⟩ := frad_i h.raw 12 (by omega)
  have a := asum_ge (a := ic F) 12 s hs
  have e2 : ((ic F s).natAbs : Int) = ((F (s + 1)).toInt.natAbs : Int) := rfl
  have := h.2.2.2.1
  refine ⟨by rw [zj_add (by rw [e]; omega) (by rw [e]; omega), e], by omega⟩
theorem fOk_cd {F : FF} (h : fOk F) (hs : s < 12) : fOk (fCd F (zabs (F (s + 1))) s) := by
  have hr : frad (fCd F (zabs (F (s + 1))) s) 12 = frad F 12 := by rw [frad_cd hs 12 (by omega), if_pos hs, Int64.add_sub_cancel]
  obtain ⟨c1, c2⟩ := cd_13 h hs
  have h13 := h.2.1
  have hfl : flow (fCd F (zabs (F (s + 1))) s) = flow F := by unfold flow; rw [hr]; rfl
  have hfh : fhigh (fCd F (zabs (F (s + 1))) s) = fhigh F := by unfold fhigh; rw [hr]; rfl
  refine ⟨?_, ?_, by rw [hr]; exact h.2.2.1, by rw [hr]; exact h.2.2.2.1, by rw [hfl, hfh]; exact h.2.2.2.2⟩
  · refine mk_all (P := fun u => -1000000000 ≤ u.toInt ∧ u.toInt ≤ 1000000000) (h.1 0 (by omega)) (fun j hj => ?_) ⟨by omega, by omega⟩ (h.1 14 (by omega)) (h.1 15 (by omega))
    split
    · exact ⟨by decide, by decide⟩
    · exact h.1 (j + 1) (by omega)
  · show 0 ≤ (F 13 + zabs (F (s + 1))).toInt
    omega
theorem fOk_nm {F : FF} (h : fOk F) (hs : s < 12) (h0 : F (s + 1) = 0) : fOk (fNm F s) := by
  have hr : frad (fNm F s) 12 = frad F 12 := by rw [frad_nm hs h0 h.e 12 (by omega), if_pos hs]
  have hfl : flow (fNm F s) = flow F := by unfold flow; rw [hr]; rfl
  have hfh : fhigh (fNm F s) = fhigh F := by unfold fhigh; rw [hr]; rfl
  refine ⟨?_, by show 0 ≤ (0 : Int64).toInt; decide, by rw [hr]; exact h.2.2.1, by rw [hr]; exact h.2.2.2.1, by rw [hfl, hfh]; exact h.2.2.2.2⟩
  refine mk_all (P := fun u => -1000000000 ≤ u.toInt ∧ u.toInt ≤ 1000000000) (h.1 0 (by omega)) (fun j hj => ?_) ⟨by decide, by decide⟩ (h.1 14 (by omega)) (h.1 15 (by omega))
  split
  · exact h.1 13 (by omega)
  · exact h.1 (j + 1) (by omega)
theorem snd_cd {F : FF} {Zx : Int} (h : fOk F) (hs : s < 12) (hE : bnd (E s) N) (hx : sndF N E Zx F) : sndF N E Zx (fCd F (zabs (F (s + 1))) s) := by
  refine ⟨hx.1, hx.2.1, ?_⟩
  obtain ⟨c1, c2⟩ := cd_13 h hs
  show bnd (Zx - N * (F 0).toInt - _) (N * (F 13 + zabs (F (s + 1))).toInt)
  have e : dot (ic (fCd F (zabs (F (s + 1))) s)) E 12 = dot (fun k => if k = s then 0 else ic F k) E 12 := by
    refine dot_ext 12 (fun k hk => ?_) (fun _ _ => rfl)
    show (fCd F (zabs (F (s + 1))) s (k + 1)).toInt = _
    unfold fCd
    rw [fMk_c hk]
    by_cases c : k = s
    · rw [if_pos c, if_pos c]; exact kj0
    · rw [if_neg c, if_neg c]; rfl
  have e2 := dot_del (E := E) (a := ic F) s 12
  rw [if_pos hs] at e2
  rw [e, c1, Int.mul_add]
  have b := (bnd.abs (ic F s)).mul hE
  rw [Int.mul_comm ((ic F s).natAbs : Int)] at b
  have b1 := hx.2.2.add b
  have e3 : Zx - N * (F 0).toInt - dot (ic F) E 12 + ic F s * E s = Zx - N * (F 0).toInt - dot (fun k => if k = s then 0 else ic F k) E 12 := by omega
  rw [e3] at b1
  exact b1
theorem iz_nm (hI : invZ lo hi p N E Z d S) (hd : 1 ≤ d) (hz : (S (d - 1)).1 = zi 0) (hp : 0 < (S (d - 1)).2 13) (hu1 : 1 ≤ u) (hu8 : u ≤ 8) : ∃ t' E', 0 < t' ∧ invZ lo hi p (t' * N) E' (fun j => t' * Z j) d (nmS S d u) := by
  obtain ⟨hN, hE, hE4, hS⟩ := hI
  have hs : chs (fun s => wsm S s d) (u - 1) < 12 := by have := chs_lt (fun s => wsm S s d) (u - 1); omega
  have hs4 := chs_ge (fun s => wsm S s d) (u - 1)
  have hfin : ∀ i, nmS S d u i = if i = d - 1 then nmE (cdE (S i) (chs (fun s => wsm S s d) (u - 1))) (chs (fun s => wsm S s d) (u - 1)) else cdE (S i) (chs (fun s => wsm S s d) (u - 1)) := fun i => rfl
  generalize chs (fun s => wsm S s d) (u - 1) = s at hs hs4 hfin
  have hC : ∀ j, j < d → (S j).1 = zi 0 → fOk (cdE (S j) s).2 ∧ sndF N E (Z j) (cdE (S j) s).2 ∧ (cdE (S j) s).2 (s + 1) = 0 ∧ ((S j).2 13).toInt ≤ ((cdE (S j) s).2 13).toInt := by
    intro j hj hzj
    obtain ⟨a, b⟩ := hS j hj hzj
    have ew : wt (S j) s = zabs ((S j).2 (s + 1)) := if_pos hzj
    have ec : (cdE (S j) s).2 = fCd (S j).2 (zabs ((S j).2 (s + 1))) s := by
      show fCd (S j).2 (wt (S j) s) s = _
      rw [ew]
    rw [ec]
    refine ⟨fOk_cd a hs, snd_cd a hs (hE _ hs) b, ?_, ?_⟩
    · unfold fCd; rw [fMk_c hs, if_pos rfl]
    · show _ ≤ ((S j).2 13 + zabs _).toInt
      rw [(cd_13 a hs).1]; omega
  obtain ⟨t1, t2, t3, t4⟩ := hC (d - 1) (by omega) hz
  rw [zj_lt, kj0] at hp
  generalize hF : (cdE (S (d - 1)) s).2 = F at t1 t2 t3 t4
  have he : 0 < (F 13).toInt := by omega
  refine ⟨(F 13).toInt, fun k => if k = s then Z (d - 1) - N * (F 0).toInt - dot (ic F) E 12 else (F 13).toInt * E k, he, Int.mul_pos he hN, fun k hk => ?_, fun k hk => ?_, fun j hj => ?_⟩
  · show bnd (if k = s then _ else _) _
    by_cases c : k = s
    · have q := t2.2.2
      rw [Int.mul_comm N (F 13).toInt] at q
      rw [if_pos c]; exact q
    · rw [if_neg c]; exact bnd_sc he (hE k hk)
  · show (F 13).toInt * N * _ = wid _ _ * (if k = s then _ else _)
    rw [if_neg (by omega), Int.mul_assoc, hE4 k hk]
    grind
  · rw [hfin j]
    by_cases c : j = d - 1
    · rw [if_pos c]
      subst c
      intro _
      show fOk (fNm (cdE (S (d - 1)) s).2 s) ∧ sndF _ _ _ (fNm (cdE (S (d - 1)) s).2 s)
      rw [hF]
      refine ⟨fOk_nm t1 hs t3, ?_, ?_, ?_⟩
      · show _ * (F 14).toInt ≤ _
        rw [Int.mul_assoc]; exact nn_mul (by omega) t2.1
      · show _ ≤ _ * (F 15).toInt
        rw [Int.mul_assoc]; exact nn_mul (by omega) t2.2.1
      · show bnd (_ - (F 13).toInt * N * (F 0).toInt - _) ((F 13).toInt * N * (0 : Int64).toInt)
        rw [kj0, Int.mul_zero]
        have e1 := dot_del (E := fun k => if k = s then Z (d - 1) - N * (F 0).toInt - dot (ic F) E 12 else (F 13).toInt * E k) (a := ic (fNm F s)) s 12
        rw [if_pos hs, if_pos rfl] at e1
        have e2 : ic (fNm F s) s = (F 13).toInt := by
          show (fNm F s (s + 1)).toInt = _
          unfold fNm; rw [fMk_c hs, if_pos rfl]
        have e3 : dot (fun k => if k = s then 0 else ic (fNm F s) k) (fun k => if k = s then Z (d - 1) - N * (F 0).toInt - dot (ic F) E 12 else (F 13).toInt * E k) 12 = (F 13).toInt * dot (ic F) E 12 := by
          have e4 : dot (fun k => if k = s then 0 else ic (fNm F s) k) (fun k => if k = s then Z (d - 1) - N * (F 0).toInt - dot (ic F) E 12 else (F 13).toInt * E k) 12 = (F 13).toInt * dot (fun k => if k = s then 0 else ic (fNm F s) k) E 12 := by
            refine dot_t 12 (fun k hk => ?_)
            by_cases c : k = s
            · rw [if_pos c, if_pos c]; simp
            · rw [if_neg c, if_neg c]; grind
          rw [e4]
          congr 1
          refine dot_ext 12 (fun k hk => ?_) (fun _ _ => rfl)
          by_cases c : k = s
          · subst c
            rw [if_pos rfl]
            show _ = (F (k + 1)).toInt
            rw [t3]; exact kj0.symm
          · rw [if_neg c]
            show (fNm F s (k + 1)).toInt = (F (k + 1)).toInt
            unfold fNm; rw [fMk_c hk, if_neg c]
        rw [e1, e2, e3]
        have e5 : (F 13).toInt * Z (d - 1) - (F 13).toInt * N * (F 0).toInt - ((F 13).toInt * dot (ic F) E 12 + (F 13).toInt * (Z (d - 1) - N * (F 0).toInt - dot (ic F) E 12)) = 0 := by grind
        rw [e5]
        exact ⟨by omega, by omega⟩
    · rw [if_neg c]
      intro hzj
      obtain ⟨a, b, q, -⟩ := hC j hj hzj
      refine ⟨a, ?_, ?_, ?_⟩
      · rw [Int.mul_assoc]; exact nn_mul (by omega) b.1
      · rw [Int.mul_assoc]; exact nn_mul (by omega) b.2.1
      · have e4 : dot (ic (cdE (S j) s).2) (fun k => if k = s then Z (d - 1) - N * (F 0).toInt - dot (ic F) E 12 else (F 13).toInt * E k) 12 = (F 13).toInt * dot (ic (cdE (S j) s).2) E 12 := by
          refine dot_t 12 (fun k hk => ?_)
          by_cases c : k = s
          · subst c
            have : ic (cdE (S j) k).2 k = 0 := by show ((cdE (S j) k).2 (k + 1)).toInt = 0; rw [q]; exact kj0
            rw [this]; simp
          · rw [if_neg c]; grind
        rw [e4]
        have := bnd_sc he b.2.2
        have e5 : (F 13).toInt * Z j - (F 13).toInt * N * ((cdE (S j) s).2 0).toInt - (F 13).toInt * dot (ic (cdE (S j) s).2) E 12 = (F 13).toInt * (Z j - N * ((cdE (S j) s).2 0).toInt - dot (ic (cdE (S j) s).2) E 12) := by grind
        rw [e5, Int.mul_assoc]
        exact this
/-- a step, in one of them -/
theorem iz_st (hu8 : u ≤ 8) (hI : invZ lo hi p N E Z d S) (ht : 0 < t) (hop : opZ N E t z (mkE lo hi n v d S)) : gdE (fin (mkE lo hi n v d S)) ∧ ∃ t' E', 0 < t' ∧ invZ lo hi p (t' * (t * N)) E' (fun j => t' * (if j = d - opn n then z else t * Z j)) (d - opn n + 1) (stE lo hi u n v d S) := by
  obtain ⟨p1, p2⟩ := iz_push (x := d - opn n) hI (by omega) ht hop
  refine ⟨p1, ?_⟩
  unfold stE
  by_cases c : 9 ≤ n ∧ (fin (mkE lo hi n v d S)).1 = zi 0 ∧ 0 < (fin (mkE lo hi n v d S)).2 13 ∧ 1 ≤ u
  · rw [if_pos c]
    refine iz_nm p2 (by omega) ?_ ?_ c.2.2.2 hu8
    · rw [Nat.add_sub_cancel]; unfold stP; rw [if_pos rfl]; exact c.2.1
    · rw [Nat.add_sub_cancel]; unfold stP; rw [if_pos rfl]; exact c.2.2.1
  · rw [if_neg c]
    refine ⟨1, fun k => 1 * (t * E k), by omega, iz_sc (by omega) p2⟩
/-- a step, in both: one true value over one denominator -/
theorem jstep (hbA : boxIn loA hiA) (hbB : boxIn loB hiB) (pA : inB loA hiA p) (pB : inB loB hiB p) (hu8 : u ≤ 8) (iA : invZ loA hiA p N EA ZA (off + d) SA) (iB : invZ loB hiB p N EB ZB d SB) (hZ : ∀ j, j < d → ZB j = ZA (off + j)) (hn : n < 16) (ho : opn n ≤ d) (h8 : n = 8 → 1 ≤ d) (hv : n = 0 → 0 ≤ v.toInt ∧ v.toInt ≤ 99999) :
    gdE (fin (mkE loA hiA n v (off + d) SA)) ∧ (n < 5 → gdE (mkE loA hiA n v (off + d) SA)) ∧ ∃ T EA' EB' ZA' ZB', 0 < T ∧ invZ loA hiA p (T * N) EA' ZA' (off + (d - opn n + 1)) (stE loA hiA u n v (off + d) SA) ∧ invZ loB hiB p (T * N) EB' ZB' (d - opn n + 1) (stE loB hiB u n v d SB) ∧ (∀ j, j < d - opn n + 1 → ZB' j = ZA' (off + j)) ∧ ∀ j, j < off → ZA' j = T * ZA j := by
  obtain ⟨t, z, ht, oA, oB, g5⟩ := jop (v := v) hbA hbB pA pB iA iB hZ hn ho h8 hv
  obtain ⟨gA, tA, EA', hA, qA⟩ := iz_st hu8 iA ht oA
  obtain ⟨gB, tB, EB', hB, qB⟩ := iz_st hu8 iB ht oB
  refine ⟨gA, fun h => (g5 h).1, tA * tB * t, fun k => tB * EA' k, fun k => tA * EB' k, fun j => tB * (tA * (if j = off + d - opn n then z else t * ZA j)), fun j => tA * (tB * (if j = d - opn n then z else t * ZB j)), Int.mul_pos (Int.mul_pos hA hB) ht, ?_, ?_, fun j hj => ?_, fun j hj => ?_⟩
  · have := iz_sc hB qA
    rw [show tB * (tA * (t * N)) = tA * tB * t * N by grind, show off + d - opn n + 1 = off + (d - opn n + 1) by omega] at this
    exact this
  · have := iz_sc hA qB
    rw [show tA * (tB * (t * N)) = tA * tB * t * N by grind] at this
    exact this
  · show tA * (tB * (if j = d - opn n then z else t * ZB j)) = tB * (tA * (if off + j = off + d - opn n then z else t * ZA (off + j)))
    by_cases c : j = d - opn n
    · rw [if_pos c, if_pos (by omega)]; grind
    · rw [if_neg c, if_neg (by omega), hZ j (by omega)]; grind
  · show tB * (tA * (if j = off + d - opn n then z else t * ZA j)) = tA * tB * t * ZA j
    rw [if_neg (by omega)]
    grind
end
