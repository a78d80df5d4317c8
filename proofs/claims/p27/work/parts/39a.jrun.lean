/-! ===== ranges are right (7): runs of steps ===== -/
def wfX (K : Nat → Nat) (n : Nat) : Prop := ∀ i, i < n → K i < 16 ∧ opn (K i) ≤ dep K i ∧ dep K i - opn (K i) < 28 ∧ (K i = 8 → 1 ≤ dep K i)
theorem wfX.wf {K : Nat → Nat} {n : Nat} (h : wfX K n) : wfK K n := fun i hi => by
  obtain ⟨a, b, c, d⟩ := h i hi
  exact ⟨a, b, by omega, d⟩
def exOne (K : Nat → Nat) (V : Nat → Int32) (n : Nat) : Prop := wfX K n ∧ valIn K V n ∧ dep K n = 1
def catK (K1 K2 : Nat → Nat) (n1 n2 i : Nat) : Nat := if i < n1 then K1 i else if i < n1 + n2 then K2 (i - n1) else 6
def catV (V1 V2 : Nat → Int32) (n1 n2 i : Nat) : Int32 := if i < n1 then V1 i else if i < n1 + n2 then V2 (i - n1) else zi 0
section
variable {K1 K2 : Nat → Nat} {V1 V2 : Nat → Int32} {n1 n2 i j : Nat}
theorem catK_1 (h : i < n1) : catK K1 K2 n1 n2 i = K1 i := if_pos h
theorem catK_2 (h : i < n2) : catK K1 K2 n1 n2 (n1 + i) = K2 i := by unfold catK; rw [if_neg (by omega), if_pos (by omega), Nat.add_sub_cancel_left]
theorem catK_3 : catK K1 K2 n1 n2 (n1 + n2) = 6 := by unfold catK; rw [if_neg (by omega), if_neg (by omega)]
theorem catV_1 (h : i < n1) : catV V1 V2 n1 n2 i = V1 i := if_pos h
theorem catV_2 (h : i < n2) : catV V1 V2 n1 n2 (n1 + i) = V2 i := by unfold catV; rw [if_neg (by omega), if_pos (by omega), Nat.add_sub_cancel_left]
theorem catV_3 : catV V1 V2 n1 n2 (n1 + n2) = zi 0 := by unfold catV; rw [if_neg (by omega), if_neg (by omega)]
theorem cat_d1 (h : i ≤ n1) : dep (catK K1 K2 n1 n2) i = dep K1 i := dep_ext fun k hk => catK_1 (by omega)
theorem cat_d2 (h : wfX K2 n2) : ∀ j, j ≤ n2 → dep (catK K1 K2 n1 n2) (n1 + j) = dep K1 n1 + dep K2 j := by
  intro j
  induction j with
  | zero => exact fun _ => cat_d1 (Nat.le_refl _)
  | succ j ih =>
    intro hj
    have := (h j (by omega)).2.1
    rw [show n1 + (j + 1) = (n1 + j) + 1 by omega, dep, dep, ih (by omega), catK_2 (by omega)]
    omega
theorem cat_wf (h1 : wfX K1 n1) (h2 : wfX K2 n2) (d1 : dep K1 n1 = 1) (d2 : dep K2 n2 = 1) : wfK (catK K1 K2 n1 n2) (n1 + n2 + 1) ∧ dep (catK K1 K2 n1 n2) (n1 + n2 + 1) = 1 := by
  have dd : dep (catK K1 K2 n1 n2) (n1 + n2) = 2 := by rw [cat_d2 h2 n2 (Nat.le_refl _), d1, d2]
  refine ⟨fun i hi => ?_, by rw [dep, dd, catK_3]; rfl⟩
  by_cases c : i < n1
  · rw [catK_1 c, cat_d1 (by omega)]
    exact h1.wf i c
  · by_cases c2 : i < n1 + n2
    · obtain ⟨j, rfl⟩ : ∃ j, i = n1 + j := ⟨i - n1, by omega⟩
      obtain ⟨a, b, c, d⟩ := h2 j (by omega)
      rw [catK_2 (by omega), cat_d2 h2 j (by omega), d1]
      exact ⟨a, by omega, by omega, fun q => by omega⟩
    · obtain rfl : i = n1 + n2 := by omega
      rw [dd, catK_3]
      exact ⟨by omega, by decide, by decide, fun q => by omega⟩
theorem cat_v (h1 : valIn K1 V1 n1) (h2 : valIn K2 V2 n2) : valIn (catK K1 K2 n1 n2) (catV V1 V2 n1 n2) (n1 + n2 + 1) := by
  intro i hi hk
  by_cases c : i < n1
  · rw [catK_1 c] at hk
    rw [catV_1 c]
    exact h1 i c hk
  · by_cases c2 : i < n1 + n2
    · obtain ⟨j, rfl⟩ : ∃ j, i = n1 + j := ⟨i - n1, by omega⟩
      rw [catK_2 (by omega)] at hk
      rw [catV_2 (by omega)]
      exact h2 j (by omega) hk
    · obtain rfl : i = n1 + n2 := by omega
      rw [catK_3] at hk
      exact absurd hk (by decide)
end
/-- the true value lies in every range of a form -/
def sit (N Z : Int) (T : En) : Prop := T.1 = zi 0 → fOk T.2 ∧ (N * (T.2 14).toInt ≤ Z ∧ Z ≤ N * (T.2 15).toInt) ∧ (N * (flow T.2).toInt ≤ Z ∧ Z ≤ N * (fhigh T.2).toInt) ∧ N * ((T.2 0).toInt - (frad T.2 12).toInt) ≤ Z ∧ Z ≤ N * ((T.2 0).toInt + (frad T.2 12).toInt)
section
variable {N t z : Int} {E Z EA EB ZA ZB : Nat → Int} {S SA SB : Nat → En} {d n s x u off n0 n1 n2 : Nat} {e T : En} {lo hi V loA hiA loB hiB VA V1 V2 : Nat → Int32} {K KA K1 K2 : Nat → Nat} {v : Int32} {p : Nat → Int}
theorem iz_sit {j : Nat} (h : invZ lo hi p N E Z d S) (hj : j < d) : sit N (Z j) (S j) := by
  obtain ⟨hN, hE, -, hS⟩ := h
  intro hz
  obtain ⟨a, b⟩ := hS j hj hz
  obtain ⟨c1, c2, c3, c4⟩ := snd_fl hN hE a b
  exact ⟨a, ⟨b.1, b.2.1⟩, ⟨c1, c2⟩, c3, c4⟩
theorem sit_sc (ht : 0 < t) (h : sit N z T) : sit (t * N) (t * z) T := by
  intro hz
  obtain ⟨a, ⟨b1, b2⟩, ⟨c1, c2⟩, d1, d2⟩ := h hz
  have ht' : 0 ≤ t := by omega
  simp only [Int.mul_assoc]
  exact ⟨a, ⟨nn_mul ht' b1, nn_mul ht' b2⟩, ⟨nn_mul ht' c1, nn_mul ht' c2⟩, nn_mul ht' d1, nn_mul ht' d2⟩
theorem jrun (hbA : boxIn loA hiA) (hbB : boxIn loB hiB) (pA : inB loA hiA p) (pB : inB loB hiB p) (hu8 : u ≤ 8) (hw : wfK K n) (hv : valIn K V n) (hK : ∀ i, i < n → KA (n0 + i) = K i) (hV : ∀ i, i < n → VA (n0 + i) = V i) (hd : ∀ i, i ≤ n → dep KA (n0 + i) = off + dep K i)
    (iA : invZ loA hiA p N EA ZA off (stk loA hiA u KA VA n0)) (hEB : ∀ s, s < 12 → bnd (EB s) N) (hPB : einP N EB loB hiB p) : ∀ i, i ≤ n → ∃ T EA' EB' ZA' ZB', 0 < T ∧ invZ loA hiA p (T * N) EA' ZA' (off + dep K i) (stk loA hiA u KA VA (n0 + i)) ∧ invZ loB hiB p (T * N) EB' ZB' (dep K i) (stk loB hiB u K V i) ∧ (∀ j, j < dep K i → ZB' j = ZA' (off + j)) ∧ ∀ j, j < off → ZA' j = T * ZA j := by
  intro i
  induction i with
  | zero =>
    intro _
    refine ⟨1, fun k => 1 * EA k, fun k => 1 * EB k, fun j => 1 * ZA j, fun _ => 0, by omega, iz_sc (by omega) iA, ?_, fun j hj => absurd hj (by show ¬ j < 0; omega), fun j hj => rfl⟩
    exact ⟨Int.mul_pos (by omega) iA.1, fun s hs => bnd_sc (by omega) (hEB s hs), hPB.sc, fun j hj => absurd hj (by show ¬ j < 0; omega)⟩
  | succ i ih =>
    intro hi'
    obtain ⟨T, EA', EB', ZA', ZB', h1, h2, h3, h4, h5⟩ := ih (by omega)
    obtain ⟨w1, w2, w3, w4⟩ := hw i (by omega)
    obtain ⟨-, -, T2, EA2, EB2, ZA2, ZB2, q1, q2, q3, q4, q5⟩ := jstep (n := K i) (v := V i) hbA hbB pA pB hu8 h2 h3 h4 w1 w2 w4 (hv i (by omega))
    refine ⟨T2 * T, EA2, EB2, ZA2, ZB2, Int.mul_pos q1 h1, ?_, ?_, q4, fun j hj => by rw [q5 j hj, h5 j hj, Int.mul_assoc]⟩
    · rw [Int.mul_assoc, show n0 + (i + 1) = (n0 + i) + 1 by omega, stk, hK i (by omega), hV i (by omega), hd i (by omega)]
      exact q2
    · rw [Int.mul_assoc]
      exact q3
theorem wid_0 {l r q : Int} (h1 : l ≤ q) (h2 : q ≤ r) : 0 ≤ wid l r ∧ -(wid l r) ≤ q - (l + r) / 2 ∧ q - (l + r) / 2 ≤ wid l r := by
  unfold wid
  split <;> omega
/-- there is a noise that means the point -/
theorem ein_1 {R m w q : Int} (hR : 0 < R) (hm : m = if w = 0 then 1 else w) (w0 : 0 ≤ w) (h1 : -w ≤ q) (h2 : q ≤ w) : R * m * q = w * (R * q) ∧ bnd (R * q) (R * m) := by
  by_cases c : w = 0
  · have : q = 0 := by omega
    subst this
    rw [if_pos c] at hm
    subst hm
    simp
    exact ⟨by omega, by omega⟩
  · rw [if_neg c] at hm
    subst hm
    refine ⟨by grind, ?_, nn_mul (by omega) h2⟩
    rw [← Int.mul_neg]
    exact nn_mul (by omega) h1
theorem ein_ex (hp : inB lo hi p) : ∃ N E, 0 < N ∧ (∀ s, s < 12 → bnd (E s) N) ∧ einP N E lo hi p := by
  obtain ⟨a0, b0, c0⟩ := wid_0 (hp 0 (by omega)).1 (hp 0 (by omega)).2
  obtain ⟨a1, b1, c1⟩ := wid_0 (hp 1 (by omega)).1 (hp 1 (by omega)).2
  obtain ⟨a2, b2, c2⟩ := wid_0 (hp 2 (by omega)).1 (hp 2 (by omega)).2
  obtain ⟨a3, b3, c3⟩ := wid_0 (hp 3 (by omega)).1 (hp 3 (by omega)).2
  have P : ∀ w : Int, 0 ≤ w → 0 < (if w = 0 then 1 else w) := fun w hw => by split <;> omega
  have p0 := P _ a0
  have p1 := P _ a1
  have p2 := P _ a2
  have p3 := P _ a3
  generalize hm0 : (if wid (lo 0).toInt (hi 0).toInt = 0 then 1 else wid (lo 0).toInt (hi 0).toInt) = m0 at p0
  generalize hm1 : (if wid (lo 1).toInt (hi 1).toInt = 0 then 1 else wid (lo 1).toInt (hi 1).toInt) = m1 at p1
  generalize hm2 : (if wid (lo 2).toInt (hi 2).toInt = 0 then 1 else wid (lo 2).toInt (hi 2).toInt) = m2 at p2
  generalize hm3 : (if wid (lo 3).toInt (hi 3).toInt = 0 then 1 else wid (lo 3).toInt (hi 3).toInt) = m3 at p3
  have e0 := ein_1 (Int.mul_pos (Int.mul_pos p1 p2) p3) hm0.symm a0 b0 c0
  have e1 := ein_1 (Int.mul_pos (Int.mul_pos p0 p2) p3) hm1.symm a1 b1 c1
  have e2 := ein_1 (Int.mul_pos (Int.mul_pos p0 p1) p3) hm2.symm a2 b2 c2
  have e3 := ein_1 (Int.mul_pos (Int.mul_pos p0 p1) p2) hm3.symm a3 b3 c3
  rw [show m1 * m2 * m3 * m0 = m0 * m1 * m2 * m3 by grind] at e0
  rw [show m0 * m2 * m3 * m1 = m0 * m1 * m2 * m3 by grind] at e1
  rw [show m0 * m1 * m3 * m2 = m0 * m1 * m2 * m3 by grind] at e2
  refine ⟨m0 * m1 * m2 * m3, fun k => if k = 0 then m1 * m2 * m3 * (p 0 - ((lo 0).toInt + (hi 0).toInt) / 2) else if k = 1 then m0 * m2 * m3 * (p 1 - ((lo 1).toInt + (hi 1).toInt) / 2) else if k = 2 then m0 * m1 * m3 * (p 2 - ((lo 2).toInt + (hi 2).toInt) / 2) else if k = 3 then m0 * m1 * m2 * (p 3 - ((lo 3).toInt + (hi 3).toInt) / 2) else 0, Int.mul_pos (Int.mul_pos (Int.mul_pos p0 p1) p2) p3, fun s hs => ?_, fun k hk => ?_⟩
  · by_cases s0 : s = 0
    · subst s0; exact e0.2
    · by_cases s1 : s = 1
      · subst s1; exact e1.2
      · by_cases s2 : s = 2
        · subst s2; exact e2.2
        · by_cases s3 : s = 3
          · subst s3; exact e3.2
          · show bnd (if s = 0 then _ else _) _
            rw [if_neg s0, if_neg s1, if_neg s2, if_neg s3]
            have := Int.mul_pos (Int.mul_pos (Int.mul_pos p0 p1) p2) p3
            exact ⟨by omega, by omega⟩
  · rcases (show k = 0 ∨ k = 1 ∨ k = 2 ∨ k = 3 by omega) with rfl | rfl | rfl | rfl
    · exact e0.1
    · exact e1.1
    · exact e2.1
    · exact e3.1
theorem iz_0 {N0 : Int} (hN : 0 < N0) (hE : ∀ s, s < 12 → bnd (E s) N0) (hP : einP N0 E lo hi p) : invZ lo hi p N0 E (fun _ => 0) 0 S := ⟨hN, hE, hP, fun j hj => absurd hj (by omega)⟩
/-- two boxes with a point in common -/
theorem tw (hbA : boxIn loA hiA) (hbB : boxIn loB hiB) (pA : inB loA hiA p) (pB : inB loB hiB p) (hu8 : u ≤ 8) (hx : exOne K V n) : ∃ N Z, 0 < N ∧ sit N Z (topE loA hiA u K V n) ∧ sit N Z (topE loB hiB u K V n) := by
  obtain ⟨w1, w2, w3⟩ := hx
  obtain ⟨NA, EA, hNA, hEA, hPA⟩ := ein_ex pA
  obtain ⟨NB, EB, hNB, hEB, hPB⟩ := ein_ex pB
  have hEB' : ∀ s, s < 12 → bnd (NA * EB s) (NB * NA) := fun s hs => by rw [Int.mul_comm NB NA]; exact bnd_sc hNA (hEB s hs)
  have hPB' : einP (NB * NA) (fun k => NA * EB k) loB hiB p := by rw [Int.mul_comm NB NA]; exact hPB.sc
  obtain ⟨T, EA', EB', ZA', ZB', h1, h2, h3, h4, h5⟩ := jrun (n0 := 0) (off := 0) (KA := K) (VA := V) (u := u) (ZA := fun j => NB * 0) hbA hbB pA pB hu8 w1.wf w2 (fun i _ => by rw [Nat.zero_add]) (fun i _ => by rw [Nat.zero_add]) (fun i _ => by rw [Nat.zero_add, Nat.zero_add]) (iz_sc hNB (iz_0 hNA hEA hPA)) hEB' hPB' n (Nat.le_refl _)
  rw [w3] at h2 h3 h4
  rw [Nat.zero_add] at h2
  have s1 := iz_sit (j := 0) h2 (by omega)
  have s2 := iz_sit (j := 0) h3 (by omega)
  rw [h4 0 (by omega), Nat.zero_add] at s2
  simp only [Nat.zero_add] at s1
  refine ⟨T * (NB * NA), ZA' 0, h2.1, ?_, ?_⟩
  · unfold topE; rw [w3]; exact s1
  · unfold topE; rw [w3]; exact s2
theorem top_ok (hb : boxIn lo hi) (hu : u ≤ 8) (h : exOne K V n) (hz : (topE lo hi u K V n).1 = zi 0) : fOk (topE lo hi u K V n).2 := by
  have hp : inB lo hi (fun k => (lo k).toInt) := fun k hk => ⟨Int.le_refl _, (hb k hk).2.1⟩
  obtain ⟨N, Z, -, s1, -⟩ := tw hb hb hp hp hu h
  exact (s1 hz).1
theorem exOk_of (hb : boxIn lo hi) (hu8 : u ≤ 8) (hw : wfK K n) (hv : valIn K V n) : exOk lo hi u K V n := by
  refine ⟨hv, hw, ?_⟩
  have hp : inB lo hi (fun k => (lo k).toInt) := fun k hk => ⟨Int.le_refl _, (hb k hk).2.1⟩
  obtain ⟨NA, EA, hNA, hEA, hPA⟩ := ein_ex hp
  intro i hi'
  obtain ⟨T, EA', EB', ZA', ZB', h1, h2, h3, h4, h5⟩ := jrun (n0 := 0) (off := 0) (KA := K) (VA := V) (u := u) hb hb hp hp hu8 hw hv (fun i _ => by rw [Nat.zero_add]) (fun i _ => by rw [Nat.zero_add]) (fun i _ => by rw [Nat.zero_add, Nat.zero_add]) (iz_0 hNA hEA hPA) hEA hPA i (by omega)
  obtain ⟨w1, w2, w3, w4⟩ := hw i hi'
  rw [Nat.zero_add] at h2
  obtain ⟨g1, g2, -⟩ := jstep (off := 0) (n := K i) (v := V i) hb hb hp hp hu8 (by rw [Nat.zero_add]; exact h3) h3 (fun j _ => by rw [Nat.zero_add]) w1 w2 w4 (hv i hi')
  rw [Nat.zero_add] at g1 g2
  exact ⟨fun j hj hz => (h3.2.2.2 j hj hz).1, g1, g2⟩
/-- a difference over a box, and both sides at a point of it -/
theorem cp3 {pt : Nat → Int32} (hb : boxIn lo hi) (hpt : boxIn pt pt) (hp : inB lo hi (fun k => (pt k).toInt)) (hu8 : u ≤ 8) (hx1 : exOne K1 V1 n1) (hx2 : exOne K2 V2 n2) : ∃ N Z1 Z2, 0 < N ∧ sit N (Z1 - Z2) (topE lo hi u (catK K1 K2 n1 n2) (catV V1 V2 n1 n2) (n1 + n2 + 1)) ∧ sit N Z1 (topE pt pt u K1 V1 n1) ∧ sit N Z2 (topE pt pt u K2 V2 n2) := by
  obtain ⟨w1, w2, w3⟩ := hx1
  obtain ⟨y1, y2, y3⟩ := hx2
  have hq : inB pt pt (fun k => (pt k).toInt) := fun k _ => ⟨Int.le_refl _, Int.le_refl _⟩
  obtain ⟨NA, EA, hNA, hEA, hPA⟩ := ein_ex hp
  have PE : ∀ N : Int, einP N (fun _ => 0) pt pt (fun k => (pt k).toInt) := fun N k _ => by
    show N * ((pt k).toInt - ((pt k).toInt + (pt k).toInt) / 2) = _ * 0
    rw [show (pt k).toInt - ((pt k).toInt + (pt k).toInt) / 2 = 0 by omega, Int.mul_zero, Int.mul_zero]
  have PB : ∀ N : Int, 0 < N → ∀ s, s < 12 → bnd ((fun _ : Nat => (0 : Int)) s) N := fun N hN s _ => ⟨by show -N ≤ 0; omega, by show 0 ≤ N; omega⟩
  obtain ⟨T1, EA1, EB1, ZA1, ZB1, a1, a2, a3, a4, a5⟩ := jrun (n0 := 0) (off := 0) (KA := catK K1 K2 n1 n2) (VA := catV V1 V2 n1 n2) (u := u) hb hpt hp hq hu8 w1.wf w2 (fun i hi => by rw [Nat.zero_add, catK_1 hi]) (fun i hi => by rw [Nat.zero_add, catV_1 hi]) (fun i hi => by rw [Nat.zero_add, Nat.zero_add, cat_d1 hi]) (iz_0 hNA hEA hPA) (PB _ hNA) (PE _) n1 (Nat.le_refl _)
  rw [w3] at a2 a3 a4
  rw [Nat.zero_add, Nat.zero_add] at a2
  have s1 := iz_sit (j := 0) a3 (by omega)
  rw [a4 0 (by omega), Nat.zero_add] at s1
  obtain ⟨T2, EA2, EB2, ZA2, ZB2, b1, b2, b3, b4, b5⟩ := jrun (n0 := n1) (off := 1) (KA := catK K1 K2 n1 n2) (VA := catV V1 V2 n1 n2) (u := u) hb hpt hp hq hu8 y1.wf y2 (fun i hi => catK_2 hi) (fun i hi => catV_2 hi) (fun i hi => by rw [cat_d2 y1 i hi, w3]) a2 (PB _ a2.1) (PE _) n2 (Nat.le_refl _)
  rw [y3] at b2 b3 b4
  have s2 := iz_sit (j := 0) b3 (by omega)
  rw [b4 0 (by omega)] at s2
  have dd : dep (catK K1 K2 n1 n2) (n1 + n2) = 2 := by rw [cat_d2 y1 n2 (Nat.le_refl _), w3, y3]
  have hop : opZ (T2 * (T1 * NA)) EA2 1 (ZA2 0 - ZA2 1) (mkE lo hi 6 (zi 0) (1 + 1) (stk lo hi u (catK K1 K2 n1 n2) (catV V1 V2 n1 n2) (n1 + n2))) := by
    have em : mkE lo hi 6 (zi 0) (1 + 1) (stk lo hi u (catK K1 K2 n1 n2) (catV V1 V2 n1 n2) (n1 + n2)) = bop 6 (stk lo hi u (catK K1 K2 n1 n2) (catV V1 V2 n1 n2) (n1 + n2) 0) (stk lo hi u (catK K1 K2 n1 n2) (catV V1 V2 n1 n2) (n1 + n2) 1) := rfl
    rw [em]
    exact op_b b2.1 b2.2.1 (by omega) (b2.2.2.2 0 (by omega)) (b2.2.2.2 1 (by omega))
  obtain ⟨-, t', E', c1, c2⟩ := iz_st (u := u) (n := 6) (v := zi 0) hu8 b2 (by omega) hop
  have s3 := iz_sit (j := 0) c2 (by decide)
  have s1' := sit_sc c1 (sit_sc b1 s1)
  have s2' := sit_sc c1 s2
  have e6 : dep (catK K1 K2 n1 n2) (n1 + n2 + 1) = 1 := by rw [dep, dd, catK_3]; rfl
  refine ⟨t' * (1 * (T2 * (T1 * NA))), t' * (T2 * ZA1 0), t' * ZA2 1, c2.1, ?_, ?_, ?_⟩
  · unfold topE
    rw [e6, show t' * (T2 * ZA1 0) - t' * ZA2 1 = t' * (ZA2 0 - ZA2 1) by rw [b5 0 (by omega)]; grind]
    show sit _ _ (stk lo hi u (catK K1 K2 n1 n2) (catV V1 V2 n1 n2) (n1 + n2 + 1) 0)
    rw [stk, catK_3, catV_3, dd]
    exact s3
  · unfold topE
    rw [w3, Int.one_mul]
    exact s1'
  · unfold topE
    rw [y3, Int.one_mul]
    exact s2'
end
