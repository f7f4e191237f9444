/-! ===== together: the pair of ways that is worth the most to both ===== -/
def uS (M : Mem) (s : Nat) : Int := uM 35 M s 0 + uM 35 M s 1
theorem PRS.eqnB {W : Nat → Int32} {a b : Nat} {p q : Int} {M : Mem} (hA : WOKW W a) (hB : WOKW W b) (h : PRS W a b p q M) : eqnW (stW W a b) (nxW W a b) (fun s => bthW W a b s) p q (fun s => uS M s) (fun s => dM 35 M s) := fun s hs => by
  obtain ⟨a1, a2, a3⟩ := h.eqn (pe := 0) hA hB (by decide) s hs
  obtain ⟨-, -, b3⟩ := h.eqn (pe := 1) hA hB (by decide) s hs
  refine ⟨a1, a2, ?_⟩
  dsimp only at a3 b3 ⊢
  unfold uS bthW
  generalize uM 35 M s 0 = x0 at *
  generalize uM 35 M s 1 = x1 at *
  generalize uM 35 M (nxW W a b s) 0 = y0 at *
  generalize uM 35 M (nxW W a b s) 1 = y1 at *
  generalize dM 35 M (nxW W a b s) = d' at *
  generalize dM 35 M s = d at *
  generalize getW W a b s 0 = g0 at *
  generalize getW W a b s 1 = g1 at *
  have e1 : q * (x0 + x1) * d' = q * x0 * d' + q * x1 * d' := by grind
  have e2 : d * ((g0 + g1) * q * d' + p * (y0 + y1)) = d * (g0 * q * d' + p * y0) + d * (g1 * q * d' + p * y1) := by grind
  rw [e1, e2, a3, b3]
theorem PRS.fbS {W : Nat → Int32} {a b s : Nat} {p q : Int} {M : Mem} (hC : chS (stW W a b) (nxW W a b) (getW W a b) p q) (h : PRS W a b p q M) (hs : stW W a b s) : 0 < dM 35 M s ∧ dM 35 M s ≤ 5159780352 ∧ -(198 * q * dM 35 M s) ≤ uS M s ∧ uS M s ≤ 198 * q * dM 35 M s := by
  have hd := (h.2.2.2 s hs).d9 hC
  obtain ⟨-, -, -, -, h5, h6⟩ := h.2.2.2 s hs
  obtain ⟨-, a2, a3⟩ := h6 0 (by decide)
  obtain ⟨-, b2, b3⟩ := h6 1 (by decide)
  dsimp only at a2 a3 b2 b3
  have e : 198 * q * dM 35 M s = 99 * q * dM 35 M s + 99 * q * dM 35 M s := by
    generalize dM 35 M s = d
    grind
  rw [e]
  unfold uS
  exact ⟨h5, hd, by omega, by omega⟩
def tgX (W : Nat → Int32) (a b : Nat) (p q : Int) (X : Int × Int × Bool) : Prop := (0 < X.2.1 ∧ -4611686018427387904 < X.1 ∧ X.1 < 4611686018427387904 ∧ X.2.1 < 4611686018427387904) ∧ (∀ L, PRS W a b p q L → rU (uS L 0) (dM 35 L 0) = X.1 ∧ rD (uS L 0) (dM 35 L 0) = X.2.1 ∧ (fgR W a b p q (uM 35 L) (dM 35 L) 18 0 = -1 ↔ X.2.2 = true)) ∧ ∀ N, bOK W a b p q N → N.2 94 15 = lI X.1 ∧ N.2 94 16 = lI X.2.1
theorem tgX_ex {W : Nat → Int32} {a b : Nat} {p q : Int} {M : Mem} (cw : CW W M) (ha : (a : Int) < (W 5).toInt) (hb : (b : Int) < (W 5).toInt) (p1 : 1 ≤ p) (pq : p < q) (q12 : q ≤ 12) : ∃ X, tgX W a b p q X := by
  have hA := cw.wk ha
  have hB := cw.wk hb
  have mA := hA.moK
  have mB := hB.moK
  have hC := pairS cw.2.1 hA hB p1 pq q12
  obtain ⟨L, -, hL⟩ := C_look (p := p) (q := q) cw ha hb p1 pq q12
  have s0 : stW W a b 0 := ⟨by omega, by omega⟩
  have hit : ∀ k, stW W a b (itN (nxW W a b) 0 k) := fun k => by
    rw [← pth_it]
    exact pth_st hA hB s0 k
  obtain ⟨d0, d9, l1, l2⟩ := hL.fbS hC s0
  have hr := fb_red (G := 198) (q := q) (by omega) d0 l1 l2
  obtain ⟨⟨r1, r2, r3⟩, r4⟩ := hr
  dsimp only at r1 r2 r3
  have gb := gq_bound (G := 198) (X := rD (uS L 0) (dM 35 L 0)) (by decide) (by decide) (show 0 ≤ q by omega) q12 (by omega) (by omega)
  refine ⟨(rU (uS L 0) (dM 35 L 0), rD (uS L 0) (dM 35 L 0), decide (fgR W a b p q (uM 35 L) (dM 35 L) 18 0 = -1)), ⟨r1, ?_, ?_, ?_⟩, fun L' hL' => ?_, fun N hN => ?_⟩
  · show _ < rU (uS L 0) (dM 35 L 0)
    omega
  · show rU (uS L 0) (dM 35 L 0) < _
    omega
  · show rD (uS L 0) (dM 35 L 0) < _
    omega
  · obtain ⟨-, -, -, ⟨t, n, ⟨n1, nr, -⟩, -⟩, -, -⟩ := hL.2.2.2 0 s0
    have e1 := (hL.eqnB hA hB).val (s := 0) p1 pq hit (show t < t + n by omega) nr
    have e2 := (hL'.eqnB hA hB).val (s := 0) p1 pq hit (show t < t + n by omega) nr
    have e := e2.symm.trans e1
    refine ⟨congrArg Prod.fst e, congrArg Prod.snd e, ?_⟩
    show _ ↔ decide (fgR W a b p q (uM 35 L) (dM 35 L) 18 0 = -1) = true
    rw [decide_eq_true_iff, fgR_cg cw.2.1.acts.2 (fun s pe e hs hp he => PRS.gain hA hB p1 pq hL' hL hs hp he) 18 0]
  · obtain ⟨days, c, h1, -, h3, h4, h5, -, -⟩ := hN
    have e := (hL.eqnB hA hB).val (s := 0) p1 pq hit h1 (by rw [← pth_it, ← pth_it]; exact h3)
    have ef : (fun j => bthW W a b (pth W a b 0 j)) = (fun k => (fun s => bthW W a b s) (itN (nxW W a b) 0 k)) := funext fun k => by
      show bthW W a b (pth W a b 0 k) = bthW W a b (itN (nxW W a b) 0 k)
      rw [pth_it]
    rw [ef, e] at h4 h5
    exact ⟨h4, h5⟩
theorem tgX_all {W : Nat → Int32} {p q : Int} {M : Mem} (cw : CW W M) (p1 : 1 ≤ p) (pq : p < q) (q12 : q ≤ 12) : ∃ X : Nat → Nat → Int × Int × Bool, ∀ a b : Nat, (a : Int) < (W 5).toInt → (b : Int) < (W 5).toInt → tgX W a b p q (X a b) := by
  have h : ∀ ab : Nat × Nat, ∃ X : Int × Int × Bool, (ab.1 : Int) < (W 5).toInt → (ab.2 : Int) < (W 5).toInt → tgX W ab.1 ab.2 p q X := fun ab => by
    by_cases c : (ab.1 : Int) < (W 5).toInt ∧ (ab.2 : Int) < (W 5).toInt
    · obtain ⟨X, hX⟩ := tgX_ex cw c.1 c.2 p1 pq q12
      exact ⟨X, fun _ _ => hX⟩
    · exact ⟨(0, 1, true), fun w1 w2 => absurd ⟨w1, w2⟩ c⟩
  obtain ⟨f, hf⟩ := Classical.skolem.mp h
  exact ⟨fun a b => f (a, b), fun a b => hf (a, b)⟩
def cdO : Option (Nat × Nat) → Int
  | none => -1
  | some z => 8 * z.1 + z.2
def tgA (X : Nat → Nat → Int × Int × Bool) (B : Nat → Bool) (a b : Nat) : Option (Nat × Nat) → Option (Nat × Nat)
  | none => if (B a || B b) = true then none else if (X a b).2.2 = true then some (a, b) else none
  | some z => if (B a || B b) = true then some z else if (X a b).2.2 = true then (if 0 < (X a b).1 * (X z.1 z.2).2.1 - (X z.1 z.2).1 * (X a b).2.1 then some (a, b) else some z) else some z
theorem tgA_bar {X : Nat → Nat → Int × Int × Bool} {B : Nat → Bool} {a b : Nat} {st : Option (Nat × Nat)} (h : (B a || B b) = true) : tgA X B a b st = st := by
  cases st with
  | none => exact if_pos h
  | some z => exact if_pos h
theorem tgA_not {X : Nat → Nat → Int × Int × Bool} {B : Nat → Bool} {a b : Nat} {st : Option (Nat × Nat)} (h : ¬ (X a b).2.2 = true) : tgA X B a b st = st := by
  cases st with
  | none =>
    show (if (B a || B b) = true then none else if (X a b).2.2 = true then some (a, b) else none) = none
    rw [if_neg h]
    cases (B a || B b) <;> rfl
  | some z =>
    show (if (B a || B b) = true then some z else if (X a b).2.2 = true then (if 0 < (X a b).1 * (X z.1 z.2).2.1 - (X z.1 z.2).1 * (X a b).2.1 then some (a, b) else some z) else some z) = some z
    rw [if_neg h]
    cases (B a || B b) <;> rfl
theorem tgA_new {X : Nat → Nat → Int × Int × Bool} {B : Nat → Bool} {a b : Nat} (h : ¬ (B a || B b) = true) (h2 : (X a b).2.2 = true) : tgA X B a b none = some (a, b) := by
  show (if (B a || B b) = true then none else if (X a b).2.2 = true then some (a, b) else none) = some (a, b)
  rw [if_neg h, if_pos h2]
theorem tgA_cmp {X : Nat → Nat → Int × Int × Bool} {B : Nat → Bool} {a b : Nat} {z : Nat × Nat} (h : ¬ (B a || B b) = true) (h2 : (X a b).2.2 = true) : tgA X B a b (some z) = if 0 < (X a b).1 * (X z.1 z.2).2.1 - (X z.1 z.2).1 * (X a b).2.1 then some (a, b) else some z := by
  show (if (B a || B b) = true then some z else if (X a b).2.2 = true then (if 0 < (X a b).1 * (X z.1 z.2).2.1 - (X z.1 z.2).1 * (X a b).2.1 then some (a, b) else some z) else some z) = _
  rw [if_neg h, if_pos h2]
def tgI (X : Nat → Nat → Int × Int × Bool) (B : Nat → Bool) (a : Nat) : Nat → Option (Nat × Nat) → Option (Nat × Nat)
  | 0, st => st
  | k + 1, st => tgA X B a k (tgI X B a k st)
def tgO (X : Nat → Nat → Int × Int × Bool) (B : Nat → Bool) (n : Nat) : Nat → Option (Nat × Nat)
  | 0 => none
  | k + 1 => tgI X B k n (tgO X B n k)
/-- what stands for the best so far -/
def tgV (X : Nat → Nat → Int × Int × Bool) (n : Int) (st : Option (Nat × Nat)) (x : Int32) (u d : Int64) : Prop := x = iI (cdO st) ∧ ∀ z, st = some z → ((z.1 : Int) < n ∧ (z.2 : Int) < n) ∧ ∃ g : Int, 0 < g ∧ u = lI ((X z.1 z.2).1 * g) ∧ d = lI ((X z.1 z.2).2.1 * g) ∧ (-4611686018427387904 < (X z.1 z.2).1 * g ∧ (X z.1 z.2).1 * g < 4611686018427387904) ∧ 0 < (X z.1 z.2).2.1 * g ∧ (X z.1 z.2).2.1 * g < 4611686018427387904
theorem tgV_0 {X : Nat → Nat → Int × Int × Bool} {n : Int} : tgV X n none (-1) 0 1 := ⟨rfl, fun z h => nomatch h⟩
theorem sgX {x y z w g k : Int} (hg : 0 < g) (hk : 0 < k) : 0 < (x * g) * (w * k) - (z * k) * (y * g) ↔ 0 < x * w - z * y := by
  have e : (x * g) * (w * k) - (z * k) * (y * g) = (x * w - z * y) * (g * k) := by grind
  rw [e]
  have hz := Int.mul_pos hg hk
  generalize x * w - z * y = X
  generalize g * k = Z at *
  refine ⟨fun h => ?_, fun h => Int.mul_pos h hz⟩
  rcases Int.lt_or_le 0 X with c | c
  · exact c
  · have := Int.mul_le_mul_of_nonneg_right c (Int.le_of_lt hz)
    rw [Int.zero_mul] at this
    omega
theorem cdO_lt {z : Nat × Nat} {n : Int} (h1 : (z.1 : Int) < n) (h2 : (z.2 : Int) < n) (hn : n ≤ 8) : 0 ≤ cdO (some z) ∧ cdO (some z) < 64 := by
  show (0 : Int) ≤ 8 * (z.1 : Int) + (z.2 : Int) ∧ 8 * (z.1 : Int) + (z.2 : Int) < 64
  omega
theorem tgV_new {X : Nat → Nat → Int × Int × Bool} {n g : Int} {a b : Nat} {x : Int32} {u d : Int64} (ha : (a : Int) < n) (hb : (b : Int) < n) (hx : x = 8 * iI (a : Int) + iI (b : Int)) (hg : 0 < g) (hu : u = lI ((X a b).1 * g)) (hd : d = lI ((X a b).2.1 * g)) (h1 : -4611686018427387904 < (X a b).1 * g ∧ (X a b).1 * g < 4611686018427387904) (h2 : 0 < (X a b).2.1 * g ∧ (X a b).2.1 * g < 4611686018427387904) : tgV X n (some (a, b)) x u d := by
  refine ⟨?_, fun z hz => ?_⟩
  · rw [hx, show (8 : Int32) = iI ((8 : Nat) : Int) from rfl, iI_pm, iI_pa]
    show _ = iI (8 * (a : Int) + (b : Int))
    congr 1
  · cases hz
    exact ⟨⟨ha, hb⟩, g, hg, hu, hd, h1, h2⟩
/-- the class's side -/
theorem C_together {W : Nat → Int32} {p q : Int} {n : Nat} {X : Nat → Nat → Int × Int × Bool} {M : Mem} (h : CW W M) (hp : p = (W 1).toInt) (hq : q = (W 2).toInt) (hn : (W 5).toInt = n) (hX : ∀ a b : Nat, (a : Int) < (W 5).toInt → (b : Int) < (W 5).toInt → tgX W a b p q (X a b)) : wpO (F_Pair_bestTogether M) (fun r => r.1 = iI (cdO (tgO X (barW W) n n))) := by
  have r5 := h.2.1.ways
  have n8 : n ≤ 8 := by omega
  have e5 : W 5 = iI (n : Int) := by rw [← hn, iI_of]
  have cpq : ∀ N : Mem, CW W N → (N.1 1 1).toInt64 = lI p ∧ (N.1 1 2).toInt64 = lI q ∧ 1 ≤ p ∧ p < q ∧ q ≤ 9 := fun N cw => by
    rw [hp, hq]
    exact cw.pq
  obtain ⟨-, -, p1, pq, q9⟩ := cpq M h
  unfold F_Pair_bestTogether F_Pair_bestTogether_l10
  refine wp_bind (Ψ := fun r => r.1 = iI (cdO (tgO X (barW W) n n))) ?_ (fun r hr => wp_some hr)
  refine wp_iterS (P := fun (k : Nat) (z : Int32 × Int64 × Int64 × Int32 × Mem) => tgV X n (tgO X (barW W) n k) z.1 z.2.1 z.2.2.1 ∧ z.2.2.2.1 = iI (k : Int) ∧ k ≤ n ∧ CW W z.2.2.2.2) n ?_ FUEL (-1, 0, 1, 0, M) ⟨tgV_0, rfl, by omega, h⟩ (FUEL_big (by omega))
  rintro a ⟨z1, z2, z3, z4, N⟩ hk ⟨v, e4, han, cw⟩
  dsimp only at v e4 cw
  subst e4
  unfold F_Pair_bestTogether_b10
  dsimp only
  rw [show N.1 1 6 = iI (n : Int) from cw.2.2.1.2.2.2.2.2.2.1.trans e5]
  refine wp_if (fun c => wp_some ?_) (fun c => ?_)
  · rw [iI_le (by omega) (by omega) (by omega) (by omega)] at c
    have : a = n := by omega
    subst this
    exact v.1
  rw [iI_le (by omega) (by omega) (by omega) (by omega)] at c
  refine wp_f (by rw [show (8 : Int32) = iI 8 from rfl, iI_le (by omega) (by omega) (by omega) (by omega)]; omega) ?_
  unfold F_Pair_bestTogether_l32
  refine wp_bind (Ψ := fun r => tgV X n (tgO X (barW W) n (a + 1)) r.1 r.2.1 r.2.2.1 ∧ CW W r.2.2.2) ?_ (fun r hr => wp_some ⟨by omega, hr.1, iI_succ a, by omega, hr.2⟩)
  refine wp_iterS (P := fun (k : Nat) (z : Int32 × Int64 × Int64 × Int32 × Mem) => tgV X n (tgI X (barW W) a k (tgO X (barW W) n a)) z.1 z.2.1 z.2.2.1 ∧ z.2.2.2.1 = iI (k : Int) ∧ k ≤ n ∧ CW W z.2.2.2.2) n ?_ FUEL (z1, z2, z3, 0, N) ⟨v, rfl, by omega, cw⟩ (FUEL_big (by omega))
  rintro b ⟨y1, y2, y3, y4, O⟩ hj ⟨v, e4, hbn, cw⟩
  dsimp only at v e4 cw
  subst e4
  have hstep : tgI X (barW W) a (b + 1) (tgO X (barW W) n a) = tgA X (barW W) a b (tgI X (barW W) a b (tgO X (barW W) n a)) := rfl
  unfold F_Pair_bestTogether_b32
  dsimp only
  rw [show O.1 1 6 = iI (n : Int) from cw.2.2.1.2.2.2.2.2.2.1.trans e5]
  refine wp_if (fun c2 => wp_some ?_) (fun c2 => ?_)
  · rw [iI_le (by omega) (by omega) (by omega) (by omega)] at c2
    have : b = n := by omega
    subst this
    exact ⟨v, cw⟩
  rw [iI_le (by omega) (by omega) (by omega) (by omega)] at c2
  refine wp_f (by rw [show (8 : Int32) = iI 8 from rfl, iI_le (by omega) (by omega) (by omega) (by omega)]; omega) ?_
  generalize tgI X (barW W) a b (tgO X (barW W) n a) = st at *
  have ha : (a : Int) < (W 5).toInt := by omega
  have hb : (b : Int) < (W 5).toInt := by omega
  have hAB := hX a b ha hb
  have no : ∀ O2, CW W O2 → tgA X (barW W) a b st = st → wpO (some (Sum.inl (y1, y2, y3, iI (b : Int) + 1, O2)) : Option ((Int32 × Int64 × Int64 × Int32 × Mem) ⊕ (Int32 × Int64 × Int64 × Mem))) (sumP (fun s' => b < n ∧ tgV X n (tgI X (barW W) a (b + 1) (tgO X (barW W) n a)) s'.1 s'.2.1 s'.2.2.1 ∧ s'.2.2.2.1 = iI ((b + 1 : Nat) : Int) ∧ b + 1 ≤ n ∧ CW W s'.2.2.2.2) (fun r => tgV X n (tgO X (barW W) n (a + 1)) r.1 r.2.1 r.2.2.1 ∧ CW W r.2.2.2)) := fun O2 h2 hc => by
    rw [hstep, hc]
    exact wp_some ⟨by omega, v, iI_succ b, by omega, h2⟩
  rw [C_isBarred cw ha, bs]
  refine wp_if (fun c3 => no O cw (tgA_bar (by rw [c3]; rfl))) (fun c3 => ?_)
  rw [C_isBarred cw hb, bs]
  refine wp_if (fun c4 => no O cw (tgA_bar (by rw [c4]; cases barW W a <;> rfl))) (fun c4 => ?_)
  have nbar : ¬ (barW W a || barW W b) = true := fun w => by
    rw [Bool.not_eq_true] at c3 c4
    rw [c3, c4] at w
    exact nomatch w
  obtain ⟨q1, q2, -, -, -⟩ := cpq O cw
  rw [q1, q2]
  refine wp_bind (C_look (p := p) (q := q) cw ha hb p1 pq (by omega)) (fun L hL => ?_)
  have kA := cw.wk ha
  have kB := cw.wk hb
  have mA := kA.moK
  have mB := kB.moK
  have hC := pairS cw.2.1 kA kB p1 pq (show q ≤ 12 by omega)
  have s0 : stW W a b 0 := ⟨by omega, by omega⟩
  obtain ⟨x1, x2, x3⟩ := hAB.2.1 L hL
  have fb := fgR_b (W := W) (a := a) (b := b) (p := p) (q := q) (U := uM 35 L) (D := dM 35 L) 18 0 (by omega)
  rw [C_firstGain ha hb p1 pq (by omega) hL, bs]
  generalize fgR W a b p q (uM 35 L) (dM 35 L) 18 0 = V at *
  rw [tm1]
  refine wp_if (fun c5 => ?_) (fun c5 => ?_)
  · rw [iI_eq (by omega) (by omega) (by omega) (by omega)] at c5
    have hold := x3.mp c5
    obtain ⟨d0, d9, l1, l2⟩ := hL.fbS hC s0
    obtain ⟨g0, g1, g2, -, -, -⟩ := rUD (a := uS L 0) d0
    rw [x1] at g1
    rw [x2] at g2
    have gb := gq_bound (G := 198) (X := dM 35 L 0) (by decide) (by decide) (show 0 ≤ q by omega) (show q ≤ 12 by omega) (by omega) (by omega)
    have ra : F_Row_at 41 18 0 L = some (L.2 41 0) := V_Row_at (i := 0) (by decide) (by decide) (by decide)
    have rb : F_Row_at 41 18 1 L = some (L.2 41 1) := V_Row_at (i := 1) (by decide) (by decide) (by decide)
    have rc : F_Row_at 43 9 0 L = some (L.2 43 0) := V_Row_at (i := 0) (by decide) (by decide) (by decide)
    have ea : L.2 41 0 = lI (uM 35 L 0 0) := (lI_of _).symm
    have eb : L.2 41 1 = lI (uM 35 L 0 1) := (lI_of _).symm
    have ec : L.2 43 0 = lI (dM 35 L 0) := (lI_of _).symm
    rw [ra, bs, rb, bs, rc, bs, ea, eb, ec, lI_add]
    have eS : uM 35 L 0 0 + uM 35 L 0 1 = uS L 0 := rfl
    rw [eS]
    have hu : -4611686018427387904 < (X a b).1 * (Int.gcd (uS L 0) (dM 35 L 0) : Int) ∧ (X a b).1 * (Int.gcd (uS L 0) (dM 35 L 0) : Int) < 4611686018427387904 := by
      rw [g1]
      omega
    have hd : 0 < (X a b).2.1 * (Int.gcd (uS L 0) (dM 35 L 0) : Int) ∧ (X a b).2.1 * (Int.gcd (uS L 0) (dM 35 L 0) : Int) < 4611686018427387904 := by
      rw [g2]
      omega
    have yes : tgA X (barW W) a b st = some (a, b) → wpO (F_Pair_bestTogether_j169 (iI (a : Int)) (iI (b : Int)) (lI (uS L 0)) (lI (dM 35 L 0)) L) (sumP (fun s' => b < n ∧ tgV X n (tgI X (barW W) a (b + 1) (tgO X (barW W) n a)) s'.1 s'.2.1 s'.2.2.1 ∧ s'.2.2.2.1 = iI ((b + 1 : Nat) : Int) ∧ b + 1 ≤ n ∧ CW W s'.2.2.2.2) (fun r => tgV X n (tgO X (barW W) n (a + 1)) r.1 r.2.1 r.2.2.1 ∧ CW W r.2.2.2)) := fun hc => by
      unfold F_Pair_bestTogether_j169
      rw [hstep, hc]
      exact wp_some ⟨by omega, tgV_new (by omega) (by omega) rfl g0 (by rw [g1]) (by rw [g2]) hu hd, iI_succ b, by omega, hL.1⟩
    obtain ⟨v1, v2⟩ := v
    cases st with
    | none =>
      rw [v1, show cdO none = -1 from rfl]
      exact wp_t rfl (yes (tgA_new nbar hold))
    | some z =>
      obtain ⟨⟨z1n, z2n⟩, g, gp, eu, ed, ⟨k1, k2⟩, k3, k4⟩ := v2 z rfl
      have cz := cdO_lt z1n z2n (by omega)
      rw [v1]
      refine wp_f (by rw [iI_eq (by omega) (by omega) (by omega) (by omega)]; omega) ?_
      rw [eu, ed, C_order (by omega) (by omega) d0 (by omega) k1 k2 k3 k4, bs]
      have es : 0 < uS L 0 * ((X z.1 z.2).2.1 * g) - (X z.1 z.2).1 * g * dM 35 L 0 ↔ 0 < (X a b).1 * (X z.1 z.2).2.1 - (X z.1 z.2).1 * (X a b).2.1 := by
        have := sgX (x := (X a b).1) (y := (X a b).2.1) (z := (X z.1 z.2).1) (w := (X z.1 z.2).2.1) g0 gp
        rw [g1, g2] at this
        exact this
      refine wp_if (fun c6 => ?_) (fun c6 => ?_)
      · have c7 := sgn_le.mp c6
        rw [← eu, ← ed, ← v1]
        refine no L hL.1 ?_
        rw [tgA_cmp nbar hold, if_neg (fun w => c7 (es.mpr w))]
      · have c7 := fun w => c6 (sgn_le.mpr w)
        refine yes ?_
        rw [tgA_cmp nbar hold, if_pos (es.mp (Decidable.not_not.mp c7))]
  · rw [iI_eq (by omega) (by omega) (by omega) (by omega)] at c5
    exact no L hL.1 (tgA_not (fun w => c5 (x3.mpr w)))
/-- the reference's side -/
theorem R_together {W : Nat → Int32} {p q : Int} {n : Nat} {X : Nat → Nat → Int × Int × Bool} {M N0 : Mem} (h : CW W M) (hN : N0.1 95 = W) (hp : p = (W 1).toInt) (hq : q = (W 2).toInt) (hn : (W 5).toInt = n) (hX : ∀ a b : Nat, (a : Int) < (W 5).toInt → (b : Int) < (W 5).toInt → tgX W a b p q (X a b)) : wpO (F_MO_together_l19 (-1) 0 1 0 (plM N0)) (fun r => r.1 = iI (cdO (tgO X (barW W) n n))) := by
  have hR := h.2.1
  have r5 := hR.ways
  have n8 : n ≤ 8 := by omega
  have e5 : W 5 = iI (n : Int) := by rw [← hn, iI_of]
  have nP : (plM N0).1 94 19 = iI p := by rw [plM_P, hN, hp]
  have nQ : (plM N0).1 94 20 = iI q := by rw [plM_Q, hN, hq]
  have n95 : (plM N0).1 95 = W := hN
  obtain ⟨q1, q2, q3⟩ := hR.pq
  rw [← hp] at q1
  rw [← hp, ← hq] at q2
  rw [← hq] at q3
  generalize plM N0 = N at *
  unfold F_MO_together_l19
  refine wp_bind (Ψ := fun r => r.1 = iI (cdO (tgO X (barW W) n n))) ?_ (fun r hr => wp_some hr)
  refine wp_iterS (P := fun (k : Nat) (z : Int32 × Int64 × Int64 × Int32 × Mem) => tgV X n (tgO X (barW W) n k) z.1 z.2.1 z.2.2.1 ∧ z.2.2.2.1 = iI (k : Int) ∧ k ≤ n ∧ z.2.2.2.2.1 95 = W ∧ z.2.2.2.2.1 94 19 = iI p ∧ z.2.2.2.2.1 94 20 = iI q) n ?_ FUEL (-1, 0, 1, 0, N) ⟨tgV_0, rfl, by omega, n95, nP, nQ⟩ (FUEL_big (by omega))
  rintro a ⟨z1, z2, z3, z4, N1⟩ hk ⟨v, e4, han, m1, m2, m3⟩
  dsimp only at v e4 m1 m2 m3
  subst e4
  unfold F_MO_together_b19
  dsimp only
  refine wp_t ib5 ?_
  simp only [tn5]
  rw [m1, e5]
  refine wp_if (fun c => wp_some ?_) (fun c => ?_)
  · rw [iI_le (by omega) (by omega) (by omega) (by omega)] at c
    have : a = n := by omega
    subst this
    exact v.1
  rw [iI_le (by omega) (by omega) (by omega) (by omega)] at c
  unfold F_MO_together_l33
  refine wp_bind (Ψ := fun r => tgV X n (tgO X (barW W) n (a + 1)) r.1 r.2.1 r.2.2.1 ∧ r.2.2.2.1 95 = W ∧ r.2.2.2.1 94 19 = iI p ∧ r.2.2.2.1 94 20 = iI q) ?_ (fun r hr => wp_some ⟨by omega, hr.1, iI_succ a, by omega, hr.2⟩)
  refine wp_iterS (P := fun (k : Nat) (z : Int32 × Int64 × Int64 × Int32 × Mem) => tgV X n (tgI X (barW W) a k (tgO X (barW W) n a)) z.1 z.2.1 z.2.2.1 ∧ z.2.2.2.1 = iI (k : Int) ∧ k ≤ n ∧ z.2.2.2.2.1 95 = W ∧ z.2.2.2.2.1 94 19 = iI p ∧ z.2.2.2.2.1 94 20 = iI q) n ?_ FUEL (z1, z2, z3, 0, N1) ⟨v, rfl, by omega, m1, m2, m3⟩ (FUEL_big (by omega))
  rintro b ⟨y1, y2, y3, y4, O⟩ hj ⟨v, e4, hbn, m1, m2, m3⟩
  dsimp only at v e4 m1 m2 m3
  subst e4
  have hstep : tgI X (barW W) a (b + 1) (tgO X (barW W) n a) = tgA X (barW W) a b (tgI X (barW W) a b (tgO X (barW W) n a)) := rfl
  unfold F_MO_together_b33
  dsimp only
  refine wp_t ib5 ?_
  simp only [tn5]
  rw [m1, e5]
  refine wp_if (fun c2 => wp_some ?_) (fun c2 => ?_)
  · rw [iI_le (by omega) (by omega) (by omega) (by omega)] at c2
    have : b = n := by omega
    subst this
    exact ⟨v, m1, m2, m3⟩
  rw [iI_le (by omega) (by omega) (by omega) (by omega)] at c2
  generalize tgI X (barW W) a b (tgO X (barW W) n a) = st at *
  have ha : (a : Int) < (W 5).toInt := by omega
  have hb : (b : Int) < (W 5).toInt := by omega
  obtain ⟨⟨w1, w2, w3, w4⟩, hL, hB⟩ := hX a b ha hb
  have no : ∀ O2 : Mem, (O2.1 95 = W ∧ O2.1 94 19 = iI p ∧ O2.1 94 20 = iI q) → tgA X (barW W) a b st = st → wpO (some (Sum.inl (y1, y2, y3, iI (b : Int) + 1, O2)) : Option ((Int32 × Int64 × Int64 × Int32 × Mem) ⊕ (Int32 × Int64 × Int64 × Mem))) (sumP (fun s' => b < n ∧ tgV X n (tgI X (barW W) a (b + 1) (tgO X (barW W) n a)) s'.1 s'.2.1 s'.2.2.1 ∧ s'.2.2.2.1 = iI ((b + 1 : Nat) : Int) ∧ b + 1 ≤ n ∧ s'.2.2.2.2.1 95 = W ∧ s'.2.2.2.2.1 94 19 = iI p ∧ s'.2.2.2.2.1 94 20 = iI q) (fun r => tgV X n (tgO X (barW W) n (a + 1)) r.1 r.2.1 r.2.2.1 ∧ r.2.2.2.1 95 = W ∧ r.2.2.2.1 94 19 = iI p ∧ r.2.2.2.1 94 20 = iI q)) := fun O2 h2 hc => by
    rw [hstep, hc]
    exact wp_some ⟨by omega, v, iI_succ b, by omega, h2⟩
  rw [R_areB m1 hR ha hb, bs]
  refine wp_if (fun c3 => no O ⟨m1, m2, m3⟩ (tgA_bar c3)) (fun nbar => ?_)
  obtain ⟨L, -, hPL⟩ := C_look (p := p) (q := q) h ha hb q1 q2 q3
  obtain ⟨-, -, x3⟩ := hL L hPL
  refine wp_bind (R_first hR m1 ha hb m2 m3 q1 q2 q3 hPL) (fun r3 h3 => ?_)
  obtain ⟨s1, s2⟩ := h3
  have t1 : r3.2.1 95 = W := s2.w95.trans m1
  have t2 : r3.2.1 94 19 = iI p := (s2.1 94 19 (by decide)).trans m2
  have t3 : r3.2.1 94 20 = iI q := (s2.1 94 20 (by decide)).trans m3
  have fb := fgR_b (W := W) (a := a) (b := b) (p := p) (q := q) (U := uM 35 L) (D := dM 35 L) 18 0 (by omega)
  rw [s1]
  generalize fgR W a b p q (uM 35 L) (dM 35 L) 18 0 = V at *
  rw [show (0 : Int32) = iI 0 from rfl]
  refine wp_if (fun c5 => ?_) (fun c5 => ?_)
  · rw [iI_lt (by omega) (by omega) (by omega) (by omega)] at c5
    have hold := x3.mp (by omega)
    refine wp_bind (wp_q (N_bothWorth (M := r3.2) (P := p) (q := q) (hR.w8 ha) (hR.w8 hb) (by rw [t1]; exact hR.way a ha) (by rw [t1]; exact hR.way b hb) (by rw [t1]; exact hR.br) t2 t3 q1 q2 q3) (Q_MO_bothWorth _ _ _)) (fun r4 h4 => ?_)
    obtain ⟨b4, f4⟩ := h4
    rw [t1] at b4
    obtain ⟨x1, x2⟩ := hB r4 b4
    have v1 : r4.1 95 = W := (funext fun i => (f4 95 i (by omega)).1).trans t1
    have v2 : r4.1 94 19 = iI p := ((f4 94 19 (by omega)).1).trans t2
    have v3 : r4.1 94 20 = iI q := ((f4 94 20 (by omega)).1).trans t3
    have yes : tgA X (barW W) a b st = some (a, b) → wpO (F_MO_together_j101 (iI (a : Int)) (iI (b : Int)) r4) (sumP (fun s' => b < n ∧ tgV X n (tgI X (barW W) a (b + 1) (tgO X (barW W) n a)) s'.1 s'.2.1 s'.2.2.1 ∧ s'.2.2.2.1 = iI ((b + 1 : Nat) : Int) ∧ b + 1 ≤ n ∧ s'.2.2.2.2.1 95 = W ∧ s'.2.2.2.2.1 94 19 = iI p ∧ s'.2.2.2.2.1 94 20 = iI q) (fun r => tgV X n (tgO X (barW W) n (a + 1)) r.1 r.2.1 r.2.2.1 ∧ r.2.2.2.1 95 = W ∧ r.2.2.2.1 94 19 = iI p ∧ r.2.2.2.1 94 20 = iI q)) := fun hc => by
      unfold F_MO_together_j101
      rw [hstep, hc]
      exact wp_some ⟨by omega, tgV_new (g := 1) (by omega) (by omega) rfl (by decide) (by rw [Int.mul_one]; exact x1) (by rw [Int.mul_one]; exact x2) (by rw [Int.mul_one]; omega) (by rw [Int.mul_one]; omega), iI_succ b, by omega, v1, v2, v3⟩
    obtain ⟨u1, u2⟩ := v
    cases st with
    | none =>
      rw [u1, show cdO none = -1 from rfl]
      exact wp_t (by decide) (yes (tgA_new nbar hold))
    | some z =>
      obtain ⟨⟨z1n, z2n⟩, g, gp, eu, ed, ⟨k1, k2⟩, k3, k4⟩ := u2 z rfl
      have cz := cdO_lt z1n z2n (by omega)
      rw [u1]
      refine wp_f (by rw [iI_lt (by omega) (by omega) (by omega) (by omega)]; omega) ?_
      rw [x1, x2, eu, ed, N_compared w2 w3 w1 w4 k1 k2 k3 k4, bs]
      have es : 0 < (X a b).1 * ((X z.1 z.2).2.1 * g) - (X z.1 z.2).1 * g * (X a b).2.1 ↔ 0 < (X a b).1 * (X z.1 z.2).2.1 - (X z.1 z.2).1 * (X a b).2.1 := by
        have := sgX (x := (X a b).1) (y := (X a b).2.1) (z := (X z.1 z.2).1) (w := (X z.1 z.2).2.1) (g := 1) (by decide) gp
        rw [Int.mul_one, Int.mul_one] at this
        exact this
      refine wp_if (fun c6 => ?_) (fun c6 => ?_)
      · refine yes ?_
        have c7 : 0 < (X a b).1 * ((X z.1 z.2).2.1 * g) - (X z.1 z.2).1 * g * (X a b).2.1 := Decidable.not_not.mp (fun w => by
          have c8 := sgn_le.mpr w
          rw [le_i] at c8
          rw [lt_i] at c6
          have i0 : (iI 0).toInt = (0 : Int32).toInt := rfl
          omega)
        rw [tgA_cmp nbar hold, if_pos (es.mp c7)]
      · rw [← eu, ← ed, ← u1]
        refine no r4 ⟨v1, v2, v3⟩ ?_
        rw [tgA_cmp nbar hold, if_neg (fun w => c6 ?_)]
        rw [sgn_of.1 (es.mpr w)]
        decide
  · rw [iI_lt (by omega) (by omega) (by omega) (by omega)] at c5
    exact no _ ⟨t1, t2, t3⟩ (tgA_not (fun w => by have := x3.mpr w; omega))
theorem V_together {M : Mem} (h : RY M) : wpO (F_KW_together M) (fun r1 => wpO (F_MO_together r1.2) (fun r2 => RY r2.2 ∧ r1.1 = r2.1)) := by
  refine wp2 (B := fun r1 r2 => r1.1 = r2.1) (Y_together h) (fun r1 r2 e1 e2 => ?_) (fun r s p q => ⟨p, q⟩)
  have f1 := wpO_of (T_KW_together M) e1
  have cw := h.cw
  have e95 : r1.2.1 95 = M.1 95 := funext (f1 95 (by omega)).1
  have hN : (mSI r1.2 94 0 0).1 95 = M.1 95 := e95
  obtain ⟨n, hn⟩ : ∃ n : Nat, (M.1 95 5).toInt = n := ⟨(M.1 95 5).toInt.toNat, by have := cw.2.1.ways; omega⟩
  obtain ⟨-, -, p1, pq, q9⟩ := cw.pq
  obtain ⟨X, hX⟩ := tgX_all cw p1 pq (by omega)
  obtain ⟨r, er, er1⟩ := C_together cw rfl rfl hn hX
  obtain ⟨u, eu, eu1⟩ := R_together (N0 := mSI r1.2 94 0 0) cw hN rfl rfl hn hX
  unfold F_KW_together at e1
  unfold F_MO_together at e2
  rw [er, bs] at e1
  rw [N_plain, bs, eu] at e2
  cases e1
  cases e2
  exact er1.trans eu1.symm
