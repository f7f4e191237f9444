/-! ===== edge: the least tomorrow at which two ways hold ===== -/
theorem PRS.rat {W : Nat → Int32} {a b s pe : Nat} {p q : Int} {M M' : Mem} (hA : WOKW W a) (hB : WOKW W b) (p1 : 1 ≤ p) (pq : p < q) (h : PRS W a b p q M) (h' : PRS W a b p q M') (hs : stW W a b s) (hp : pe < 2) : rU (uM 35 M s pe) (dM 35 M s) = rU (uM 35 M' s pe) (dM 35 M' s) ∧ rD (uM 35 M s pe) (dM 35 M s) = rD (uM 35 M' s pe) (dM 35 M' s) := by
  obtain ⟨-, -, -, ⟨t, n, ⟨n1, nr, -⟩, -⟩, -, -⟩ := h.2.2.2 s hs
  have hit : ∀ k, stW W a b (itN (nxW W a b) s k) := fun k => by
    rw [← pth_it]
    exact pth_st hA hB hs k
  have e1 := (h.eqn hA hB hp).val (s := s) p1 pq hit (show t < t + n by omega) nr
  have e2 := (h'.eqn hA hB hp).val (s := s) p1 pq hit (show t < t + n by omega) nr
  have e := e1.symm.trans e2
  exact ⟨congrArg Prod.fst e, congrArg Prod.snd e⟩
theorem PRS.gain {W : Nat → Int32} {a b s pe e : Nat} {p q : Int} {M M' : Mem} (hA : WOKW W a) (hB : WOKW W b) (p1 : 1 ≤ p) (pq : p < q) (h : PRS W a b p q M) (h' : PRS W a b p q M') (hs : stW W a b s) (hp : pe < 2) (he : e < 3) : 0 < gX W a b p q (uM 35 M) (dM 35 M) s pe e ↔ 0 < gX W a b p q (uM 35 M') (dM 35 M') s pe e := by
  have ts := (toA_st (pe := pe) hA hB hs he).1
  have r1 := PRS.rat hA hB p1 pq h h' hs hp
  have r2 := PRS.rat hA hB p1 pq h h' ts hp
  unfold gX
  rw [← sgn_red (h.2.2.2 _ ts).2.2.2.2.1 (h.2.2.2 _ hs).2.2.2.2.1, ← sgn_red (h'.2.2.2 _ ts).2.2.2.2.1 (h'.2.2.2 _ hs).2.2.2.2.1, r1.1, r1.2, r2.1, r2.2]
theorem fgR_cg {W : Nat → Int32} {a b : Nat} {p q : Int} {U U' : Nat → Nat → Int} {D D' : Nat → Int} (hW : (W 0).toInt ≤ 3) (h : ∀ s pe e, stW W a b s → pe < 2 → e < 3 → (0 < gX W a b p q U D s pe e ↔ 0 < gX W a b p q U' D' s pe e)) : ∀ f i, fgR W a b p q U D f i = fgR W a b p q U' D' f i := by
  have g : ∀ s pe, stW W a b s → pe < 2 → gnB W a b p q U D s pe = gnB W a b p q U' D' s pe := fun s pe hs hp => by
    by_cases c : ∃ e, e < (W 0).toInt.toNat ∧ 0 < gX W a b p q U D s pe e
    · obtain ⟨e, e1, e2⟩ := c
      rw [gnB_t e1 e2, gnB_t e1 ((h s pe e hs hp (by omega)).mp e2)]
    · rw [gnB_f (fun e he w => c ⟨e, he, w⟩), gnB_f (fun e he w => c ⟨e, he, (h s pe e hs hp (by omega)).mpr w⟩)]
  intro f
  induction f with
  | zero => exact fun _ => rfl
  | succ f ih =>
    intro i
    rw [fgR_s, fgR_s, ih]
    by_cases c : i / 2 / 3 < mo W a ∧ i / 2 % 3 < mo W b
    · rw [g (i / 2) (i % 2) c (Nat.mod_lt _ (by decide))]
    · rw [if_neg (fun w => c ⟨w.1, w.2.1⟩), if_neg (fun w => c ⟨w.1, w.2.1⟩)]
/-- whether two ways hold is a matter of the world alone -/
def holdsH (W : Nat → Int32) (a b : Nat) (H : Nat → Nat → Bool) : Prop := ∀ p q : Nat, 1 ≤ p → p < q → q ≤ 12 → ∀ M, PRS W a b (p : Int) (q : Int) M → (fgR W a b (p : Int) (q : Int) (uM 35 M) (dM 35 M) 18 0 = -1 ↔ H p q = true)
theorem holdsH_ex {W : Nat → Int32} {a b : Nat} (hW : (W 0).toInt ≤ 3) (hA : WOKW W a) (hB : WOKW W b) : ∃ H, holdsH W a b H := by
  refine ⟨fun p q => @decide (∃ M, PRS W a b (p : Int) (q : Int) M ∧ fgR W a b (p : Int) (q : Int) (uM 35 M) (dM 35 M) 18 0 = -1) (Classical.propDecidable _), fun p q p1 pq q12 M hM => ⟨fun w => ?_, fun w => ?_⟩⟩
  · exact @decide_eq_true _ (Classical.propDecidable _) ⟨M, hM, w⟩
  · obtain ⟨M', h1, h2⟩ := @of_decide_eq_true _ (Classical.propDecidable _) w
    rw [← h2]
    exact fgR_cg hW (fun s pe e hs hp he => PRS.gain hA hB (by omega) (by omega) hM h1 hs hp he) 18 0
def edI (H : Nat → Nat → Bool) (q : Nat) : Nat → Nat × Nat → Nat × Nat
  | 0, st => st
  | k + 1, st => if (k + 1) * (edI H q k st).2 < (edI H q k st).1 * q ∧ Nat.gcd (k + 1) q = 1 ∧ H (k + 1) q = true then (k + 1, q) else edI H q k st
theorem edI_s {H : Nat → Nat → Bool} {q k : Nat} {st : Nat × Nat} : edI H q (k + 1) st = if (k + 1) * (edI H q k st).2 < (edI H q k st).1 * q ∧ Nat.gcd (k + 1) q = 1 ∧ H (k + 1) q = true then (k + 1, q) else edI H q k st := rfl
def edO (H : Nat → Nat → Bool) : Nat → Nat × Nat
  | 0 => (1, 1)
  | k + 1 => edI H (k + 2) (k + 1) (edO H k)
theorem edI_b {H : Nat → Nat → Bool} {q : Nat} {st : Nat × Nat} (hq : q ≤ 12) (h1 : st.1 ≤ 12) (h2 : st.2 ≤ 12) : ∀ k, k ≤ 12 → (edI H q k st).1 ≤ 12 ∧ (edI H q k st).2 ≤ 12 := by
  intro k
  induction k with
  | zero => exact fun _ => ⟨h1, h2⟩
  | succ k ih =>
    intro hk
    rw [edI_s]
    by_cases c : (k + 1) * (edI H q k st).2 < (edI H q k st).1 * q ∧ Nat.gcd (k + 1) q = 1 ∧ H (k + 1) q = true
    · rw [if_pos c]
      exact ⟨hk, hq⟩
    · rw [if_neg c]
      exact ih (by omega)
theorem edO_b {H : Nat → Nat → Bool} : ∀ k, k ≤ 11 → (edO H k).1 ≤ 12 ∧ (edO H k).2 ≤ 12 := by
  intro k
  induction k with
  | zero =>
    intro _
    show (1 : Nat) ≤ 12 ∧ (1 : Nat) ≤ 12
    decide
  | succ k ih =>
    intro hk
    have := ih (by omega)
    exact edI_b (by omega) this.1 this.2 (k + 1) (by omega)
def edV (H : Nat → Nat → Bool) (x : Nat) : Int := if (edO H (x - 1)).2 = 1 then -1 else ((100 * (edO H (x - 1)).1 + (edO H (x - 1)).2 : Nat) : Int)
theorem gcd12 {p q : Nat} (h1 : 1 ≤ p) (h2 : p ≤ 12) : 1 ≤ Nat.gcd p q ∧ Nat.gcd p q ≤ 12 := ⟨Nat.gcd_pos_of_pos_left _ h1, Nat.le_trans (Nat.gcd_le_left _ h1) h2⟩
theorem pmB {x y : Nat} (h1 : x ≤ 12) (h2 : y ≤ 12) : x * y ≤ 144 := Nat.mul_le_mul h1 h2
theorem edV_i {x : Nat} {H : Nat → Nat → Bool} (hx : 2 ≤ x ∧ x ≤ 12) : (if iI ((edO H (x - 1)).2 : Int) = 1 then (-1 : Int32) else 100 * iI ((edO H (x - 1)).1 : Int) + iI ((edO H (x - 1)).2 : Int)) = iI (edV H x) := by
  have hb := edO_b (H := H) (x - 1) (by omega)
  unfold edV
  by_cases c : (edO H (x - 1)).2 = 1
  · rw [if_pos c, c]
    rfl
  · rw [if_neg c, if_neg (fun w => c (by
      rw [show (1 : Int32) = iI 1 from rfl, iI_eq (by omega) (by omega) (by omega) (by omega)] at w
      omega)), show (100 : Int32) = iI ((100 : Nat) : Int) from rfl, iI_pm, iI_pa]
theorem C_edge {W : Nat → Int32} {a b x : Nat} {H : Nat → Nat → Bool} {M : Mem} (h : CW W M) (ha : (a : Int) < (W 5).toInt) (hb : (b : Int) < (W 5).toInt) (hx : 2 ≤ x ∧ x ≤ 12) (hH : holdsH W a b H) : wpO (F_Pair_leastToHold (iI (a : Int)) (iI (b : Int)) (iI (x : Int)) M) (fun r => r.1 = iI (edV H x)) := by
  unfold F_Pair_leastToHold F_Pair_leastToHold_l9
  refine wp_bind (Ψ := fun r => r.1 = iI ((edO H (x - 1)).1 : Int) ∧ r.2.1 = iI ((edO H (x - 1)).2 : Int)) ?_ (fun r hr => ?_)
  · refine wp_iterS (P := fun (k : Nat) (z : Int32 × Int32 × Int32 × Mem) => z.1 = iI ((edO H k).1 : Int) ∧ z.2.1 = iI ((edO H k).2 : Int) ∧ z.2.2.1 = iI ((k + 2 : Nat) : Int) ∧ k ≤ x - 1 ∧ CW W z.2.2.2) (x - 1) ?_ FUEL (1, 1, 2, M) ⟨rfl, rfl, rfl, by omega, h⟩ (FUEL_big (by omega))
    rintro k ⟨z1, z2, z3, N⟩ hk ⟨e1, e2, e3, hkx, cw⟩
    dsimp only at e1 e2 e3 cw
    subst e1
    subst e2
    subst e3
    unfold F_Pair_leastToHold_b9
    dsimp only
    refine wp_if (fun c => wp_some ?_) (fun c => ?_)
    · rw [iI_lt (by omega) (by omega) (by omega) (by omega)] at c
      rw [show x - 1 = k by omega]
      exact ⟨rfl, rfl⟩
    rw [iI_lt (by omega) (by omega) (by omega) (by omega)] at c
    have ob := edO_b (H := H) k (by omega)
    unfold F_Pair_leastToHold_l18
    refine wp_bind (Ψ := fun r => r.1 = iI ((edO H (k + 1)).1 : Int) ∧ r.2.1 = iI ((edO H (k + 1)).2 : Int) ∧ CW W r.2.2) ?_ (fun r hr => wp_some ⟨by omega, hr.1, hr.2.1, iI_succ (k + 2), by omega, hr.2.2⟩)
    refine wp_iterS (P := fun (j : Nat) (z : Int32 × Int32 × Int32 × Mem) => z.1 = iI ((edI H (k + 2) j (edO H k)).1 : Int) ∧ z.2.1 = iI ((edI H (k + 2) j (edO H k)).2 : Int) ∧ z.2.2.1 = iI ((j + 1 : Nat) : Int) ∧ j ≤ k + 1 ∧ CW W z.2.2.2) (k + 1) ?_ FUEL (iI ((edO H k).1 : Int), iI ((edO H k).2 : Int), 1, N) ⟨rfl, rfl, rfl, by omega, cw⟩ (FUEL_big (by omega))
    rintro j ⟨y1, y2, y3, O⟩ hj ⟨e1, e2, e3, hjk, cwO⟩
    dsimp only at e1 e2 e3 cwO
    subst e1
    subst e2
    subst e3
    unfold F_Pair_leastToHold_b18
    dsimp only
    refine wp_if (fun c2 => wp_some ?_) (fun c2 => ?_)
    · rw [iI_le (by omega) (by omega) (by omega) (by omega)] at c2
      have : j = k + 1 := by omega
      subst this
      exact ⟨rfl, rfl, cwO⟩
    rw [iI_le (by omega) (by omega) (by omega) (by omega)] at c2
    have ib := edI_b (H := H) (q := k + 2) (st := edO H k) (by omega) ob.1 ob.2 j (by omega)
    have hstep := edI_s (H := H) (q := k + 2) (k := j) (st := edO H k)
    generalize edI H (k + 2) j (edO H k) = st at *
    have m1 := pmB ib.1 (show k + 2 ≤ 12 by omega)
    have m2 := pmB (show j + 1 ≤ 12 by omega) ib.2
    have no : ∀ O2, CW W O2 → ¬ ((j + 1) * st.2 < st.1 * (k + 2) ∧ Nat.gcd (j + 1) (k + 2) = 1 ∧ H (j + 1) (k + 2) = true) → wpO (some (Sum.inl (iI (st.1 : Int), iI (st.2 : Int), iI ((j + 1 : Nat) : Int) + 1, O2)) : Option ((Int32 × Int32 × Int32 × Mem) ⊕ (Int32 × Int32 × Mem))) (sumP (fun s' => j < k + 1 ∧ s'.1 = iI ((edI H (k + 2) (j + 1) (edO H k)).1 : Int) ∧ s'.2.1 = iI ((edI H (k + 2) (j + 1) (edO H k)).2 : Int) ∧ s'.2.2.1 = iI ((j + 1 + 1 : Nat) : Int) ∧ j + 1 ≤ k + 1 ∧ CW W s'.2.2.2) (fun r => r.1 = iI ((edO H (k + 1)).1 : Int) ∧ r.2.1 = iI ((edO H (k + 1)).2 : Int) ∧ CW W r.2.2)) := fun O2 h2 hc => by
      rw [hstep, if_neg hc]
      exact wp_some ⟨by omega, rfl, rfl, iI_succ (j + 1), by omega, h2⟩
    rw [iI_pm, iI_pm]
    refine wp_if (fun c3 => no O cwO (fun w => ?_)) (fun c3 => ?_)
    · rw [iI_le (by omega) (by omega) (by omega) (by omega)] at c3
      omega
    rw [iI_le (by omega) (by omega) (by omega) (by omega)] at c3
    rw [l64n _ (by omega), l64n _ (by omega), C_common (by omega) (by omega) (by omega) (by omega), bs]
    have hg := gcd12 (p := j + 1) (q := k + 2) (by omega) (by omega)
    have eg : (Int.gcd ((j + 1 : Nat) : Int) ((k + 2 : Nat) : Int) : Int) = ((Nat.gcd (j + 1) (k + 2) : Nat) : Int) := rfl
    rw [eg, show (1 : Int64) = lI 1 from rfl]
    refine wp_if (fun c4 => ?_) (fun c4 => no O cwO (fun w => c4 (by rw [w.2.1]; rfl)))
    rw [lI_eq (by omega) (by omega) (by omega) (by omega)] at c4
    refine wp_bind (C_look (p := ((j + 1 : Nat) : Int)) (q := ((k + 2 : Nat) : Int)) cwO ha hb (by omega) (by omega) (by omega)) (fun L hL => ?_)
    rw [C_firstGain ha hb (by omega) (by omega) (by omega) hL, bs]
    have hh := hH (j + 1) (k + 2) (by omega) (by omega) (by omega) L hL
    have fb := fgR_b (W := W) (a := a) (b := b) (p := ((j + 1 : Nat) : Int)) (q := ((k + 2 : Nat) : Int)) (U := uM 35 L) (D := dM 35 L) 18 0 (by omega)
    generalize fgR W a b ((j + 1 : Nat) : Int) ((k + 2 : Nat) : Int) (uM 35 L) (dM 35 L) 18 0 = V at *
    rw [tm1]
    refine wp_if (fun c5 => ?_) (fun c5 => ?_)
    · rw [iI_eq (by omega) (by omega) (by omega) (by omega)] at c5
      show wpO (some (Sum.inl (iI ((j + 1 : Nat) : Int), iI ((k + 2 : Nat) : Int), iI ((j + 1 : Nat) : Int) + 1, L)) : Option ((Int32 × Int32 × Int32 × Mem) ⊕ (Int32 × Int32 × Mem))) _
      rw [hstep, if_pos ⟨by omega, by omega, hh.mp c5⟩]
      exact wp_some ⟨by omega, rfl, rfl, iI_succ (j + 1), by omega, hL.1⟩
    · rw [iI_eq (by omega) (by omega) (by omega) (by omega)] at c5
      exact no L hL.1 (fun w => c5 (hh.mpr w.2.2))
  · obtain ⟨e1, e2⟩ := hr
    obtain ⟨r1, r2, N⟩ := r
    dsimp only at e1 e2
    subst e1
    subst e2
    have e := edV_i (H := H) hx
    unfold F_Pair_leastToHold_j119
    refine wp_if (fun c => wp_some ?_) (fun c => wp_some ?_)
    · rw [if_pos c] at e
      exact e
    · rw [if_neg c] at e
      exact e
theorem R_first {W : Nat → Int32} {a b : Nat} {p q : Int} {N L : Mem} (hR : RIW W) (hN : N.1 95 = W) (ha : (a : Int) < (W 5).toInt) (hb : (b : Int) < (W 5).toInt) (hP : N.1 94 19 = iI p) (hQ : N.1 94 20 = iI q) (p1 : 1 ≤ p) (pq : p < q) (q12 : q ≤ 12) (hL : PRS W a b p q L) : wpO (F_MO_firstOf (iI (a : Int)) (iI (b : Int)) N) (fun r => r.1 = iI (fgR W a b p q (uM 35 L) (dM 35 L) 18 0) ∧ frW N r.2) := by
  subst hN
  unfold F_MO_firstOf
  refine wp_bind (N_worths (hR.w8 ha) (hR.w8 hb) (hR.way a ha) (hR.way b hb) hR.br hP hQ p1 pq q12) (fun Q hQ2 => ?_)
  obtain ⟨f1, f2⟩ := hQ2
  have e95 := f1.w95
  have hA := hR.way a ha
  have hB := hR.way b hb
  have hP2 := (f1.1 94 19 (by decide)).trans hP
  have hQ3 := (f1.1 94 20 (by decide)).trans hQ
  rw [← e95] at hR ha hb f2 hL hA hB ⊢
  rw [R_firstL hR ha hb hP2 hQ3 p1 pq q12 hL (fun t pe hp ht => hL.same hA hB p1 pq ht hp (f2 t pe ht hp))]
  exact wp_some ⟨rfl, f1⟩
theorem R_edge {W : Nat → Int32} {a b x : Nat} {H : Nat → Nat → Bool} {M N : Mem} (h : CW W M) (hN : N.1 95 = W) (ha : (a : Int) < (W 5).toInt) (hb : (b : Int) < (W 5).toInt) (hx : 2 ≤ x ∧ x ≤ 12) (hH : holdsH W a b H) : wpO (F_MO_edge_l82 (iI (a : Int)) (iI (b : Int)) (iI (x : Int)) 1 1 2 N) (fun r => r.1 = iI (edV H x) ∧ r.2.1 94 0 = N.1 94 0) := by
  unfold F_MO_edge_l82
  refine wp_bind (Ψ := fun r => r.1 = iI ((edO H (x - 1)).1 : Int) ∧ r.2.1 = iI ((edO H (x - 1)).2 : Int) ∧ r.2.2.1 94 0 = N.1 94 0) ?_ (fun r hr => ?_)
  · refine wp_iterS (P := fun (k : Nat) (z : Int32 × Int32 × Int32 × Mem) => z.1 = iI ((edO H k).1 : Int) ∧ z.2.1 = iI ((edO H k).2 : Int) ∧ z.2.2.1 = iI ((k + 2 : Nat) : Int) ∧ k ≤ x - 1 ∧ z.2.2.2.1 95 = W ∧ z.2.2.2.1 94 0 = N.1 94 0) (x - 1) ?_ FUEL (1, 1, 2, N) ⟨rfl, rfl, rfl, by omega, hN, rfl⟩ (FUEL_big (by omega))
    rintro k ⟨z1, z2, z3, N1⟩ hk ⟨e1, e2, e3, hkx, w1, w2⟩
    dsimp only at e1 e2 e3 w1 w2
    subst e1
    subst e2
    subst e3
    unfold F_MO_edge_b82
    dsimp only
    refine wp_if (fun c => wp_some ?_) (fun c => ?_)
    · rw [iI_lt (by omega) (by omega) (by omega) (by omega)] at c
      rw [show x - 1 = k by omega]
      exact ⟨rfl, rfl, w2⟩
    rw [iI_lt (by omega) (by omega) (by omega) (by omega)] at c
    have ob := edO_b (H := H) k (by omega)
    unfold F_MO_edge_l91
    refine wp_bind (Ψ := fun r => r.1 = iI ((edO H (k + 1)).1 : Int) ∧ r.2.1 = iI ((edO H (k + 1)).2 : Int) ∧ r.2.2.1 95 = W ∧ r.2.2.1 94 0 = N.1 94 0) ?_ (fun r hr => wp_some ⟨by omega, hr.1, hr.2.1, iI_succ (k + 2), by omega, hr.2.2⟩)
    refine wp_iterS (P := fun (j : Nat) (z : Int32 × Int32 × Int32 × Mem) => z.1 = iI ((edI H (k + 2) j (edO H k)).1 : Int) ∧ z.2.1 = iI ((edI H (k + 2) j (edO H k)).2 : Int) ∧ z.2.2.1 = iI ((j + 1 : Nat) : Int) ∧ j ≤ k + 1 ∧ z.2.2.2.1 95 = W ∧ z.2.2.2.1 94 0 = N.1 94 0) (k + 1) ?_ FUEL (iI ((edO H k).1 : Int), iI ((edO H k).2 : Int), 1, N1) ⟨rfl, rfl, rfl, by omega, w1, w2⟩ (FUEL_big (by omega))
    rintro j ⟨y1, y2, y3, O⟩ hj ⟨e1, e2, e3, hjk, o1, o2⟩
    dsimp only at e1 e2 e3 o1 o2
    subst e1
    subst e2
    subst e3
    unfold F_MO_edge_b91
    dsimp only
    refine wp_if (fun c2 => wp_some ?_) (fun c2 => ?_)
    · rw [iI_le (by omega) (by omega) (by omega) (by omega)] at c2
      have : j = k + 1 := by omega
      subst this
      exact ⟨rfl, rfl, o1, o2⟩
    rw [iI_le (by omega) (by omega) (by omega) (by omega)] at c2
    have ib := edI_b (H := H) (q := k + 2) (st := edO H k) (by omega) ob.1 ob.2 j (by omega)
    have hstep := edI_s (H := H) (q := k + 2) (k := j) (st := edO H k)
    generalize edI H (k + 2) j (edO H k) = st at *
    have m1 := pmB ib.1 (show k + 2 ≤ 12 by omega)
    have m2 := pmB (show j + 1 ≤ 12 by omega) ib.2
    have no : ∀ O2 : Mem, O2.1 95 = W ∧ O2.1 94 0 = N.1 94 0 → ¬ ((j + 1) * st.2 < st.1 * (k + 2) ∧ Nat.gcd (j + 1) (k + 2) = 1 ∧ H (j + 1) (k + 2) = true) → wpO (some (Sum.inl (iI (st.1 : Int), iI (st.2 : Int), iI ((j + 1 : Nat) : Int) + 1, O2)) : Option ((Int32 × Int32 × Int32 × Mem) ⊕ (Int32 × Int32 × Mem))) (sumP (fun s' => j < k + 1 ∧ s'.1 = iI ((edI H (k + 2) (j + 1) (edO H k)).1 : Int) ∧ s'.2.1 = iI ((edI H (k + 2) (j + 1) (edO H k)).2 : Int) ∧ s'.2.2.1 = iI ((j + 1 + 1 : Nat) : Int) ∧ j + 1 ≤ k + 1 ∧ s'.2.2.2.1 95 = W ∧ s'.2.2.2.1 94 0 = N.1 94 0) (fun r => r.1 = iI ((edO H (k + 1)).1 : Int) ∧ r.2.1 = iI ((edO H (k + 1)).2 : Int) ∧ r.2.2.1 95 = W ∧ r.2.2.1 94 0 = N.1 94 0)) := fun O2 h2 hc => by
      rw [hstep, if_neg hc]
      exact wp_some ⟨by omega, rfl, rfl, iI_succ (j + 1), by omega, h2⟩
    have hg := gcd12 (p := j + 1) (q := k + 2) (by omega) (by omega)
    have eg : (Int.gcd ((j + 1 : Nat) : Int) ((k + 2 : Nat) : Int) : Int) = ((Nat.gcd (j + 1) (k + 2) : Nat) : Int) := rfl
    rw [l64n _ (by omega), l64n _ (by omega), N_common (by omega) (by omega) (by omega) (by omega), bs, eg, show (1 : Int64) = lI 1 from rfl]
    refine wp_if (fun c4 => no O ⟨o1, o2⟩ (fun w => ?_)) (fun c4 => ?_)
    · rw [lI_lt (by omega) (by omega) (by omega) (by omega)] at c4
      omega
    rw [lI_lt (by omega) (by omega) (by omega) (by omega)] at c4
    rw [iI_pm, iI_pm]
    refine wp_if (fun c3 => ?_) (fun c3 => no O ⟨o1, o2⟩ (fun w => c3 ?_))
    · rw [iI_lt (by omega) (by omega) (by omega) (by omega)] at c3
      obtain ⟨L, -, hL⟩ := C_look (p := ((j + 1 : Nat) : Int)) (q := ((k + 2 : Nat) : Int)) h ha hb (by omega) (by omega) (by omega)
      refine wp_bind (R_first (N := mSI (mSI O 94 19 (iI ((j + 1 : Nat) : Int))) 94 20 (iI ((k + 2 : Nat) : Int))) h.2.1 (by show O.1 95 = W; exact o1) ha hb (by rw [mI_ix (by decide), mI_hit]) (by rw [mI_hit]) (by omega) (by omega) (by omega) hL) (fun r8 h8 => ?_)
      obtain ⟨q1, q2⟩ := h8
      have v1 : r8.2.1 95 = W := q2.w95.trans o1
      have v2 : r8.2.1 94 0 = N.1 94 0 := by
        rw [q2.1 94 0 (by decide), mI_ix (by decide), mI_ix (by decide)]
        exact o2
      have hh := hH (j + 1) (k + 2) (by omega) (by omega) (by omega) L hL
      have fb := fgR_b (W := W) (a := a) (b := b) (p := ((j + 1 : Nat) : Int)) (q := ((k + 2 : Nat) : Int)) (U := uM 35 L) (D := dM 35 L) 18 0 (by omega)
      rw [q1]
      generalize fgR W a b ((j + 1 : Nat) : Int) ((k + 2 : Nat) : Int) (uM 35 L) (dM 35 L) 18 0 = V at *
      rw [show (0 : Int32) = iI 0 from rfl]
      refine wp_if (fun c5 => ?_) (fun c5 => ?_)
      · rw [iI_lt (by omega) (by omega) (by omega) (by omega)] at c5
        rw [hstep, if_pos ⟨by omega, by omega, hh.mp (by omega)⟩]
        exact wp_some ⟨by omega, rfl, rfl, iI_succ (j + 1), by omega, v1, v2⟩
      · rw [iI_lt (by omega) (by omega) (by omega) (by omega)] at c5
        exact no _ ⟨v1, v2⟩ (fun w => by have := hh.mpr w.2.2; omega)
    · rw [iI_lt (by omega) (by omega) (by omega) (by omega)]
      omega
  · obtain ⟨e1, e2, e3⟩ := hr
    obtain ⟨r1, r2, N2⟩ := r
    dsimp only at e1 e2 e3
    subst e1
    subst e2
    have e := edV_i (H := H) hx
    unfold F_MO_edge_j172
    refine wp_if (fun c => wp_some ⟨?_, e3⟩) (fun c => wp_some ⟨?_, e3⟩)
    · rw [if_pos c] at e
      exact e
    · rw [if_neg c] at e
      exact e
theorem V_edge {x1 x2 x3 : Int32} {M : Mem} (h : RY M) : wpO (F_LAW_edge x1 x2 x3 M) (fun r1 => wpO (F_MO_edge x1 x2 x3 r1.2) (fun r2 => RY r2.2 ∧ r2.2.1 94 0 = r1.1 ∧ (r1.1 = 0 → r2.2.2 121 0 = r2.1.toInt64))) := by
  refine wp2 (B := fun r1 r2 => r2.2.1 94 0 = r1.1 ∧ (r1.1 = 0 → r2.2.2 121 0 = r2.1.toInt64)) (Y_edge h) (fun r1 r2 e1 e2 => ?_) (fun r s p q => ⟨p, q⟩)
  have f1 := wpO_of (T_LAW_edge x1 x2 x3 M) e1
  have f2 := Q_MO_edge x1 x2 x3 r1.2 r2 e2
  have cw := h.cw
  have e95 : r1.2.1 95 = M.1 95 := funext (f1 95 (by omega)).1
  have e121 : r2.2.2 121 0 = r1.2.2 121 0 := (f2 121 0 (by omega)).2
  have hN : (mSI r1.2 94 0 0).1 95 = M.1 95 := e95
  have n0 : (mSI r1.2 94 0 0).1 94 0 = 0 := mI_hit
  unfold F_LAW_edge F_KW_edge at e1
  unfold F_MO_edge at e2
  generalize mSI r1.2 94 0 0 = N at *
  rw [R_ways (J := fun s => F_MO_edge_j27 x1 x2 x3 s N) hN cw.2.1] at e2
  by_cases c : wOk2 (M.1 95) x1 x2
  · rw [decide_eq_true c] at e2
    rw [cw.way_ok c.1, xb_inr, cw.way_ok c.2, xb_inr] at e1
    obtain ⟨a, rfl, ha⟩ := wOk_nat c.1
    obtain ⟨b, rfl, hb⟩ := wOk_nat c.2
    change F_MO_edge_j27 (iI (a : Int)) (iI (b : Int)) x3 false N = some r2 at e2
    unfold F_MO_edge_j27 at e2
    rw [S_throws_f, bs, if_f1, S_within, bs] at e2
    by_cases c3 : 2 ≤ x3 ∧ x3 ≤ 12
    · rw [decide_eq_true c3, if_pos rfl] at e2
      rw [S_num_ok c3, xb_inr, cw.free ha] at e1
      unfold F_MO_edge_j50 at e2
      rw [S_throws_f, bs, if_f1, R_areB hN cw.2.1 ha hb, bs] at e2
      cases hA : barW (M.1 95) a with
      | true =>
        rw [hA, if_pos rfl, xb_inl, hb_inl, if_neg (by decide), if_neg (by decide), if_pos rfl] at e1
        rw [hA] at e2
        change ((F_MO_throwsIf (b2i true) 3 N).bind _) = some r2 at e2
        rw [S_throws_t, bs, if_pos rfl] at e2
        cases e1
        cases e2
        exact ⟨mI_hit, fun w => absurd w nz3⟩
      | false =>
        rw [hA, if_neg (by decide), xb_inr, cw.free hb] at e1
        rw [hA] at e2
        cases hB : barW (M.1 95) b with
        | true =>
          rw [hB, if_pos rfl, xb_inl, hb_inl, if_neg (by decide), if_neg (by decide), if_pos rfl] at e1
          rw [hB] at e2
          change ((F_MO_throwsIf (b2i true) 3 N).bind _) = some r2 at e2
          rw [S_throws_t, bs, if_pos rfl] at e2
          cases e1
          cases e2
          exact ⟨mI_hit, fun w => absurd w nz3⟩
        | false =>
          rw [hB, if_neg (by decide), xb_inr] at e1
          rw [hB] at e2
          change ((F_MO_throwsIf (b2i false) 3 N).bind _) = some r2 at e2
          rw [S_throws_f, bs, if_f1] at e2
          have b3 := i2 c3
          have t2 : (2 : Int32).toInt = 2 := by decide
          have t12 : (12 : Int32).toInt = 12 := by decide
          rw [t2, t12] at b3
          have ex3 : x3 = iI ((x3.toInt.toNat : Nat) : Int) := iI_nat (by omega)
          have hx : 2 ≤ x3.toInt.toNat ∧ x3.toInt.toNat ≤ 12 := by omega
          generalize x3.toInt.toNat = x at *
          subst ex3
          obtain ⟨H, hH⟩ := holdsH_ex (W := M.1 95) (a := a) (b := b) cw.2.1.acts.2 (cw.wk ha) (cw.wk hb)
          obtain ⟨r, er, er1⟩ := C_edge cw ha hb hx hH
          obtain ⟨u, eu, eu1, eu0⟩ := R_edge cw hN ha hb hx hH
          rw [er, bs, hb_inr, if_pos ib01] at e1
          rw [eu] at e2
          cases e1
          cases e2
          refine ⟨eu0.trans n0, fun _ => ?_⟩
          rw [e121]
          show (mSL r.2 121 ((0 : Int32)).toNatClampNeg r.1.toInt64).2 121 0 = r2.1.toInt64
          rw [tn0, mL_hit, er1, eu1]
    · rw [decide_eq_false c3, if_neg (by decide)] at e2
      rw [S_num_no c3, xb_inl, hb_inl, if_neg (by decide), if_pos rfl] at e1
      unfold F_MO_edge_j50 at e2
      rw [S_throws_t, bs, if_pos rfl] at e2
      cases e1
      cases e2
      exact ⟨mI_hit, fun w => absurd w nz2⟩
  · rw [decide_eq_false c] at e2
    have e1b : r1 = (1, M) := by
      by_cases c4 : wOk (M.1 95) x1
      · rw [cw.way_ok c4, xb_inr, cw.way_no (fun w => c ⟨c4, w⟩), xb_inl, hb_inl, if_pos rfl] at e1
        exact (Option.some.inj e1).symm
      · rw [cw.way_no c4, xb_inl, hb_inl, if_pos rfl] at e1
        exact (Option.some.inj e1).symm
    rw [e1b]
    change F_MO_edge_j27 x1 x2 x3 true N = some r2 at e2
    unfold F_MO_edge_j27 at e2
    rw [S_throws_t, bs, if_pos rfl] at e2
    cases e2
    exact ⟨mI_hit, fun w => absurd w nz1⟩
