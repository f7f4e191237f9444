theorem C_orderOf {W : Nat → Int32} {a b s t pe : Nat} {p q g : Int} {M : Mem} (hA : WOKW W a) (p1 : 1 ≤ p) (pq : p < q) (q12 : q ≤ 12) (h : PRS W a b p q M) (hC : chS (stW W a b) (nxW W a b) (getW W a b) p q) (hs : stW W a b s) (ht : stW W a b t) (hp : pe < 2) (hg1 : -99 ≤ g) (hg2 : g ≤ 99) : F_Chain_orderOf 35 (iI g) (iI (t : Int)) (iI (pe : Int)) (iI (s : Int)) M = some (iI (Int.sign ((g * (q * dM 35 M t) + p * uM 35 M t pe) * dM 35 M s - uM 35 M s pe * (q * dM 35 M t)))) := by
  have s9 := st_lt hA hs
  have t9 := st_lt hA ht
  have hd := (h.2.2.2 s hs).d9 hC
  have kd := (h.2.2.2 t ht).d9 hC
  obtain ⟨-, -, -, -, h5, h6⟩ := h.2.2.2 s hs
  obtain ⟨-, -, -, -, k5, k6⟩ := h.2.2.2 t ht
  obtain ⟨-, -, -, m6, m7⟩ := h.2.2.1
  have b1 := fb_num (by omega) q12 (h6 pe hp) (by omega)
  obtain ⟨c1, c2, c3⟩ := fb_back (gk := g) p1 pq (by decide) ⟨hg1, hg2⟩ (k6 pe hp)
  dsimp only at c1 c2 c3
  have hqd : q * dM 35 M t ≤ 12 * 5159780352 := Int.mul_le_mul q12 kd (by omega) (by omega)
  have f := fb_num (u := g * q * dM 35 M t + p * uM 35 M t pe) (d := q * dM 35 M t) (by omega) q12 ⟨c1, c2, c3⟩ (by omega)
  rw [Int.mul_assoc g q] at f
  have eU : M.2 41 (2 * t + pe) = lI (uM 35 M t pe) := (lI_of _).symm
  have eD : M.2 43 t = lI (dM 35 M t) := (lI_of _).symm
  have eu : M.2 41 (2 * s + pe) = lI (uM 35 M s pe) := (lI_of _).symm
  have ed : M.2 43 s = lI (dM 35 M s) := (lI_of _).symm
  unfold F_Chain_orderOf
  rw [V_Row_at (by omega) (by omega) (by decide), bs, ix2 t, V_Row_at (by omega) (by omega) (by decide), bs, ix2 s, V_Row_at (by omega) (by omega) (by decide), bs, V_Row_at (by omega) (by omega) (by decide), bs]
  show ((F_Fraction_order ((iI g).toInt64 * (M.2 35 7 * M.2 43 t) + M.2 35 6 * M.2 41 (2 * t + pe)) (M.2 35 7 * M.2 43 t) (M.2 41 (2 * s + pe)) (M.2 43 s) M).bind fun r5 => some r5) = _
  rw [eU, eD, eu, ed, m6, m7, iI_l (by omega) (by omega), lI_mul, lI_mul, lI_mul, lI_add, C_order f.1 f.2.1 f.2.2.1 f.2.2.2 b1.1 b1.2.1 b1.2.2.1 b1.2.2.2, bs]
theorem sgn_le {X : Int} : (iI (Int.sign X) ≤ 0 ↔ ¬ 0 < X) := by
  have l0 : (0 : Int32) = iI 0 := rfl
  rw [l0]
  rcases Int.lt_trichotomy X 0 with h | h | h
  · rw [sgn_of.2.1 h, iI_le (by decide) (by decide) (by decide) (by decide)]
    omega
  · rw [sgn_of.2.2 h, iI_le (by decide) (by decide) (by decide) (by decide)]
    omega
  · rw [sgn_of.1 h, iI_le (by decide) (by decide) (by decide) (by decide)]
    omega
theorem gnB_t {W : Nat → Int32} {a b s pe e : Nat} {p q : Int} {U : Nat → Nat → Int} {D : Nat → Int} (he : e < (W 0).toInt.toNat) (h : 0 < gX W a b p q U D s pe e) : gnB W a b p q U D s pe = true := by
  unfold gnB
  exact List.any_eq_true.mpr ⟨e, List.mem_range.mpr he, decide_eq_true h⟩
theorem gnB_f {W : Nat → Int32} {a b s pe : Nat} {p q : Int} {U : Nat → Nat → Int} {D : Nat → Int} (h : ∀ e, e < (W 0).toInt.toNat → ¬ 0 < gX W a b p q U D s pe e) : gnB W a b p q U D s pe = false := by
  unfold gnB
  refine List.any_eq_false.mpr (fun e he => ?_)
  rw [decide_eq_false (h e (List.mem_range.mp he))]
  decide
theorem C_gains {W : Nat → Int32} {a b x y pe : Nat} {p q : Int} {M : Mem} (ha : (a : Int) < (W 5).toInt) (hb : (b : Int) < (W 5).toInt) (p1 : 1 ≤ p) (pq : p < q) (q12 : q ≤ 12) (h : PRS W a b p q M) (hx : x < mo W a) (hy : y < mo W b) (hp : pe < 2) : F_Pair_gainsOtherwise (iI (x : Int)) (iI (y : Int)) (iI (pe : Int)) M = some (gnB W a b p q (uM 35 M) (dM 35 M) (3 * x + y) pe) := by
  have cw := h.1
  have hA := cw.wk ha
  have hB := cw.wk hb
  have mA := hA.moK
  have mB := hB.moK
  have hC := pairS cw.2.1 hA hB p1 pq q12
  obtain ⟨h2, h3, -, -⟩ := h.2.1
  have hW := cw.2.1.acts
  have e0 := cw.2.2.1.1
  obtain ⟨n, hn⟩ : ∃ n : Nat, (W 0).toInt = n := ⟨(W 0).toInt.toNat, by omega⟩
  have en : W 0 = iI (n : Int) := by rw [← hn, iI_of]
  have nn : (W 0).toInt.toNat = n := by omega
  have hs0 : (3 * x + y) / 3 = x ∧ (3 * x + y) % 3 = y := by omega
  have hst : stW W a b (3 * x + y) := ⟨by rw [hs0.1]; exact hx, by rw [hs0.2]; exact hy⟩
  have e35 : 3 * iI (x : Int) + iI (y : Int) = iI ((3 * x + y : Nat) : Int) := by rw [l32n_3, iI_pm, iI_pa]
  have core : ∀ k f v : Nat, k < 3 → fsA W a (3 * x + y) pe k = f → scA W b (3 * x + y) pe k = v → wpO (F_Pair_gainsOtherwise_j60 (iI (x : Int)) (iI (y : Int)) (iI (pe : Int)) (iI (k : Int)) (iI (f : Int)) (iI (v : Int)) M) (fun r => match r with | .inl z => z = iI ((k + 1 : Nat) : Int) ∧ ¬ 0 < gX W a b p q (uM 35 M) (dM 35 M) (3 * x + y) pe k | .inr (.inl _) => 0 < gX W a b p q (uM 35 M) (dM 35 M) (3 * x + y) pe k | .inr (.inr _) => False) := by
    intro k f v hk hf hv
    obtain ⟨t1, t2, t3, t4, t5⟩ := toA_st (pe := pe) hA hB hst hk
    rw [hf] at t2
    rw [hv] at t3
    have et : toA W a b (3 * x + y) pe k = 3 * gz W a x v + gz W b y f := by
      unfold toA
      rw [hf, hv, hs0.1, hs0.2]
    have eb : brA W a b (3 * x + y) pe k = br W f v pe := by
      unfold brA
      rw [hf, hv]
    have bb := cw.2.1.br f v pe t2 t3 hp
    unfold F_Pair_gainsOtherwise_j60
    rw [C_placeAfter cw h2 h3 ha hb hx hy t2 t3, bs, C_brW cw t2 t3 hp, bs, e35, ← et, C_orderOf hA p1 pq q12 h hC hst t1 hp bb.1 bb.2, bs, ← eb]
    refine wp_if (fun c => wp_some ⟨iI_succ k, sgn_le.mp c⟩) (fun c => wp_some ?_)
    have c2 : ¬ ¬ 0 < gX W a b p q (uM 35 M) (dM 35 M) (3 * x + y) pe k := fun w => c (sgn_le.mpr w)
    exact Decidable.not_not.mp c2
  have loop : wpO (iter (F_Pair_gainsOtherwise_b3 (iI (x : Int)) (iI (y : Int)) (iI (pe : Int)) M) FUEL 0) (fun r => match r with | .inl _ => gnB W a b p q (uM 35 M) (dM 35 M) (3 * x + y) pe = true | .inr _ => gnB W a b p q (uM 35 M) (dM 35 M) (3 * x + y) pe = false) := by
    refine wp_iterS (P := fun (k : Nat) (z : Int32) => z = iI (k : Int) ∧ ∀ e, e < k → ¬ 0 < gX W a b p q (uM 35 M) (dM 35 M) (3 * x + y) pe e) n ?_ FUEL 0 ⟨rfl, fun e h => absurd h (Nat.not_lt_zero _)⟩ (FUEL_big (by omega))
    rintro k z hk ⟨rfl, hz⟩
    unfold F_Pair_gainsOtherwise_b3
    rw [e0, en]
    refine wp_if (fun c => wp_some ?_) (fun c => ?_)
    · rw [iI_le (by omega) (by omega) (by omega) (by omega)] at c
      exact gnB_f (fun e he => hz e (by omega))
    rw [iI_le (by omega) (by omega) (by omega) (by omega)] at c
    have fin : ∀ r, (match r with | .inl z => z = iI ((k + 1 : Nat) : Int) ∧ ¬ 0 < gX W a b p q (uM 35 M) (dM 35 M) (3 * x + y) pe k | .inr (.inl _) => 0 < gX W a b p q (uM 35 M) (dM 35 M) (3 * x + y) pe k | .inr (.inr _) => False : Prop) → sumP (fun s' => k < n ∧ s' = iI ((k + 1 : Nat) : Int) ∧ ∀ e, e < k + 1 → ¬ 0 < gX W a b p q (uM 35 M) (dM 35 M) (3 * x + y) pe e) (fun r : Unit ⊕ Unit => match r with | .inl _ => gnB W a b p q (uM 35 M) (dM 35 M) (3 * x + y) pe = true | .inr _ => gnB W a b p q (uM 35 M) (dM 35 M) (3 * x + y) pe = false) r := by
      intro r hr
      rcases r with r | r | r
      · refine ⟨by omega, hr.1, fun e he => ?_⟩
        by_cases q1 : e = k
        · rw [q1]
          exact hr.2
        · exact hz e (by omega)
      · exact gnB_t (e := k) (by omega) hr
      · exact hr.elim
    have d1 := hA.dzK hx
    have d2 := hB.dzK hy
    have hp2 : pe = 0 ∨ pe = 1 := by omega
    rcases hp2 with rfl | rfl
    · refine wp_t (show iI ((0 : Nat) : Int) = 0 from rfl) ?_
      unfold F_Pair_gainsOtherwise_j36
      refine wp_f (show ¬ iI ((0 : Nat) : Int) = 1 by decide) ?_
      rw [h3, C_actOf cw hb hy, bs]
      refine wp_mono (core k k (dz W b y) (by omega) ?_ ?_) fin
      · unfold fsA
        rw [if_pos rfl]
      · unfold scA
        rw [if_neg (by decide), hs0.2]
    · refine wp_f (show ¬ iI ((1 : Nat) : Int) = 0 by decide) ?_
      rw [h2, C_actOf cw ha hx, bs]
      unfold F_Pair_gainsOtherwise_j36
      refine wp_t (show iI ((1 : Nat) : Int) = 1 from rfl) ?_
      refine wp_mono (core k (dz W a x) k (by omega) ?_ ?_) fin
      · unfold fsA
        rw [if_neg (by decide), hs0.1]
      · unfold scA
        rw [if_pos rfl]
  apply wp_of
  unfold F_Pair_gainsOtherwise F_Pair_gainsOtherwise_l3
  refine wp_bind loop (fun r hr => ?_)
  rcases r with r | r
  · exact wp_some hr.symm
  · exact wp_some hr.symm
theorem fgR_go {W : Nat → Int32} {a b i : Nat} {p q : Int} {U : Nat → Nat → Int} {D : Nat → Int} (h : i < 18) : fgR W a b p q U D (18 - i) i = if i / 2 / 3 < mo W a ∧ i / 2 % 3 < mo W b ∧ gnB W a b p q U D (i / 2) (i % 2) = true then (i : Int) else fgR W a b p q U D (18 - (i + 1)) (i + 1) := by
  rw [show 18 - i = (18 - (i + 1)) + 1 by omega, fgR_s]
theorem fgR_end {W : Nat → Int32} {a b i : Nat} {p q : Int} {U : Nat → Nat → Int} {D : Nat → Int} (h : i ≤ 18) (hn : ∀ j, i ≤ j → j < 18 → ¬ (j / 2 / 3 < mo W a ∧ j / 2 % 3 < mo W b)) : fgR W a b p q U D (18 - i) i = -1 := by
  rw [fgR_skip (18 - i) (by omega) (fun j h1 h2 w => hn j h1 (by omega) ⟨w.1, w.2.1⟩), show 18 - (i + (18 - i)) = 0 by omega]
  rfl
theorem C_firstGain {W : Nat → Int32} {a b : Nat} {p q : Int} {M : Mem} (ha : (a : Int) < (W 5).toInt) (hb : (b : Int) < (W 5).toInt) (p1 : 1 ≤ p) (pq : p < q) (q12 : q ≤ 12) (h : PRS W a b p q M) : F_Pair_firstGain M = some (iI (fgR W a b p q (uM 35 M) (dM 35 M) 18 0)) := by
  have cw := h.1
  have hA := cw.wk ha
  have hB := cw.wk hb
  have mA := hA.moK
  have mB := hB.moK
  obtain ⟨-, -, m4, m5⟩ := h.2.1
  have l2 : (2 : Int32) = iI 2 := rfl
  obtain ⟨V, hV⟩ : ∃ V, V = fgR W a b p q (uM 35 M) (dM 35 M) 18 0 := ⟨_, rfl⟩
  rw [← hV]
  apply wp_of
  unfold F_Pair_firstGain F_Pair_firstGain_l2
  refine wp_bind (Ψ := fun r => match r with | .inl z => ∃ i : Nat, z = (iI ((i / 2 / 3 : Nat) : Int), iI ((i / 2 % 3 : Nat) : Int), iI ((i % 2 : Nat) : Int)) ∧ i < 18 ∧ V = i | .inr _ => V = -1) ?_ (fun r hr => ?_)
  · refine wp_iterS (P := fun (k : Nat) (z : Int32) => z = iI (k : Int) ∧ k ≤ mo W a ∧ V = fgR W a b p q (uM 35 M) (dM 35 M) (18 - 6 * k) (6 * k)) (mo W a) ?_ FUEL 0 ⟨rfl, by omega, hV⟩ (FUEL_big (by omega))
    rintro x z - ⟨rfl, hx, vx⟩
    unfold F_Pair_firstGain_b2
    rw [m4]
    refine wp_if (fun c => wp_some ?_) (fun c => ?_)
    · rw [iI_le (by omega) (by omega) (by omega) (by omega)] at c
      show V = -1
      rw [vx]
      exact fgR_end (by omega) (fun j h1 h2 w => by omega)
    rw [iI_le (by omega) (by omega) (by omega) (by omega)] at c
    unfold F_Pair_firstGain_l12
    refine wp_bind (Ψ := fun r => match r with | .inl z => ∃ i : Nat, z = (iI ((i / 2 % 3 : Nat) : Int), iI ((i % 2 : Nat) : Int)) ∧ i / 2 / 3 = x ∧ i < 18 ∧ V = i | .inr _ => V = fgR W a b p q (uM 35 M) (dM 35 M) (18 - 6 * (x + 1)) (6 * (x + 1))) ?_ (fun r hr => ?_)
    · refine wp_iterS (P := fun (k : Nat) (z : Int32) => z = iI (k : Int) ∧ k ≤ mo W b ∧ V = fgR W a b p q (uM 35 M) (dM 35 M) (18 - (6 * x + 2 * k)) (6 * x + 2 * k)) (mo W b) ?_ FUEL 0 ⟨rfl, by omega, vx⟩ (FUEL_big (by omega))
      rintro y z - ⟨rfl, hy, vy⟩
      unfold F_Pair_firstGain_b12
      rw [m5]
      refine wp_if (fun c2 => wp_some ?_) (fun c2 => ?_)
      · rw [iI_le (by omega) (by omega) (by omega) (by omega)] at c2
        show V = _
        rw [vy, fgR_skip (6 * (x + 1) - (6 * x + 2 * y)) (by omega) (fun j h1 h2 w => by omega), show 6 * x + 2 * y + (6 * (x + 1) - (6 * x + 2 * y)) = 6 * (x + 1) by omega]
      rw [iI_le (by omega) (by omega) (by omega) (by omega)] at c2
      unfold F_Pair_firstGain_l22
      refine wp_bind (Ψ := fun r => match r with | .inl z => ∃ i : Nat, z = iI ((i % 2 : Nat) : Int) ∧ i / 2 = 3 * x + y ∧ V = i | .inr _ => V = fgR W a b p q (uM 35 M) (dM 35 M) (18 - (6 * x + 2 * (y + 1))) (6 * x + 2 * (y + 1))) ?_ (fun r hr => ?_)
      · refine wp_iterS (P := fun (k : Nat) (z : Int32) => z = iI (k : Int) ∧ k ≤ 2 ∧ V = fgR W a b p q (uM 35 M) (dM 35 M) (18 - (6 * x + 2 * y + k)) (6 * x + 2 * y + k)) 2 ?_ FUEL 0 ⟨rfl, by omega, vy⟩ (FUEL_big (by omega))
        rintro pe z - ⟨rfl, hp, vp⟩
        unfold F_Pair_firstGain_b22
        rw [l2]
        refine wp_if (fun c3 => wp_some ?_) (fun c3 => ?_)
        · rw [iI_le (by omega) (by omega) (by omega) (by omega)] at c3
          have : pe = 2 := by omega
          subst this
          exact vp
        rw [iI_le (by omega) (by omega) (by omega) (by omega)] at c3
        have i1 : (6 * x + 2 * y + pe) / 2 = 3 * x + y := by omega
        have i2 : (6 * x + 2 * y + pe) % 2 = pe := by omega
        have i3 : (3 * x + y) / 3 = x := by omega
        have i4 : (3 * x + y) % 3 = y := by omega
        rw [fgR_go (by omega), i1, i2, i3, i4] at vp
        rw [C_gains ha hb p1 pq q12 h (by omega) (by omega) (by omega), bs]
        refine wp_if (fun c4 => wp_some ?_) (fun c4 => wp_some ?_)
        · rw [if_pos ⟨by omega, by omega, c4⟩] at vp
          exact ⟨6 * x + 2 * y + pe, by rw [i2], i1, vp⟩
        · rw [if_neg (fun w => c4 w.2.2)] at vp
          exact ⟨by omega, iI_succ pe, by omega, vp⟩
      · rcases r with r | r
        · obtain ⟨i, e1, e2, e3⟩ := hr
          refine wp_some ⟨i, ?_, by omega, by omega, e3⟩
          rw [e1, show i / 2 % 3 = y by omega]
        · exact wp_some ⟨by omega, iI_succ y, by omega, hr⟩
    · rcases r with r | r
      · obtain ⟨i, e1, e2, e3, e4⟩ := hr
        refine wp_some ⟨i, ?_, e3, e4⟩
        rw [e1, e2]
      · exact wp_some ⟨by omega, iI_succ x, by omega, hr⟩
  · rcases r with r | r
    · obtain ⟨i, e1, e2, e3⟩ := hr
      rw [e1]
      unfold F_Pair_firstGain_j37
      refine wp_some ?_
      dsimp only
      rw [show (6 : Int32) = iI ((6 : Nat) : Int) from rfl, l32n_2, iI_pm, iI_pm, iI_pa, iI_pa, e3, show 6 * (i / 2 / 3) + 2 * (i / 2 % 3) + i % 2 = i by omega]
    · refine wp_some ?_
      rw [show V = -1 from hr]
      rfl
