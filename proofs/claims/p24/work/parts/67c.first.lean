/-! the reference's gains and first, by the class's numbers -/
theorem sgn_red {g p q u d v e : Int} (hd : 0 < d) (he : 0 < e) : 0 < (g * q * rD u d + p * rU u d) * rD v e - rU v e * (q * rD u d) ↔ 0 < (g * (q * d) + p * u) * e - v * (q * d) := by
  obtain ⟨g1, g2, g3, -, -, -⟩ := rUD (a := u) hd
  obtain ⟨k1, k2, k3, -, -, -⟩ := rUD (a := v) he
  have key : (g * (q * d) + p * u) * e - v * (q * d) = ((g * q * rD u d + p * rU u d) * rD v e - rU v e * (q * rD u d)) * ((Int.gcd u d : Int) * (Int.gcd v e : Int)) := by
    generalize rU u d = x at *
    generalize rD u d = y at *
    generalize rU v e = z at *
    generalize rD v e = w at *
    generalize (Int.gcd u d : Int) = G at *
    generalize (Int.gcd v e : Int) = K at *
    rw [← g2, ← g3, ← k2, ← k3]
    grind
  rw [key]
  have hz := Int.mul_pos g1 k1
  generalize (g * q * rD u d + p * rU u d) * rD v e - rU v e * (q * rD u d) = X
  generalize (Int.gcd u d : Int) * (Int.gcd v e : Int) = Z at *
  refine ⟨fun h => Int.mul_pos h hz, fun h => ?_⟩
  rcases Int.lt_or_le 0 X with c | c
  · exact c
  · have := Int.mul_le_mul_of_nonneg_right c (Int.le_of_lt hz)
    rw [Int.zero_mul] at this
    omega
theorem R_gains {a b s pe : Nat} {p q : Int} {M N : Mem} (hR : RIW (N.1 95)) (ha : (a : Int) < (N.1 95 5).toInt) (hb : (b : Int) < (N.1 95 5).toInt) (hP : N.1 94 19 = iI p) (hQ : N.1 94 20 = iI q) (p1 : 1 ≤ p) (pq : p < q) (q12 : q ≤ 12) (h : PRS (N.1 95) a b p q M) (hw : ∀ t, stW (N.1 95) a b t → N.2 104 (2 * t + pe) = lI (rU (uM 35 M t pe) (dM 35 M t)) ∧ N.2 105 (2 * t + pe) = lI (rD (uM 35 M t pe) (dM 35 M t))) (hs : stW (N.1 95) a b s) (hp : pe < 2) : F_MO_gains (iI (a : Int)) (iI (b : Int)) (iI (s : Int)) (iI (pe : Int)) N = some (gnB (N.1 95) a b p q (uM 35 M) (dM 35 M) s pe) := by
  have hA := hR.way a ha
  have hB := hR.way b hb
  have a8 := hR.w8 ha
  have b8 := hR.w8 hb
  have hbr := hR.br
  have hact := hR.acts
  have hC := pairS hR hA hB p1 pq q12
  have hs9 := st_lt hA hs
  have da := (hA.dzK hs.1).1
  have db := (hB.dzK hs.2).1
  obtain ⟨a1, a2, -⟩ := hA.moK
  obtain ⟨b1, b2, -⟩ := hB.moK
  have l0 : (0 : Int32) = iI 0 := rfl
  have p64 : (N.1 94 19).toInt64 = lI p := by rw [hP, iI_l (by omega) (by omega)]
  have q64 : (N.1 94 20).toInt64 = lI q := by rw [hQ, iI_l (by omega) (by omega)]
  have vals : ∀ t, stW (N.1 95) a b t → 0 < dM 35 M t ∧ fb 99 q (rU (uM 35 M t pe) (dM 35 M t), rD (uM 35 M t pe) (dM 35 M t)) ∧ rD (uM 35 M t pe) (dM 35 M t) ≤ 5159780352 := fun t ht => by
    have kd := (h.2.2.2 t ht).d9 hC
    obtain ⟨-, -, -, -, h5, h6⟩ := h.2.2.2 t ht
    obtain ⟨f1, f2, f3⟩ := h6 pe hp
    dsimp only at f1 f2 f3
    have hr := fb_red (G := 99) (q := q) (by omega) f1 f2 f3
    exact ⟨h5, hr.1, by omega⟩
  have core : ∀ (x7 : Int32) (k f g : Nat), k < 3 → fsA (N.1 95) a s pe k = f → scA (N.1 95) b s pe k = g → wpO (F_MO_gains_j93 (iI (a : Int)) (iI (b : Int)) (iI (s : Int)) (iI (pe : Int)) (iI ((s / 3 : Nat) : Int)) (iI ((s % 3 : Nat) : Int)) x7 (iI (k : Int)) (iI (f : Int)) (iI (g : Int)) N) (fun r => match r with | .inl z => z = iI ((k + 1 : Nat) : Int) ∧ ¬ 0 < gX (N.1 95) a b p q (uM 35 M) (dM 35 M) s pe k | .inr (.inl _) => 0 < gX (N.1 95) a b p q (uM 35 M) (dM 35 M) s pe k | .inr (.inr _) => False) := by
    intro x7 k f g hk hf hg
    obtain ⟨t1, t2, t3, t4, t5⟩ := toA_st (pe := pe) hA hB hs hk
    rw [hf] at t2 t5
    rw [hg] at t3 t4
    have et : toA (N.1 95) a b s pe k = 3 * gz (N.1 95) a (s / 3) g + gz (N.1 95) b (s % 3) f := by
      unfold toA
      rw [hf, hg]
    have eb : brA (N.1 95) a b s pe k = br (N.1 95) f g pe := by
      unfold brA
      rw [hf, hg]
    have hb9 := hbr f g pe (by omega) (by omega) hp
    unfold F_MO_gains_j93
    rw [N_goesW a8 hA hs.1 (by omega), bs, N_goesW b8 hB hs.2 (by omega), bs, N_brings (by omega) (by omega) hp, bs]
    have e1 : (2 * ((3 * iI (gz (N.1 95) a (s / 3) g : Int)) + iI (gz (N.1 95) b (s % 3) f : Int))) + iI (pe : Int) = iI ((2 * toA (N.1 95) a b s pe k + pe : Nat) : Int) := by
      rw [et, l32_2, l32_3, iI_mul, iI_add, iI_mul, iI_add]
      rfl
    have e2 : (2 * iI (s : Int)) + iI (pe : Int) = iI ((2 * s + pe : Nat) : Int) := by
      rw [l32_2, iI_mul, iI_add]
      rfl
    have t9 := st_lt hA t1
    rw [e1, e2]
    refine wp_t (inb_iI (by omega) (by omega) (by omega)) (wp_t (inb_iI (by omega) (by omega) (by omega)) (wp_t (inb_iI (by omega) (by omega) (by omega)) (wp_t (inb_iI (by omega) (by omega) (by omega)) (wp_t (inb_iI (by omega) (by omega) (by omega)) ?_))))
    have n1 : (iI ((2 * toA (N.1 95) a b s pe k + pe : Nat) : Int)).toNatClampNeg = 2 * toA (N.1 95) a b s pe k + pe := clN (by omega)
    have n2 : (iI ((2 * s + pe : Nat) : Int)).toNatClampNeg = 2 * s + pe := clN (by omega)
    obtain ⟨v0, v3, v4⟩ := vals _ t1
    obtain ⟨y0, y3, y4⟩ := vals _ hs
    obtain ⟨v1, v2⟩ := hw _ t1
    obtain ⟨y1, y2⟩ := hw _ hs
    have hgx : 0 < gX (N.1 95) a b p q (uM 35 M) (dM 35 M) s pe k ↔ 0 < (br (N.1 95) f g pe * q * rD (uM 35 M (toA (N.1 95) a b s pe k) pe) (dM 35 M (toA (N.1 95) a b s pe k)) + p * rU (uM 35 M (toA (N.1 95) a b s pe k) pe) (dM 35 M (toA (N.1 95) a b s pe k))) * rD (uM 35 M s pe) (dM 35 M s) - rU (uM 35 M s pe) (dM 35 M s) * (q * rD (uM 35 M (toA (N.1 95) a b s pe k) pe) (dM 35 M (toA (N.1 95) a b s pe k))) := by
      rw [sgn_red v0 y0]
      unfold gX
      rw [eb]
    rw [n1, n2, v1, v2, y1, y2, p64, q64, iI_l (by omega) (by omega), lI_mul, lI_mul, lI_mul, lI_add, lI_mul]
    obtain ⟨c1, c2, c3⟩ := fb_back (gk := br (N.1 95) f g pe) p1 pq (by decide) hb9 v3
    dsimp only at c1 c2 c3
    have hqd : q * rD (uM 35 M (toA (N.1 95) a b s pe k) pe) (dM 35 M (toA (N.1 95) a b s pe k)) ≤ 12 * 5159780352 := Int.mul_le_mul q12 v4 (by have := v3.1; dsimp only at this; omega) (by omega)
    obtain ⟨f1, f2, f3, f4⟩ := fb_num (u := br (N.1 95) f g pe * q * rD (uM 35 M (toA (N.1 95) a b s pe k) pe) (dM 35 M (toA (N.1 95) a b s pe k)) + p * rU (uM 35 M (toA (N.1 95) a b s pe k) pe) (dM 35 M (toA (N.1 95) a b s pe k))) (d := q * rD (uM 35 M (toA (N.1 95) a b s pe k) pe) (dM 35 M (toA (N.1 95) a b s pe k))) (by omega) q12 ⟨c1, c2, c3⟩ (by omega)
    obtain ⟨g1, g2, g3, g4⟩ := fb_num (by omega) q12 y3 (by omega)
    rw [N_compared f1 f2 f3 f4 g1 g2 g3 g4 N, bs]
    refine wp_if (fun c => wp_some ⟨iI_succ k, fun w => sgn_le.mp c (hgx.mp w)⟩) (fun c => wp_some ?_)
    exact hgx.mpr (Decidable.not_not.mp (fun w => c (sgn_le.mpr w)))
  have own : ∀ e : Nat, e = (if pe = 0 then dz (N.1 95) a (s / 3) else dz (N.1 95) b (s % 3)) → ¬ 0 < gX (N.1 95) a b p q (uM 35 M) (dM 35 M) s pe e := fun e he => by
    rw [he, gX_own hp (h.eqn hA hB hp) hs]
    decide
  have loop : ∀ o : Nat, o ≤ 2 → o = (if pe = 0 then dz (N.1 95) a (s / 3) else dz (N.1 95) b (s % 3)) → wpO (F_MO_gains_l37 (iI (a : Int)) (iI (b : Int)) (iI (s : Int)) (iI (pe : Int)) (iI ((s / 3 : Nat) : Int)) (iI ((s % 3 : Nat) : Int)) (iI (o : Int)) 0 N) (fun r => r = gnB (N.1 95) a b p q (uM 35 M) (dM 35 M) s pe) := by
    intro o ho2 ho
    unfold F_MO_gains_l37
    obtain ⟨n, hn⟩ : ∃ n : Nat, (N.1 95 0).toInt = n := ⟨(N.1 95 0).toInt.toNat, by omega⟩
    have en : N.1 95 0 = iI (n : Int) := by rw [← hn, iI_of]
    refine wp_bind (Ψ := fun r => match r with | .inl _ => gnB (N.1 95) a b p q (uM 35 M) (dM 35 M) s pe = true | .inr _ => gnB (N.1 95) a b p q (uM 35 M) (dM 35 M) s pe = false) ?_ (fun r hr => by
      rcases r with r | r
      · exact wp_some hr.symm
      · exact wp_some hr.symm)
    refine wp_iterS (P := fun (k : Nat) (z : Int32) => z = iI (k : Int) ∧ ∀ e, e < k → ¬ 0 < gX (N.1 95) a b p q (uM 35 M) (dM 35 M) s pe e) n ?_ FUEL 0 ⟨rfl, fun e h => absurd h (Nat.not_lt_zero _)⟩ (FUEL_big (by omega))
    rintro k z hk ⟨rfl, hz⟩
    have nx : ¬ 0 < gX (N.1 95) a b p q (uM 35 M) (dM 35 M) s pe k → ∀ e, e < k + 1 → ¬ 0 < gX (N.1 95) a b p q (uM 35 M) (dM 35 M) s pe e := fun w e he => by
      by_cases q1 : e = k
      · rw [q1]
        exact w
      · exact hz e (by omega)
    unfold F_MO_gains_b37
    rw [S_actMany, bs, en]
    refine wp_if (fun c => wp_some ?_) (fun c => ?_)
    · rw [iI_le (by omega) (by omega) (by omega) (by omega)] at c
      exact gnB_f (fun e he => hz e (by omega))
    rw [iI_le (by omega) (by omega) (by omega) (by omega)] at c
    refine wp_if (fun c2 => wp_some ⟨by omega, iI_succ k, nx (own k ?_)⟩) (fun _ => ?_)
    · rw [iI_eq (by omega) (by omega) (by omega) (by omega)] at c2
      omega
    have fin : ∀ r, (match r with | .inl z => z = iI ((k + 1 : Nat) : Int) ∧ ¬ 0 < gX (N.1 95) a b p q (uM 35 M) (dM 35 M) s pe k | .inr (.inl _) => 0 < gX (N.1 95) a b p q (uM 35 M) (dM 35 M) s pe k | .inr (.inr _) => False : Prop) → sumP (fun s' => k < n ∧ s' = iI ((k + 1 : Nat) : Int) ∧ ∀ e, e < k + 1 → ¬ 0 < gX (N.1 95) a b p q (uM 35 M) (dM 35 M) s pe e) (fun r : Unit ⊕ Unit => match r with | .inl _ => gnB (N.1 95) a b p q (uM 35 M) (dM 35 M) s pe = true | .inr _ => gnB (N.1 95) a b p q (uM 35 M) (dM 35 M) s pe = false) r := by
      intro r hr
      rcases r with r | r | r
      · exact ⟨by omega, hr.1, nx hr.2⟩
      · exact gnB_t (e := k) (by omega) hr
      · exact hr.elim
    have hp2 : pe = 0 ∨ pe = 1 := by omega
    rcases hp2 with rfl | rfl
    · refine wp_t (show iI ((0 : Nat) : Int) = 0 from rfl) ?_
      unfold F_MO_gains_j73
      refine wp_f (show ¬ iI ((0 : Nat) : Int) = 1 by decide) ?_
      rw [N_doesW b8 hB hs.2, bs]
      refine wp_mono (core _ k k (dz (N.1 95) b (s % 3)) (by omega) ?_ ?_) fin
      · unfold fsA
        rw [if_pos rfl]
      · unfold scA
        rw [if_neg (by decide)]
    · refine wp_f (show ¬ iI ((1 : Nat) : Int) = 0 by decide) ?_
      rw [N_doesW a8 hA hs.1, bs]
      unfold F_MO_gains_j73
      refine wp_t (show iI ((1 : Nat) : Int) = 1 from rfl) ?_
      refine wp_mono (core _ k (dz (N.1 95) a (s / 3)) k (by omega) ?_ ?_) fin
      · unfold fsA
        rw [if_neg (by decide)]
      · unfold scA
        rw [if_pos rfl]
  apply wp_of
  unfold F_MO_gains
  rw [idiv3 hs9, irm3 hs9]
  have hp2 : pe = 0 ∨ pe = 1 := by omega
  rcases hp2 with rfl | rfl
  · refine wp_t (show iI ((0 : Nat) : Int) = 0 from rfl) ?_
    rw [N_doesW a8 hA hs.1, bs]
    exact loop _ da (by rw [if_pos rfl])
  · refine wp_f (show ¬ iI ((1 : Nat) : Int) = 0 by decide) ?_
    rw [N_doesW b8 hB hs.2, bs]
    exact loop _ db (by rw [if_neg (by decide)])
theorem R_firstL {a b : Nat} {p q : Int} {M N : Mem} (hR : RIW (N.1 95)) (ha : (a : Int) < (N.1 95 5).toInt) (hb : (b : Int) < (N.1 95 5).toInt) (hP : N.1 94 19 = iI p) (hQ : N.1 94 20 = iI q) (p1 : 1 ≤ p) (pq : p < q) (q12 : q ≤ 12) (h : PRS (N.1 95) a b p q M) (hw : ∀ t pe, pe < 2 → stW (N.1 95) a b t → N.2 104 (2 * t + pe) = lI (rU (uM 35 M t pe) (dM 35 M t)) ∧ N.2 105 (2 * t + pe) = lI (rD (uM 35 M t pe) (dM 35 M t))) : F_MO_firstOf_l8 (iI (a : Int)) (iI (b : Int)) 0 N = some (iI (fgR (N.1 95) a b p q (uM 35 M) (dM 35 M) 18 0), N) := by
  have hA := hR.way a ha
  have hB := hR.way b hb
  have a8 := hR.w8 ha
  have b8 := hR.w8 hb
  obtain ⟨V, hV⟩ : ∃ V, V = fgR (N.1 95) a b p q (uM 35 M) (dM 35 M) 18 0 := ⟨_, rfl⟩
  rw [← hV]
  apply wp_of
  unfold F_MO_firstOf_l8
  refine wp_bind (Ψ := fun r => match r with | .inl z => ∃ s pe : Nat, z = (iI (s : Int), iI (pe : Int)) ∧ V = ((2 * s + pe : Nat) : Int) | .inr _ => V = -1) ?_ (fun r hr => ?_)
  · refine wp_iterS (P := fun (k : Nat) (z : Int32) => z = iI (k : Int) ∧ V = fgR (N.1 95) a b p q (uM 35 M) (dM 35 M) (18 - 2 * k) (2 * k)) 9 ?_ FUEL 0 ⟨rfl, hV⟩ (FUEL_big (by decide))
    rintro s z hk ⟨rfl, vs⟩
    unfold F_MO_firstOf_b8
    rw [l32_9]
    refine wp_if (fun c => wp_some ?_) (fun c => ?_)
    · rw [iI_le (by omega) (by omega) (by omega) (by omega)] at c
      show V = -1
      rw [vs]
      exact fgR_end (by omega) (fun j h1 h2 w => by omega)
    rw [iI_le (by omega) (by omega) (by omega) (by omega)] at c
    unfold F_MO_firstOf_l17
    refine wp_bind (Ψ := fun r => match r with | .inl z => ∃ pe : Nat, z = iI (pe : Int) ∧ V = ((2 * s + pe : Nat) : Int) | .inr _ => V = fgR (N.1 95) a b p q (uM 35 M) (dM 35 M) (18 - 2 * (s + 1)) (2 * (s + 1))) ?_ (fun r hr => ?_)
    · refine wp_iterS (P := fun (k : Nat) (z : Int32) => z = iI (k : Int) ∧ V = fgR (N.1 95) a b p q (uM 35 M) (dM 35 M) (18 - (2 * s + k)) (2 * s + k)) 2 ?_ FUEL 0 ⟨rfl, vs⟩ (FUEL_big (by decide))
      rintro pe z hp ⟨rfl, vp⟩
      unfold F_MO_firstOf_b17
      rw [l32_2]
      refine wp_if (fun c2 => wp_some ?_) (fun c2 => ?_)
      · rw [iI_le (by omega) (by omega) (by omega) (by omega)] at c2
        have : pe = 2 := by omega
        subst this
        exact vp
      rw [iI_le (by omega) (by omega) (by omega) (by omega)] at c2
      have i1 : (2 * s + pe) / 2 = s := by omega
      have i2 : (2 * s + pe) % 2 = pe := by omega
      obtain ⟨r, hr, hst⟩ := N_isState (M := N) (s := s) (by omega) (by omega) hA hB (by omega)
      rw [hr, bs]
      refine wp_if (fun c3 => ?_) (fun c3 => wp_some ?_)
      · have hs := hst.mp c3
        rw [R_gains hR ha hb hP hQ p1 pq q12 h (fun t ht => hw t pe (by omega) ht) hs (by omega), bs]
        rw [fgR_go (by omega), i1, i2] at vp
        refine wp_if (fun c4 => wp_some ?_) (fun c4 => wp_some ?_)
        · rw [if_pos ⟨hs.1, hs.2, c4⟩] at vp
          exact ⟨pe, rfl, vp⟩
        · rw [if_neg (fun w => c4 w.2.2)] at vp
          exact ⟨by omega, iI_succ pe, vp⟩
      · show V = _
        have hns : ¬ stW (N.1 95) a b s := fun w => c3 (hst.mpr w)
        rw [vp, fgR_skip (2 * (s + 1) - (2 * s + pe)) (by omega) (fun j h1 h2 w => hns (by
          have : j / 2 = s := by omega
          rw [this] at w
          exact ⟨w.1, w.2.1⟩)), show 2 * s + pe + (2 * (s + 1) - (2 * s + pe)) = 2 * (s + 1) by omega]
    · rcases r with r | r
      · obtain ⟨pe, e1, e2⟩ := hr
        exact wp_some ⟨s, pe, by rw [e1], e2⟩
      · exact wp_some ⟨by omega, iI_succ s, hr⟩
  · rcases r with r | r
    · obtain ⟨s, pe, e1, e2⟩ := hr
      rw [e1]
      refine wp_some ?_
      dsimp only
      rw [ix2, e2]
    · refine wp_some ?_
      rw [show V = -1 from hr]
      rfl
/-- both sides' first of a pair of ways that may act -/
theorem first_eq {a b : Nat} {M N : Mem} (cw : CW (M.1 95) M) (hN : N.1 95 = M.1 95) (ha : (a : Int) < (M.1 95 5).toInt) (hb : (b : Int) < (M.1 95 5).toInt) : ∃ V : Int, (V = -1 ∨ (0 ≤ V ∧ V < 18)) ∧ wpO (F_Pair_look (iI (a : Int)) (iI (b : Int)) ((M.1 1 1).toInt64) ((M.1 1 2).toInt64) M) (fun L => F_Pair_firstGain L = some (iI V)) ∧ wpO (F_MO_firstOf (iI (a : Int)) (iI (b : Int)) (plM N)) (fun r => r.1 = iI V ∧ r.2.1 94 0 = N.1 94 0) := by
  have hR : RIW (N.1 95) := by
    rw [hN]
    exact cw.2.1
  have hA := cw.wk ha
  have hB := cw.wk hb
  obtain ⟨q1, q2, p1, pq, q9⟩ := cw.pq
  obtain ⟨L, eL, hL⟩ := C_look (p := ((M.1 95) 1).toInt) (q := ((M.1 95) 2).toInt) cw ha hb p1 pq (by omega)
  refine ⟨fgR (M.1 95) a b ((M.1 95) 1).toInt ((M.1 95) 2).toInt (uM 35 L) (dM 35 L) 18 0, fgR_b 18 0 (by omega), ⟨L, ?_, C_firstGain ha hb p1 pq (by omega) hL⟩, ?_⟩
  · rw [q1, q2]
    exact eL
  · unfold F_MO_firstOf
    refine wp_bind (N_worthsP hR (by rw [hN]; exact ha) (by rw [hN]; exact hb)) (fun Q hQ => ?_)
    obtain ⟨f1, f2⟩ := hQ
    have e95 : Q.1 95 = M.1 95 := f1.w95.trans hN
    have hP := (f1.1 94 19 (by decide)).trans (plM_P N)
    have hQ := (f1.1 94 20 (by decide)).trans (plM_Q N)
    have z0 : Q.1 94 0 = N.1 94 0 := by
      rw [f1.1 94 0 (by decide)]
      show (plM N).1 94 0 = _
      unfold plM
      rw [mI_ix (by decide), mI_ix (by decide)]
    have hR2 := cw.2.1
    rw [hN] at hP hQ f2
    rw [← e95] at hP hQ f2 hL p1 pq q9 ha hb hA hB hR2 ⊢
    rw [R_firstL hR2 ha hb hP hQ p1 pq (by omega) hL (fun t pe hp ht => hL.same hA hB p1 pq ht hp (f2 t pe ht hp))]
    exact wp_some ⟨rfl, z0⟩
theorem V_first {x1 x2 : Int32} {M : Mem} (h : RY M) : wpO (F_LAW_first x1 x2 M) (fun r1 => wpO (F_MO_first x1 x2 r1.2) (fun r2 => RY r2.2 ∧ r2.2.1 94 0 = r1.1 ∧ (r1.1 = 0 → r2.2.2 121 0 = r2.1.toInt64))) := by
  refine wp2 (B := fun r1 r2 => r2.2.1 94 0 = r1.1 ∧ (r1.1 = 0 → r2.2.2 121 0 = r2.1.toInt64)) (Y_first h) (fun r1 r2 e1 e2 => ?_) (fun r s p q => ⟨p, q⟩)
  have f1 := wpO_of (T_LAW_first x1 x2 M) e1
  have f2 := Q_MO_first x1 x2 r1.2 r2 e2
  have cw := h.cw
  have e95 : r1.2.1 95 = M.1 95 := funext (f1 95 (by omega)).1
  have e121 : r2.2.2 121 0 = r1.2.2 121 0 := (f2 121 0 (by omega)).2
  have hN : (mSI r1.2 94 0 0).1 95 = M.1 95 := e95
  have n0 : (mSI r1.2 94 0 0).1 94 0 = 0 := mI_hit
  unfold F_LAW_first F_KW_first at e1
  unfold F_MO_first at e2
  generalize mSI r1.2 94 0 0 = N at *
  rw [R_ways (J := fun s => F_MO_first_j27 x1 x2 s N) hN cw.2.1] at e2
  by_cases c : wOk2 (M.1 95) x1 x2
  · rw [decide_eq_true c] at e2
    obtain ⟨a, rfl, ha⟩ := wOk_nat c.1
    obtain ⟨b, rfl, hb⟩ := wOk_nat c.2
    change F_MO_first_j27 (iI (a : Int)) (iI (b : Int)) false N = some r2 at e2
    unfold F_MO_first_j27 at e2
    rw [S_throws_f, bs, if_f1, R_areB hN cw.2.1 ha hb, bs] at e2
    rw [cw.pair ha hb] at e1
    cases hq : (barW (M.1 95) a || barW (M.1 95) b) with
    | true =>
      rw [hq, if_pos rfl, xb_inl, hb_inl, if_neg (by decide), if_pos rfl] at e1
      rw [hq, S_throws_t, bs, if_pos rfl] at e2
      cases e1
      cases e2
      exact ⟨mI_hit, fun w => absurd w nz2⟩
    | false =>
      rw [hq, if_neg (by decide), xb_inr] at e1
      rw [hq, S_throws_f, bs, if_f1, N_plain, bs] at e2
      obtain ⟨V, hV, ⟨L, eL, eF⟩, ⟨r, er, er1, er0⟩⟩ := first_eq cw hN ha hb
      rw [eL, bs, eF, bs, hb_inr, if_pos ib01] at e1
      rw [er, bs] at e2
      cases e1
      cases e2
      refine ⟨?_, fun _ => ?_⟩
      · show r.2.1 94 0 = 0
        rw [er0, n0]
      · rw [e121]
        show (mSL L 121 ((0 : Int32)).toNatClampNeg (iI V).toInt64).2 121 0 = r.1.toInt64
        rw [tn0, mL_hit, er1]
  · rw [decide_eq_false c] at e2
    rw [cw.pair_no c, xb_inl, hb_inl, if_pos rfl] at e1
    change F_MO_first_j27 x1 x2 true N = some r2 at e2
    unfold F_MO_first_j27 at e2
    rw [S_throws_t, bs, if_pos rfl] at e2
    cases e1
    cases e2
    exact ⟨mI_hit, fun w => absurd w nz1⟩
theorem V_hold {x1 x2 : Int32} {M : Mem} (h : RY M) : wpO (F_LAW_hold x1 x2 M) (fun r1 => wpO (F_MO_hold x1 x2 r1.2) (fun r2 => RY r2.2 ∧ r2.2.1 94 0 = r1.1 ∧ (r1.1 = 0 → (r2.1 = true → r2.2.2 121 0 = 1) ∧ (¬ r2.1 = true → r2.2.2 121 0 = 0)))) := by
  refine wp2 (B := fun r1 r2 => r2.2.1 94 0 = r1.1 ∧ (r1.1 = 0 → (r2.1 = true → r2.2.2 121 0 = 1) ∧ (¬ r2.1 = true → r2.2.2 121 0 = 0))) (Y_hold h) (fun r1 r2 e1 e2 => ?_) (fun r s p q => ⟨p, q⟩)
  have f1 := wpO_of (T_LAW_hold x1 x2 M) e1
  have f2 := Q_MO_hold x1 x2 r1.2 r2 e2
  have cw := h.cw
  have e95 : r1.2.1 95 = M.1 95 := funext (f1 95 (by omega)).1
  have e121 : r2.2.2 121 0 = r1.2.2 121 0 := (f2 121 0 (by omega)).2
  have hN : (mSI r1.2 94 0 0).1 95 = M.1 95 := e95
  have n0 : (mSI r1.2 94 0 0).1 94 0 = 0 := mI_hit
  unfold F_LAW_hold F_KW_hold at e1
  unfold F_MO_hold at e2
  generalize mSI r1.2 94 0 0 = N at *
  rw [R_ways (J := fun s => F_MO_hold_j27 x1 x2 s N) hN cw.2.1] at e2
  by_cases c : wOk2 (M.1 95) x1 x2
  · rw [decide_eq_true c] at e2
    obtain ⟨a, rfl, ha⟩ := wOk_nat c.1
    obtain ⟨b, rfl, hb⟩ := wOk_nat c.2
    change F_MO_hold_j27 (iI (a : Int)) (iI (b : Int)) false N = some r2 at e2
    unfold F_MO_hold_j27 at e2
    rw [S_throws_f, bs, if_f1, R_areB hN cw.2.1 ha hb, bs] at e2
    rw [cw.pair ha hb] at e1
    cases hq : (barW (M.1 95) a || barW (M.1 95) b) with
    | true =>
      rw [hq, if_pos rfl, xb_inl, hb_inl, if_neg (by decide), if_pos rfl] at e1
      rw [hq, S_throws_t, bs, if_pos rfl] at e2
      cases e1
      cases e2
      exact ⟨mI_hit, fun w => absurd w nz2⟩
    | false =>
      rw [hq, if_neg (by decide), xb_inr] at e1
      rw [hq, S_throws_f, bs, if_f1, N_plain, bs] at e2
      obtain ⟨V, hV, ⟨L, eL, eF⟩, ⟨r, er, er1, er0⟩⟩ := first_eq cw hN ha hb
      have z0 : r.2.1 94 0 = 0 := er0.trans n0
      rcases hV with rfl | ⟨v0, v1⟩
      · rw [eL, bs, eF, bs, if_pos (show iI (-1) = -1 from rfl), hb_inr, if_pos rfl, if_pos ib01] at e1
        rw [er, bs, er1, if_neg (show ¬ (0 : Int32) ≤ iI (-1) by decide)] at e2
        cases e1
        cases e2
        refine ⟨z0, fun _ => ⟨fun _ => ?_, fun w => absurd rfl w⟩⟩
        rw [e121]
        show (mSL L 121 ((0 : Int32)).toNatClampNeg 1).2 121 0 = 1
        rw [tn0, mL_hit]
      · have c1 : ¬ iI V = -1 := by
          rw [tm1, iI_eq (by omega) (by omega) (by omega) (by omega)]
          omega
        have c2 : (0 : Int32) ≤ iI V := by
          rw [show (0 : Int32) = iI 0 from rfl, iI_le (by omega) (by omega) (by omega) (by omega)]
          omega
        rw [eL, bs, eF, bs, if_neg c1, hb_inr, if_neg (by decide), if_pos ib01] at e1
        rw [er, bs, er1, if_pos c2] at e2
        cases e1
        cases e2
        refine ⟨z0, fun _ => ⟨(fun w => nomatch w), fun _ => ?_⟩⟩
        rw [e121]
        show (mSL L 121 ((0 : Int32)).toNatClampNeg 0).2 121 0 = 0
        rw [tn0, mL_hit]
  · rw [decide_eq_false c] at e2
    rw [cw.pair_no c, xb_inl, hb_inl, if_pos rfl] at e1
    change F_MO_hold_j27 x1 x2 true N = some r2 at e2
    unfold F_MO_hold_j27 at e2
    rw [S_throws_t, bs, if_pos rfl] at e2
    cases e1
    cases e2
    exact ⟨mI_hit, fun w => absurd w nz1⟩
