/-! ===== the reference's together, edge, begin ===== -/
def bthW (W : Nat → Int32) (a b s : Nat) : Int := getW W a b s 0 + getW W a b s 1
def walkB (W : Nat → Int32) (a b s : Nat) (M0 : Mem) (k : Nat) (M : Mem) : Prop :=
  (∀ j, j < k → M.1 103 (pth W a b s j) = iI (j : Int)) ∧ (∀ t, t < 9 → (∀ j, j < k → pth W a b s j ≠ t) → M.1 103 t = -1) ∧ (∀ j, j < k → M.1 102 j = iI (bthW W a b (pth W a b s j))) ∧ (∀ c j, ¬ (c = 102 ∨ c = 103) → M.1 c j = M0.1 c j) ∧ M.2 = M0.2
theorem walkB_inj {W : Nat → Int32} {a b s : Nat} {M0 M : Mem} {k : Nat} (h : walkB W a b s M0 k M) (hk : k ≤ 100) : ∀ i j, i < k → j < k → pth W a b s i = pth W a b s j → i = j := by
  intro i j hi hj e
  have h1 := h.1 i hi
  rw [e, h.1 j hj, iI_eq (by omega) (by omega) (by omega) (by omega)] at h1
  omega
theorem walkB_le {W : Nat → Int32} {a b s : Nat} {M0 M : Mem} {k : Nat} (hA : WOKW W a) (hB : WOKW W b) (hs : stW W a b s) (h : walkB W a b s M0 k M) (hk : k ≤ 100) : k ≤ 9 :=
  pig 9 k (pth W a b s) (fun i _ => st_lt hA (pth_st hA hB hs i)) (walkB_inj h hk)
theorem N_walkB {a b s : Nat} {M : Mem} (ha : a ≤ 8) (hb : b ≤ 8) (hA : WOKW (M.1 95) a) (hB : WOKW (M.1 95) b) (hs : stW (M.1 95) a b s) (h0 : ∀ t, t < 9 → M.1 103 t = -1) : wpO (iter (F_MO_bothWorth_b26 (iI (a : Int)) (iI (b : Int))) FUEL (0, iI (s : Int), M)) (fun r => ∃ k c : Nat, k ≤ 9 ∧ c < k ∧ pth (M.1 95) a b s k = pth (M.1 95) a b s c ∧ r.1 = iI (k : Int) ∧ r.2.1 = iI (pth (M.1 95) a b s k : Int) ∧ walkB (M.1 95) a b s M k r.2.2) := by
  refine wp_iterS (P := fun k z => z.1 = iI (k : Int) ∧ z.2.1 = iI (pth (M.1 95) a b s k : Int) ∧ walkB (M.1 95) a b s M k z.2.2) 9 ?_ _ _ ⟨rfl, rfl, fun j hj => absurd hj (Nat.not_lt_zero _), fun t ht _ => h0 t ht, fun j hj => absurd hj (Nat.not_lt_zero _), fun _ _ _ => rfl, rfl⟩ (FUEL_big (by decide))
  intro k z hk ⟨z1, z2, w⟩
  obtain ⟨w1, w2, w3, w4, w5⟩ := w
  have hst := pth_st hA hB hs k
  have hlt := st_lt hA hst
  have l0 : (0 : Int32) = iI 0 := rfl
  unfold F_MO_bothWorth_b26
  rw [z1, z2]
  refine wp_t (inb_iI (by omega) (by omega) (by omega)) ?_
  simp only [clN (n := pth (M.1 95) a b s k) (by omega)]
  refine wp_if (fun c => wp_some ?_) (fun c => ?_)
  · have hex : ∃ j, j < k ∧ pth (M.1 95) a b s j = pth (M.1 95) a b s k := by
      rcases Classical.em (∃ j, j < k ∧ pth (M.1 95) a b s j = pth (M.1 95) a b s k) with h | h
      · exact h
      · exfalso
        rw [w2 _ hlt (fun j hj e => h ⟨j, hj, e⟩)] at c
        exact absurd c (by decide)
    obtain ⟨j, hj, e⟩ := hex
    exact ⟨k, j, hk, hj, e.symm, rfl, rfl, w1, w2, w3, w4, w5⟩
  · have hne : ∀ j, j < k → pth (M.1 95) a b s j ≠ pth (M.1 95) a b s k := fun j hj e => by
      apply c
      rw [← e, w1 j hj, l0, iI_le] <;> omega
    have e95 : ∀ v, (mSI z.2.2 103 (pth (M.1 95) a b s k) v).1 95 = M.1 95 := fun v => by
      funext j
      rw [mI_cell (by decide)]
      exact w4 95 j (by decide)
    refine wp_t (inb_iI (by omega) (by omega) (by omega)) ?_
    have g0 := N_getsOf (p := 0) (M := mSI z.2.2 103 (pth (M.1 95) a b s k) (iI (k : Int))) ha hb (by rw [e95]; exact hA) (by rw [e95]; exact hB) (by rw [e95]; exact hst) (by decide)
    have g1 := N_getsOf (p := 1) (M := mSI z.2.2 103 (pth (M.1 95) a b s k) (iI (k : Int))) ha hb (by rw [e95]; exact hA) (by rw [e95]; exact hB) (by rw [e95]; exact hst) (by decide)
    rw [e95] at g0 g1
    refine wp_eq g0 (wp_eq g1 ?_)
    refine wp_t (inb_iI (by omega) (by omega) (by omega)) ?_
    simp only [clN (n := k) (by omega)]
    rw [iI_add]
    have f95 : ∀ v u, (mSI (mSI z.2.2 103 (pth (M.1 95) a b s k) v) 102 k u).1 95 = M.1 95 := fun v u => by
      funext j
      rw [mI_cell (by decide), e95]
    rw [N_nextOf (M := mSI (mSI z.2.2 103 (pth (M.1 95) a b s k) (iI (k : Int))) 102 k (iI (getW (M.1 95) a b (pth (M.1 95) a b s k) 0 + getW (M.1 95) a b (pth (M.1 95) a b s k) 1))) ha hb (by rw [f95]; exact hA) (by rw [f95]; exact hB) (by rw [f95]; exact hst), bs, f95]
    have wn : walkB (M.1 95) a b s M (k + 1) (mSI (mSI z.2.2 103 (pth (M.1 95) a b s k) (iI (k : Int))) 102 k (iI (getW (M.1 95) a b (pth (M.1 95) a b s k) 0 + getW (M.1 95) a b (pth (M.1 95) a b s k) 1))) := by
      refine ⟨fun j hj => ?_, fun t ht hall => ?_, fun j hj => ?_, fun x j hx => ?_, w5⟩
      · rw [mI_cell (by decide)]
        by_cases q : j = k
        · rw [q, mI_hit]
        · rw [mI_ix (hne j (by omega))]
          exact w1 j (by omega)
      · rw [mI_cell (by decide), mI_ix (fun q => hall k (by omega) q.symm)]
        exact w2 t ht (fun j hj => hall j (by omega))
      · by_cases q : j = k
        · rw [q, mI_hit]
          rfl
        · rw [mI_ix q, mI_cell (by decide)]
          exact w3 j (by omega)
      · rw [mI_cell (fun q => hx (Or.inl q)), mI_cell (fun q => hx (Or.inr q))]
        exact w4 x j hx
    have hk9 := walkB_le hA hB hs wn (by omega)
    exact wp_some ⟨by omega, iI_succ k, rfl, wn⟩
/-- what a pair's worth to both is told as -/
def bOK (W : Nat → Int32) (a b : Nat) (P q : Int) (M : Mem) : Prop :=
  ∃ days c : Nat, c < days ∧ days ≤ 9 ∧ pth W a b 0 days = pth W a b 0 c ∧ M.2 94 15 = lI (worthW (fun j => bthW W a b (pth W a b 0 j)) P q days c).1 ∧ M.2 94 16 = lI (worthW (fun j => bthW W a b (pth W a b 0 j)) P q days c).2 ∧ fb 198 q (worthW (fun j => bthW W a b (pth W a b 0 j)) P q days c) ∧ (worthW (fun j => bthW W a b (pth W a b 0 j)) P q days c).2 ≤ q ^ 9
theorem N_bothWorth {a b : Nat} {P q : Int} {M : Mem} (ha : a ≤ 8) (hb : b ≤ 8) (hA : WOKW (M.1 95) a) (hB : WOKW (M.1 95) b) (hbr : brOK (M.1 95)) (hP : M.1 94 19 = iI P) (hQ : M.1 94 20 = iI q) (p1 : 1 ≤ P) (p2 : P < q) (p3 : q ≤ 12) : wpO (F_MO_bothWorth (iI (a : Int)) (iI (b : Int)) M) (fun M' => bOK (M.1 95) a b P q M') := by
  have hs : stW (M.1 95) a b 0 := ⟨by have := hA.moK; omega, by have := hB.moK; omega⟩
  unfold F_MO_bothWorth F_MO_bothWorth_l2
  refine wp_bind (Ψ := fun M1 => (∀ t, t < 9 → M1.1 103 t = -1) ∧ (∀ c j, c ≠ 103 → M1.1 c j = M.1 c j) ∧ M1.2 = M.2) ?_ ?_
  · refine wp_iterS (P := fun k z => z.1 = iI (k : Int) ∧ (∀ t, t < k → z.2.1 103 t = -1) ∧ (∀ c j, c ≠ 103 → z.2.1 c j = M.1 c j) ∧ z.2.2 = M.2) 9 ?_ _ _ ⟨rfl, fun t ht => absurd ht (Nat.not_lt_zero _), fun _ _ _ => rfl, rfl⟩ (FUEL_big (by decide))
    intro k z hk ⟨z1, z2, z3, z4⟩
    unfold F_MO_bothWorth_b2
    rw [z1]
    rcases Nat.lt_or_ge k 9 with hlt | hge
    · refine wp_f (by rw [l32_9, iI_le] <;> omega) (wp_t (inb_iI (by omega) (by omega) (by omega)) (wp_some ⟨hlt, iI_succ k, fun t ht => ?_, fun c j hc => ?_, z4⟩))
      · show (mSI z.2 103 _ _).1 103 t = -1
        simp only [clN (n := k) (by omega)]
        by_cases q : t = k
        · rw [q, mI_hit]
        · rw [mI_ix q]
          exact z2 t (by omega)
      · show (mSI z.2 103 _ _).1 c j = _
        rw [mI_cell hc]
        exact z3 c j hc
    · have : k = 9 := by omega
      subst this
      exact wp_t (by decide) (wp_some ⟨z2, z3, z4⟩)
  · intro M1 ⟨m1, m2, m3⟩
    have e95 : M1.1 95 = M.1 95 := funext fun j => m2 95 j (by decide)
    unfold F_MO_bothWorth_l26
    refine wp_bind (N_walkB (s := 0) (M := M1) ha hb (by rw [e95]; exact hA) (by rw [e95]; exact hB) (by rw [e95]; exact hs) m1) ?_
    rintro ⟨r1, r2, M2⟩ ⟨k, c, k9, hck, hpp, h1, h2, h3⟩
    dsimp only at h1 h2 h3
    rw [e95] at hpp h2 h3
    subst h1
    subst h2
    obtain ⟨w1, w2, w3, w4, w5⟩ := h3
    unfold F_MO_bothWorth_j85
    dsimp only
    have hlt := st_lt hA (pth_st hA hB hs k)
    refine wp_t (inb_iI (by omega) (by omega) (by omega)) ?_
    simp only [clN (n := pth (M.1 95) a b 0 k) (by omega)]
    rw [hpp, w1 c hck]
    have hg : ∀ j, (-198 : Int) ≤ bthW (M.1 95) a b (pth (M.1 95) a b 0 j) ∧ bthW (M.1 95) a b (pth (M.1 95) a b 0 j) ≤ 198 := fun j => by
      have q0 := getW_le (p := 0) hbr hA hB (pth_st hA hB hs j) (by decide)
      have q1 := getW_le (p := 1) hbr hA hB (pth_st hA hB hs j) (by decide)
      unfold bthW
      omega
    refine wp_bind (N_worthOf (g := fun j => bthW (M.1 95) a b (pth (M.1 95) a b 0 j)) (G := 198) (M := M2) p1 p2 p3 (by decide) (by decide) hg k9 hck (by rw [w4 94 19 (by decide), m2 94 19 (by decide), hP]) (by rw [w4 94 20 (by decide), m2 94 20 (by decide), hQ]) w3) ?_
    intro M3 ⟨n1, n2, n3, n4, n5, n6⟩
    exact wp_some ⟨k, c, hck, k9, hpp, n3, n4, n5, Int.le_trans n6 (q_pow_le (by omega) k9)⟩
theorem bOK.val {W : Nat → Int32} {a b : Nat} {P q : Int} {M : Mem} (h : bOK W a b P q M) (hq : 2 ≤ q) (hq2 : q ≤ 12) : ∃ u d : Int, M.2 94 15 = lI u ∧ M.2 94 16 = lI d ∧ -4611686018427387904 < u ∧ u < 4611686018427387904 ∧ 0 < d ∧ d < 4611686018427387904 := by
  obtain ⟨dd, c, k1, k2, k3, k4, k5, ⟨k6, k7, k8⟩, k9⟩ := h
  have h1 := (pow_le_pow12 (show 0 ≤ q by omega) hq2 9).2
  have h2 := pow12_le 9 (by decide)
  have := gq_bound (G := 198) (by decide) (by decide) (show 0 ≤ q by omega) hq2 (show 0 ≤ (worthW (fun j => bthW W a b (pth W a b 0 j)) P q dd c).2 by omega) (by omega)
  exact ⟨_, _, k4, k5, by omega, by omega, k6, by omega⟩
/-- what stands as the best of all pairs -/
def tgS (z : Int32 × Int64 × Int64 × Mem) : Prop := ∃ u d : Int, z.2.1 = lI u ∧ z.2.2.1 = lI d ∧ -4611686018427387904 < u ∧ u < 4611686018427387904 ∧ 0 < d ∧ d < 4611686018427387904
theorem E_together {M : Mem} (h : RIW (M.1 95)) : wpO (F_MO_together M) (fun _ => True) := by
  unfold F_MO_together
  rw [N_plain, bs]
  generalize hN0 : plM (mSI M 94 0 0) = N0
  have n95 : N0.1 95 = M.1 95 := by rw [← hN0]; rfl
  have nP : N0.1 94 19 = iI ((M.1 95 1).toInt) := by rw [← hN0]; exact plM_P _
  have nQ : N0.1 94 20 = iI ((M.1 95 2).toInt) := by rw [← hN0]; exact plM_Q _
  obtain ⟨q1, q2, q3⟩ := h.pq
  have r5 := h.ways
  -- what the loops keep
  have core : ∀ (N : Mem), N.1 95 = M.1 95 → N.1 94 19 = N0.1 94 19 → N.1 94 20 = N0.1 94 20 → ∀ (a b : Nat), (a : Int) < (M.1 95 5).toInt → (b : Int) < (M.1 95 5).toInt → wpO (F_MO_firstOf (iI (a : Int)) (iI (b : Int)) N) (fun r => frW N r.2) := by
    intro N h95 hp hq a b ha hb
    exact wp_mono (N_firstOf (M := N) (h.w8 ha) (h.w8 hb) (by rw [h95]; exact h.way a ha) (by rw [h95]; exact h.way b hb) (by rw [h95]; exact h.br) (by rw [h95]; exact h.acts) (hp.trans nP) (hq.trans nQ) q1 q2 q3) (fun r hr => hr.1)
  unfold F_MO_together_l19
  refine wp_bind (Ψ := fun _ => True) ?_ (fun r _ => wp_some trivial)
  refine wp_iterS (P := fun k z => z.2.2.2.1 = iI (k : Int) ∧ (z.2.2.2.2.1 95 = M.1 95 ∧ z.2.2.2.2.1 94 19 = N0.1 94 19 ∧ z.2.2.2.2.1 94 20 = N0.1 94 20) ∧ ∃ u d : Int, z.2.1 = lI u ∧ z.2.2.1 = lI d ∧ -4611686018427387904 < u ∧ u < 4611686018427387904 ∧ 0 < d ∧ d < 4611686018427387904) 8 ?_ _ _ ⟨rfl, ⟨n95, rfl, rfl⟩, 0, 1, rfl, rfl, by decide, by decide, by decide, by decide⟩ (FUEL_big (by decide))
  rintro k ⟨z1, z2, z3, z4, N⟩ hk ⟨e4, ⟨m1, m2, m3⟩, u, d, e2, e3, hud⟩
  dsimp only at e4 m1 m2 m3 e2 e3
  subst e4
  subst e2
  subst e3
  unfold F_MO_together_b19
  dsimp only
  refine wp_t ib5 ?_
  simp only [tn5]
  rw [m1]
  refine wp_if (fun _ => wp_some trivial) (fun c => ?_)
  rw [le_i, iI_toInt (by omega) (by omega)] at c
  unfold F_MO_together_l33
  refine wp_bind (Ψ := fun r => (r.2.2.2.1 95 = M.1 95 ∧ r.2.2.2.1 94 19 = N0.1 94 19 ∧ r.2.2.2.1 94 20 = N0.1 94 20) ∧ ∃ u d : Int, r.2.1 = lI u ∧ r.2.2.1 = lI d ∧ -4611686018427387904 < u ∧ u < 4611686018427387904 ∧ 0 < d ∧ d < 4611686018427387904) ?_ (fun r hr => wp_some ⟨by omega, iI_succ k, hr⟩)
  refine wp_iterS (P := fun j z => z.2.2.2.1 = iI (j : Int) ∧ (z.2.2.2.2.1 95 = M.1 95 ∧ z.2.2.2.2.1 94 19 = N0.1 94 19 ∧ z.2.2.2.2.1 94 20 = N0.1 94 20) ∧ ∃ u d : Int, z.2.1 = lI u ∧ z.2.2.1 = lI d ∧ -4611686018427387904 < u ∧ u < 4611686018427387904 ∧ 0 < d ∧ d < 4611686018427387904) 8 ?_ _ _ ⟨rfl, ⟨m1, m2, m3⟩, u, d, rfl, rfl, hud⟩ (FUEL_big (by decide))
  rintro j ⟨y1, y2, y3, y4, N2⟩ hj ⟨e4, ⟨o1, o2, o3⟩, u2, d2, e2, e3, hud2⟩
  dsimp only at e4 o1 o2 o3 e2 e3
  subst e4
  subst e2
  subst e3
  unfold F_MO_together_b33
  dsimp only
  refine wp_t ib5 ?_
  simp only [tn5]
  rw [o1]
  refine wp_if (fun _ => wp_some ⟨⟨o1, o2, o3⟩, u2, d2, rfl, rfl, hud2⟩) (fun c2 => ?_)
  rw [le_i, iI_toInt (by omega) (by omega)] at c2
  have ha : (k : Int) < (M.1 95 5).toInt := by omega
  have hb : (j : Int) < (M.1 95 5).toInt := by omega
  rw [N_areBarred (M := N2) (h.w8 ha) (h.w8 hb) (by rw [o1]; exact h.way k ha) (by rw [o1]; exact h.way j hb), bs]
  refine wp_if (fun _ => wp_some ⟨by omega, iI_succ j, ⟨o1, o2, o3⟩, u2, d2, rfl, rfl, hud2⟩) (fun _ => ?_)
  refine wp_bind (core N2 o1 o2 o3 k j ha hb) (fun r3 f3 => ?_)
  have t1 : r3.2.1 95 = M.1 95 := f3.w95.trans o1
  have t2 : r3.2.1 94 19 = N0.1 94 19 := (f3.1 94 19 (by decide)).trans o2
  have t3 : r3.2.1 94 20 = N0.1 94 20 := (f3.1 94 20 (by decide)).trans o3
  refine wp_if (fun _ => ?_) (fun _ => wp_some ⟨by omega, iI_succ j, ⟨t1, t2, t3⟩, u2, d2, rfl, rfl, hud2⟩)
  refine wp_bind (wp_q (N_bothWorth (M := r3.2) (P := (M.1 95 1).toInt) (q := (M.1 95 2).toInt) (h.w8 ha) (h.w8 hb) (by rw [t1]; exact h.way k ha) (by rw [t1]; exact h.way j hb) (by rw [t1]; exact h.br) (t2.trans nP) (t3.trans nQ) q1 q2 q3) (Q_MO_bothWorth _ _ _)) (fun r4 h4 => ?_)
  obtain ⟨b4, f4⟩ := h4
  obtain ⟨u3, d3, x1, x2, x3⟩ := b4.val (by omega) q3
  have v1 : r4.1 95 = M.1 95 := (funext fun i => (f4 95 i (by omega)).1).trans t1
  have v2 : r4.1 94 19 = N0.1 94 19 := ((f4 94 19 (by omega)).1).trans t2
  have v3 : r4.1 94 20 = N0.1 94 20 := ((f4 94 20 (by omega)).1).trans t3
  have fin : wpO (F_MO_together_j101 (iI (k : Int)) (iI (j : Int)) r4) (sumP (fun s' => j < 8 ∧ (s'.2.2.2.1 = iI ((j + 1 : Nat) : Int) ∧ (s'.2.2.2.2.1 95 = M.1 95 ∧ s'.2.2.2.2.1 94 19 = N0.1 94 19 ∧ s'.2.2.2.2.1 94 20 = N0.1 94 20) ∧ ∃ u d : Int, s'.2.1 = lI u ∧ s'.2.2.1 = lI d ∧ -4611686018427387904 < u ∧ u < 4611686018427387904 ∧ 0 < d ∧ d < 4611686018427387904)) (fun r => (r.2.2.2.1 95 = M.1 95 ∧ r.2.2.2.1 94 19 = N0.1 94 19 ∧ r.2.2.2.1 94 20 = N0.1 94 20) ∧ ∃ u d : Int, r.2.1 = lI u ∧ r.2.2.1 = lI d ∧ -4611686018427387904 < u ∧ u < 4611686018427387904 ∧ 0 < d ∧ d < 4611686018427387904)) := by
    unfold F_MO_together_j101
    exact wp_some ⟨by omega, iI_succ j, ⟨v1, v2, v3⟩, u3, d3, x1, x2, x3⟩
  refine wp_if (fun _ => fin) (fun _ => ?_)
  rw [x1, x2]
  obtain ⟨x4, x5, x6, x7⟩ := x3
  obtain ⟨y4, y5, y6, y7⟩ := hud2
  rw [N_compared x4 x5 x6 x7 y4 y5 y6 y7, bs]
  exact wp_if (fun _ => fin) (fun _ => wp_some ⟨by omega, iI_succ j, ⟨v1, v2, v3⟩, u2, d2, rfl, rfl, y4, y5, y6, y7⟩)
/-! edge -/
theorem E_edge {x1 x2 x3 : Int32} {M : Mem} (h : RIW (M.1 95)) : wpO (F_MO_edge x1 x2 x3 M) (fun _ => True) := by
  have h0 : RIW ((mSI M 94 0 0).1 95) := h
  unfold F_MO_edge
  refine wp_ways (J := fun s => F_MO_edge_j27 x1 x2 x3 s (mSI M 94 0 0)) h0 ?_ (fun a b e1 e2 ha hb => ?_)
  · show wpO (F_MO_edge_j27 x1 x2 x3 true (mSI M 94 0 0)) _
    unfold F_MO_edge_j27
    exact wp_thr (fun _ => thr_t (wp_some trivial)) (fun q => nomatch q)
  · show wpO (F_MO_edge_j27 x1 x2 x3 false (mSI M 94 0 0)) _
    subst e1
    subst e2
    unfold F_MO_edge_j27
    refine wp_thr (fun q => nomatch q) (fun _ => thr_f ?_)
    dsimp only
    have j50 : ∀ s : Bool, (s = false → x3.toInt ≤ 12) → wpO (F_MO_edge_j50 (iI (a : Int)) (iI (b : Int)) x3 s (mSI M 94 0 0)) (fun _ => True) := by
      intro s hs
      unfold F_MO_edge_j50
      refine wp_thr (fun _ => thr_t (wp_some trivial)) (fun q => thr_f ?_)
      have hx := hs q
      dsimp only
      rw [N_areB h0 ha hb, bs]
      refine wp_thr (fun _ => thr_t (wp_some trivial)) (fun _ => thr_f ?_)
      dsimp only
      unfold F_MO_edge_l82
      refine wp_bind (Ψ := fun _ => True) ?_ (fun r _ => by
        unfold F_MO_edge_j172
        exact wp_if (fun _ => wp_some trivial) (fun _ => wp_some trivial))
      refine wp_iterS (P := fun k z => z.2.2.1 = iI ((k + 2 : Nat) : Int) ∧ z.2.2.2.1 95 = M.1 95) 11 ?_ _ _ ⟨rfl, rfl⟩ (FUEL_big (by decide))
      rintro k ⟨z1, z2, z3, N⟩ hk ⟨e3, m1⟩
      dsimp only at e3 m1
      subst e3
      unfold F_MO_edge_b82
      dsimp only
      refine wp_if (fun _ => wp_some trivial) (fun c => ?_)
      rw [lt_i, iI_toInt (by omega) (by omega)] at c
      unfold F_MO_edge_l91
      refine wp_bind (Ψ := fun r => r.2.2.1 95 = M.1 95) ?_ (fun r hr => wp_some ⟨by omega, iI_succ (k + 2), hr⟩)
      refine wp_iterS (P := fun j z => z.2.2.1 = iI ((j + 1 : Nat) : Int) ∧ z.2.2.2.1 95 = M.1 95) 12 ?_ _ _ ⟨rfl, m1⟩ (FUEL_big (by decide))
      rintro j ⟨y1, y2, y3, N2⟩ hj ⟨e3, o1⟩
      dsimp only at e3 o1
      subst e3
      unfold F_MO_edge_b91
      dsimp only
      refine wp_if (fun _ => wp_some o1) (fun c2 => ?_)
      rw [iI_le (by omega) (by omega) (by omega) (by omega)] at c2
      rw [iI_l (by omega) (by omega), iI_l (by omega) (by omega), N_common (by omega) (by omega) (by omega) (by omega), bs]
      have next : ∀ (v1 v2 : Int32) (N3 : Mem), N3.1 95 = M.1 95 → wpO (some (Sum.inl (v1, v2, iI ((j + 1 : Nat) : Int) + 1, N3)) : Option ((Int32 × Int32 × Int32 × Mem) ⊕ (Int32 × Int32 × Mem))) (sumP (fun s' => j < 12 ∧ (s'.2.2.1 = iI ((j + 1 + 1 : Nat) : Int) ∧ s'.2.2.2.1 95 = M.1 95)) (fun r => r.2.2.1 95 = M.1 95)) := fun v1 v2 N3 h3 => wp_some ⟨by omega, iI_succ (j + 1), h3⟩
      refine wp_if (fun _ => next _ _ _ o1) (fun _ => wp_if (fun _ => ?_) (fun _ => next _ _ _ o1))
      refine wp_bind (N_firstOf (M := mSI (mSI N2 94 19 (iI ((j + 1 : Nat) : Int))) 94 20 (iI ((k + 2 : Nat) : Int))) (P := ((j + 1 : Nat) : Int)) (q := ((k + 2 : Nat) : Int)) (h.w8 ha) (h.w8 hb) (by show WOKW (N2.1 95) a; rw [o1]; exact h.way a ha) (by show WOKW (N2.1 95) b; rw [o1]; exact h.way b hb) (by show brOK (N2.1 95); rw [o1]; exact h.br) (by show 2 ≤ (N2.1 95 0).toInt ∧ (N2.1 95 0).toInt ≤ 3; rw [o1]; exact h.acts) (by rw [mI_ix (by decide), mI_hit]) (by rw [mI_hit]) (by omega) (by omega) (by omega)) (fun r8 h8 => ?_)
      have v1 : r8.2.1 95 = M.1 95 := h8.1.w95.trans o1
      exact wp_if (fun _ => next _ _ _ v1) (fun _ => next _ _ _ v1)
    exact wp_within (fun q1 q2 => wp_tt (j50 false (fun _ => by
      rw [le_i] at q2
      have : (12 : Int32).toInt = 12 := by decide
      omega))) (fun _ => wp_ff (j50 true (fun q => nomatch q)))
/-! begin: the cost is found below 2000000 -/
theorem begin_cost {u d U D c : Int} (hd : 0 < d) (hD : 0 < D) (h1 : -(99 * 12 * d) ≤ u) (h2 : U ≤ 99 * 12 * D) (hc : 2376 ≤ c) : 0 ≤ (u + c * d) * D - U * d := by
  have e : (u + c * d) * D - U * d = (u + 1188 * d) * D + (c - 2376) * (d * D) + (1188 * D - U) * d := by
    simp only [Int.add_mul, Int.sub_mul, Int.mul_assoc, Int.mul_comm D d]
    omega
  have a1 : 0 ≤ (u + 1188 * d) * D := Int.mul_nonneg (by omega) (by omega)
  have a2 : 0 ≤ (c - 2376) * (d * D) := Int.mul_nonneg (by omega) (Int.mul_nonneg (by omega) (by omega))
  have a3 : 0 ≤ (1188 * D - U) * d := Int.mul_nonneg (by omega) (by omega)
  omega
theorem fb99 {q u d : Int} (h0 : 0 ≤ q) (h : fb 99 q (u, d)) (hq : q ≤ 12) : 0 < d ∧ -(99 * 12 * d) ≤ u ∧ u ≤ 99 * 12 * d := by
  obtain ⟨h1, h2, h3⟩ := h
  dsimp only at h1 h2 h3
  have e : 99 * q * d ≤ 99 * 12 * d := Int.mul_le_mul_of_nonneg_right (by omega) (by omega)
  omega
theorem E_begin {x1 x2 : Int32} {M : Mem} (h : RIW (M.1 95)) : wpO (F_MO_begin x1 x2 M) (fun _ => True) := by
  have h0 : RIW ((mSI M 94 0 0).1 95) := h
  unfold F_MO_begin
  refine wp_ways (J := fun s => F_MO_begin_j27 x1 x2 s (mSI M 94 0 0)) h0 ?_ (fun a b e1 e2 ha hb => ?_)
  · show wpO (F_MO_begin_j27 x1 x2 true (mSI M 94 0 0)) _
    unfold F_MO_begin_j27
    exact wp_thr (fun _ => thr_t (wp_some trivial)) (fun q => nomatch q)
  · show wpO (F_MO_begin_j27 x1 x2 false (mSI M 94 0 0)) _
    subst e1
    subst e2
    unfold F_MO_begin_j27
    refine wp_thr (fun q => nomatch q) (fun _ => thr_f ?_)
    dsimp only
    rw [N_areB h0 ha hb, bs]
    refine wp_thr (fun _ => thr_t (wp_some trivial)) (fun _ => thr_f ?_)
    dsimp only
    rw [N_plain, bs]
    refine wp_bind (N_worthsP h0 ha hb) (fun N hN => ?_)
    have hN1 := hN.1
    have hN2 : ∀ s p, stW (M.1 95) a b s → p < 2 → wOK (M.1 95) a b (M.1 95 1).toInt (M.1 95 2).toInt N s p := hN.2
    have e95 : N.1 95 = M.1 95 := hN1.w95
    have hA := h.way a ha
    have hB := h.way b hb
    obtain ⟨q1, q2, q3⟩ := h.pq
    have s0 : stW (M.1 95) a b 0 := ⟨by have := hA.moK; omega, by have := hB.moK; omega⟩
    have val : ∀ s p : Nat, stW (M.1 95) a b s → p < 2 → ∃ u d : Int, N.2 104 (2 * s + p) = lI u ∧ N.2 105 (2 * s + p) = lI d ∧ 0 < d ∧ d ≤ 5159780352 ∧ -(99 * 12 * d) ≤ u ∧ u ≤ 99 * 12 * d := by
      intro s p hs hp
      obtain ⟨u, d, v1, v2, v3, v4⟩ := (hN2 s p hs hp).val (by omega) q3
      obtain ⟨w1, w2, w3⟩ := fb99 (by omega) v3 q3
      exact ⟨u, d, v1, v2, w1, v4, w2, w3⟩
    unfold F_MO_begin_l68
    refine wp_bind (Ψ := fun _ => True) ?_ (fun r _ => wp_some trivial)
    refine wp_iterS (P := fun k z => z.2.2 = iI (k : Int) ∧ (∃ c : Nat, z.1 = iI (c : Int) ∧ c ≤ 2376) ∧ ∃ s : Nat, z.2.1 = iI (s : Int) ∧ stW (M.1 95) a b s) 9 ?_ _ _ ⟨rfl, ⟨0, rfl, by decide⟩, 0, rfl, s0⟩ (FUEL_big (by decide))
    rintro k ⟨z1, z2, z3⟩ hk ⟨e3, ⟨c, e1, hc⟩, s, e2, hs⟩
    dsimp only at e1 e2 e3
    subst e1
    subst e2
    subst e3
    have s9 := st_lt hA hs
    unfold F_MO_begin_b68
    dsimp only
    refine wp_if (fun _ => wp_some trivial) (fun c9 => ?_)
    rw [l32_9, iI_le (by omega) (by omega) (by omega) (by omega)] at c9
    unfold F_MO_begin_l78
    refine wp_bind (Ψ := fun r => ∃ c : Nat, r = iI (c : Int) ∧ c ≤ 2376) ?_ (fun r hr => ?_)
    · refine wp_iterS (P := fun p z => z.2 = iI (p : Int) ∧ ∃ c : Nat, z.1 = iI (c : Int) ∧ c ≤ 2376) 2 ?_ _ _ ⟨rfl, c, rfl, hc⟩ (FUEL_big (by decide))
      rintro p ⟨y1, y2⟩ hp ⟨e2, c2, e1, hc2⟩
      dsimp only at e1 e2
      subst e1
      subst e2
      unfold F_MO_begin_b78
      dsimp only
      refine wp_if (fun _ => wp_some ⟨c2, rfl, hc2⟩) (fun c3 => ?_)
      rw [l32_2, iI_le (by omega) (by omega) (by omega) (by omega)] at c3
      have e : (2 * iI (s : Int)) + iI (p : Int) = iI ((2 * s + p : Nat) : Int) := by
        rw [l32_2, iI_mul, iI_add]
        rfl
      rw [e]
      refine wp_t (inb_iI (by omega) (by omega) (by omega)) (wp_t (inb_iI (by omega) (by omega) (by omega)) ?_)
      simp only [clN (n := 2 * s + p) (by omega)]
      obtain ⟨u, d, v1, v2, v3, v4, v5, v6⟩ := val s p hs (by omega)
      obtain ⟨U, D, V1, V2, V3, V4, V5, V6⟩ := val 0 p s0 (by omega)
      rw [v1, v2]
      unfold F_MO_begin_l112
      refine wp_bind (Ψ := fun r => ∃ c : Nat, r = iI (c : Int) ∧ c ≤ 2376) ?_ (fun r hr => wp_some ⟨by omega, iI_succ p, hr⟩)
      refine wp_iterS (P := fun j z => ∃ c : Nat, z = iI (c : Int) ∧ c ≤ 2376 ∧ c2 + j = c) 2376 ?_ _ _ ⟨c2, rfl, hc2, rfl⟩ (FUEL_big (by decide))
      rintro j z hj ⟨c4, e4, hc4, hjc⟩
      subst e4
      unfold F_MO_begin_b112
      refine wp_t (inb_iI (by omega) (by omega) (by omega)) (wp_t (inb_iI (by omega) (by omega) (by omega)) ?_)
      have ep : 2 * 0 + p = p := by omega
      rw [ep] at V1 V2
      simp only [clN (n := p) (by omega)]
      rw [V1, V2, iI_l (by omega) (by omega), lI_mul, lI_add]
      have m1 : 0 ≤ (c4 : Int) * d := Int.mul_nonneg (by omega) (by omega)
      have m2 : (c4 : Int) * d ≤ 2376 * d := Int.mul_le_mul_of_nonneg_right (by omega) (by omega)
      rw [N_compared (by omega) (by omega) v3 (by omega) (by omega) (by omega) V3 (by omega), bs]
      refine wp_if (fun _ => wp_some ⟨c4, rfl, hc4⟩) (fun cn => ?_)
      have hlt : c4 < 2376 := by
        rcases Nat.lt_or_ge c4 2376 with hq | hq
        · exact hq
        · exfalso
          apply cn
          have hb2 := begin_cost (c := (c4 : Int)) v3 V3 v5 V6 (by omega)
          rw [le_i, li0]
          generalize hX : (u + (c4 : Int) * d) * D - U * d = X at *
          rcases Int.lt_or_eq_of_le hb2 with q | q
          · rw [sgn_of.1 q]
            decide
          · rw [← q]
            decide
      exact wp_some ⟨by omega, c4 + 1, iI_succ c4, by omega, by omega⟩
    · obtain ⟨c5, rfl, hc5⟩ := hr
      unfold F_MO_begin_j154
      have hnx := N_nextOf (M := N) (s := s) (h.w8 ha) (h.w8 hb) (by rw [e95]; exact hA) (by rw [e95]; exact hB) (by rw [e95]; exact hs)
      rw [e95] at hnx
      rw [hnx, bs]
      exact wp_some ⟨by omega, iI_succ k, ⟨c5, rfl, hc5⟩, _, rfl, nx_st hA hB hs⟩
