/-! ===== the reference's grow ===== -/
theorem RIW.keep {W W' : Nat → Int32} (h : RIW W) (he : ∀ j, (j < 131 ∨ 152 ≤ j) → W' j = W j) : RIW W' := by
  have r5 := h.ways
  have r8 := h.vilN
  refine ⟨?_, ?_, ?_, ?_, ?_, ?_, ?_, ?_, ?_, ?_, ?_⟩
  · rw [he 0 (by omega)]
    exact h.acts
  · rw [he 1 (by omega), he 2 (by omega)]
    exact h.tom
  · rw [he 3 (by omega), he 4 (by omega)]
    exact h.mis
  · rw [he 5 (by omega)]
    exact h.ways
  · rw [he 6 (by omega)]
    exact h.rnds
  · rw [he 7 (by omega)]
    exact h.rowN
  · rw [he 8 (by omega)]
    exact h.vilN
  · intro j hj
    rw [he (9 + j) (by omega)]
    exact h.brj j hj
  · intro w hw
    rw [he 5 (by omega)] at hw
    obtain ⟨a, b, c⟩ := h.way w hw
    refine ⟨?_, ?_, fun m hm => ?_⟩
    · rw [he (27 + 13 * w) (by omega)]
      exact a
    · rw [he (27 + 13 * w) (by omega)]
      exact b
    · rw [he (27 + 13 * w) (by omega)] at hm
      obtain ⟨⟨c1, c2⟩, c3⟩ := c m hm
      refine ⟨?_, fun s hs => ?_⟩
      · rw [he (28 + 13 * w + m) (by omega)]
        exact ⟨c1, c2⟩
      · rw [he (31 + 13 * w + 3 * m + s) (by omega), he (27 + 13 * w) (by omega)]
        exact c3 s hs
  · intro j hj
    rw [he (152 + j) (by omega)]
    exact h.row j hj
  · intro k hk
    rw [he 8 (by omega)] at hk
    rw [he (552 + 2 * k) (by omega), he (553 + 2 * k) (by omega)]
    exact h.vil k hk
/-- what growing keeps: the world's ranges, how many ways -/
def gInv (n : Nat) (W : Nat → Int32) (N : Mem) : Prop := RIW (N.1 95) ∧ N.1 95 5 = iI (n : Int) ∧ ∀ j : Nat, (j < 144 ∨ 152 ≤ j) → N.1 95 j = W j
theorem gInv.n8 {n : Nat} {W : Nat → Int32} {N : Mem} (h : gInv n W N) : n ≤ 8 ∨ 2147483648 ≤ n := by
  have r5 := h.1.ways
  rw [h.2.1] at r5
  rcases Nat.lt_or_ge n 2147483648 with q | q
  · rw [iI_toInt (by omega) (by omega)] at r5
    omega
  · exact Or.inr q
theorem gInv.bar {n w : Nat} {W : Nat → Int32} {N : Mem} (h : gInv n W N) (h8 : n ≤ 8) (hw : w < n) : F_MO_isBarred (iI (w : Int)) N = some (barW (N.1 95) w) :=
  N_isBarred (by omega) (h.1.way w (by rw [h.2.1, iI_toInt (by omega) (by omega)]; omega))
theorem gInv.sL {n k j : Nat} {W : Nat → Int32} {v : Int64} {N : Mem} (h : gInv n W N) : gInv n W (mSL N k j v) := h
theorem gInv.sF {n j : Nat} {W : Nat → Int32} {v : Int32} {N : Mem} (h : gInv n W N) (hj : j < 8) : gInv n W (mSI N 95 (144 + j) v) := by
  refine ⟨h.1.keep (fun i hi => mI_ix (by omega)), ?_, fun i hi => (mI_ix (by omega)).trans (h.2.2 i hi)⟩
  rw [mI_ix (by omega)]
  exact h.2.1
theorem e144 (k : Nat) : 144 + iI (k : Int) = iI ((144 + k : Nat) : Int) := by
  rw [l32_144, iI_add]
  rfl
theorem N_growsOnce {n : Nat} {W : Nat → Int32} {M : Mem} (h : gInv n W M) (n8 : n ≤ 8) : wpO (F_MO_growsOnce M) (fun r => gInv n W r.2) := by
  have ib8x : ∀ k : Nat, k < 8 → inb (iI (k : Int)) 8 := fun k hk => inb_iI (by omega) (by omega) (by omega)
  have ibw : ∀ k : Nat, k < 8 → inb (144 + iI (k : Int)) 564 := fun k hk => by
    rw [e144]
    exact inb_iI (by omega) (by omega) (by omega)
  -- the end: the numbers anew
  have l334 : ∀ (b : Bool) (N : Mem), gInv n W N → wpO (F_MO_growsOnce_l334 (iI (n : Int)) b 0 N) (fun r => gInv n W r.2) := by
    intro b N hN
    unfold F_MO_growsOnce_l334
    refine wp_bind (Ψ := fun r => gInv n W r.2) ?_ (fun r hr => wp_some hr)
    refine wp_iterS (P := fun k z => z.2.1 = iI (k : Int) ∧ gInv n W z.2.2) n ?_ _ _ ⟨rfl, hN⟩ (FUEL_big (by omega))
    rintro k ⟨z1, z2, N2⟩ hk ⟨e2, g⟩
    dsimp only at e2 g
    subst e2
    unfold F_MO_growsOnce_b334
    dsimp only
    refine wp_if (fun _ => wp_some g) (fun c => ?_)
    rw [iI_le (by omega) (by omega) (by omega) (by omega)] at c
    rw [g.bar n8 (by omega), bs]
    refine wp_if (fun _ => wp_some ⟨by omega, iI_succ k, g⟩) (fun _ => ?_)
    have j385 : ∀ s : Bool, wpO (F_MO_growsOnce_j385 (iI (n : Int)) (iI (k : Int)) s N2) (sumP (fun s' => k < n ∧ (s'.2.1 = iI ((k + 1 : Nat) : Int) ∧ gInv n W s'.2.2)) (fun r => gInv n W r.2)) := by
      intro s
      unfold F_MO_growsOnce_j385
      refine wp_t (ib8x k (by omega)) (wp_t (ibw k (by omega)) (wp_some ⟨by omega, iI_succ k, ?_⟩))
      show gInv n W (mSI N2 95 (144 + iI (k : Int)).toNatClampNeg _)
      rw [e144, clamp_iI (by omega) (by omega), show ((144 + k : Nat) : Int).toNat = 144 + k from rfl]
      exact g.sF (by omega)
    refine wp_if (fun _ => j385 true) (fun _ => wp_t (ibw k (by omega)) (wp_t (ib8x k (by omega)) (wp_if (fun _ => j385 false) (fun _ => j385 true))))
  -- the rest, one by one
  have l254 : ∀ (x : Int64) (b : Bool) (N : Mem), gInv n W N → wpO (F_MO_growsOnce_l254 (iI (n : Int)) x b N) (fun r => gInv n W r.2) := by
    intro x b N hN
    unfold F_MO_growsOnce_l254
    refine wp_bind (Ψ := fun r => gInv n W r) ?_ (fun r hr => l334 _ _ hr)
    refine wp_while (P := fun z => gInv n W z.2) (μ := fun z => z.1.toInt.toNat) ?_ FUEL _ hN (FUEL_big (by
      have := l_hi x
      dsimp only
      omega))
    rintro ⟨z1, N2⟩ g
    dsimp only at g
    unfold F_MO_growsOnce_b254
    dsimp only
    refine wp_if (fun _ => wp_some g) (fun c => ?_)
    have z0 : (0 : Int64).toInt = 0 := by decide
    have z1' : (1 : Int64).toInt = 1 := by decide
    have zh := l_hi z1
    rw [le_l, z0] at c
    unfold F_MO_growsOnce_l267
    refine wp_bind (Ψ := fun r => ∃ b : Nat, r = iI (b : Int) ∧ b < 8) ?_ (fun r hr => ?_)
    · refine wp_iterS (P := fun k z => z.2 = iI ((k + 1 : Nat) : Int) ∧ ∃ b : Nat, z.1 = iI (b : Int) ∧ b < 8) 8 ?_ _ _ ⟨rfl, 0, rfl, by decide⟩ (FUEL_big (by decide))
      rintro k ⟨y1, y2⟩ hk ⟨e2, b2, e1, hb⟩
      dsimp only at e1 e2
      subst e1
      subst e2
      unfold F_MO_growsOnce_b267
      dsimp only
      refine wp_if (fun _ => wp_some ⟨b2, rfl, hb⟩) (fun c2 => ?_)
      rw [iI_le (by omega) (by omega) (by omega) (by omega)] at c2
      refine wp_t (ib8x (k + 1) (by omega)) (wp_t (ib8x b2 hb) ?_)
      exact wp_if (fun _ => wp_some ⟨by omega, iI_succ (k + 1), b2, rfl, hb⟩) (fun _ => wp_some ⟨by omega, iI_succ (k + 1), k + 1, rfl, by omega⟩)
    · obtain ⟨b3, rfl, hb⟩ := hr
      unfold F_MO_growsOnce_j301
      refine wp_t (ib8x b3 hb) (wp_t (ib8x b3 hb) (wp_t (ib8x b3 hb) (wp_some ⟨g.sL.sL, ?_⟩)))
      show (z1 - 1).toInt.toNat < z1.toInt.toNat
      have : (z1 - 1).toInt = z1.toInt - 1 := by rw [s64] <;> rw [z1'] <;> omega
      omega
  have l177 : ∀ (x2 x4 x6 : Int64) (N : Mem), ¬ x2 = 0 → gInv n W N → wpO (F_MO_growsOnce_l177 (iI (n : Int)) x2 x4 x6 false 0 N) (fun r => gInv n W r.2) := by
    intro x2 x4 x6 N hx hN
    unfold F_MO_growsOnce_l177
    refine wp_bind (Ψ := fun r => gInv n W r.2) ?_ (fun r hr => l254 _ _ _ hr)
    refine wp_iterS (P := fun k z => z.2.1 = iI (k : Int) ∧ gInv n W z.2.2) n ?_ _ _ ⟨rfl, hN⟩ (FUEL_big (by omega))
    rintro k ⟨z1, z2, N2⟩ hk ⟨e2, g⟩
    dsimp only at e2 g
    subst e2
    unfold F_MO_growsOnce_b177
    dsimp only
    refine wp_if (fun _ => wp_some g) (fun c => ?_)
    rw [iI_le (by omega) (by omega) (by omega) (by omega)] at c
    have i8 := ib8x k (by omega)
    rw [g.bar n8 (by omega), bs]
    have j216 : ∀ v : Int64, wpO (F_MO_growsOnce_j216 (iI (n : Int)) x2 x4 z1 false (iI (k : Int)) (iI (k : Int)) v N2) (sumP (fun s' => k < n ∧ (s'.2.1 = iI ((k + 1 : Nat) : Int) ∧ gInv n W s'.2.2)) (fun r => gInv n W r.2)) := by
      intro v
      unfold F_MO_growsOnce_j216
      exact wp_t i8 (wp_t i8 (wp_t hx (wp_t i8 (wp_t i8 (wp_some ⟨by omega, iI_succ k, g.sL.sL⟩)))))
    exact wp_if (fun _ => j216 _) (fun _ => wp_t i8 (wp_t hx (j216 _)))
  unfold F_MO_growsOnce
  refine wp_t ib5 ?_
  simp only [tn5]
  rw [h.2.1]
  unfold F_MO_growsOnce_l15
  refine wp_bind (Ψ := fun r => gInv n W r.2.2) ?_ (fun r hr => ?_)
  · refine wp_iterS (P := fun k z => z.2.2.1 = iI (k : Int) ∧ gInv n W z.2.2.2) n ?_ _ _ ⟨rfl, h⟩ (FUEL_big (by omega))
    rintro k ⟨z1, z2, z3, N2⟩ hk ⟨e3, g⟩
    dsimp only at e3 g
    subst e3
    unfold F_MO_growsOnce_b15
    dsimp only
    refine wp_if (fun _ => wp_some g) (fun c => ?_)
    rw [iI_le (by omega) (by omega) (by omega) (by omega)] at c
    have i8 := ib8x k (by omega)
    have iw := ibw k (by omega)
    refine wp_t i8 ?_
    have g2 : gInv n W (mSL N2 119 (iI (k : Int)).toNatClampNeg 0) := g.sL
    generalize mSL N2 119 (iI (k : Int)).toNatClampNeg 0 = N3 at *
    rw [g2.bar n8 (by omega), bs]
    refine wp_if (fun _ => wp_some ⟨by omega, iI_succ k, g2⟩) (fun _ => ?_)
    unfold F_MO_growsOnce_l47
    refine wp_bind (Ψ := fun _ => True) ?_ (fun r _ => ?_)
    · refine wp_iterS (P := fun j z => z.2 = iI (j : Int)) n ?_ _ _ rfl (FUEL_big (by omega))
      rintro j ⟨y1, y2⟩ hj e2
      dsimp only at e2
      subst e2
      unfold F_MO_growsOnce_b47
      dsimp only
      refine wp_if (fun _ => wp_some trivial) (fun c2 => ?_)
      rw [iI_le (by omega) (by omega) (by omega) (by omega)] at c2
      rw [g2.bar n8 (by omega), bs]
      refine wp_if (fun _ => wp_some ⟨by omega, iI_succ j⟩) (fun _ => ?_)
      have e8 : (8 * iI (k : Int)) + iI (j : Int) = iI ((8 * k + j : Nat) : Int) := by
        rw [l32_8, iI_mul, iI_add]
        rfl
      rw [e8]
      exact wp_t (inb_iI (by omega) (by omega) (by omega)) (wp_t (ibw j (by omega)) (wp_some ⟨by omega, iI_succ j⟩))
    · unfold F_MO_growsOnce_j104
      exact wp_t iw (wp_t i8 (wp_t i8 (wp_t iw (wp_some ⟨by omega, iI_succ k, g2.sL⟩))))
  · unfold F_MO_growsOnce_j159
    exact wp_if (fun _ => wp_some hr) (fun hx => l177 _ _ _ _ hx hr)
theorem E_growS {x : Int32} {M : Mem} (h : RIW (M.1 95)) : wpO (F_MO_grow x M) (fun r => RIW (r.2.1 95) ∧ ∀ j : Nat, (j < 144 ∨ 152 ≤ j) → r.2.1 95 j = M.1 95 j) := by
  have h0 : RIW ((mSI M 94 0 0).1 95) := h
  unfold F_MO_grow
  refine wp_within (fun q1 q2 => wp_tt ?_) (fun _ => wp_ff ?_)
  · unfold F_MO_grow_j21
    refine wp_thr (fun q => nomatch q) (fun _ => thr_f ?_)
    dsimp only
    have r5 := h0.ways
    have hg : ∃ n : Nat, gInv n (M.1 95) (mSI M 94 0 0) ∧ n ≤ 8 := ⟨((mSI M 94 0 0).1 95 5).toInt.toNat, ⟨h0, iI_nat r5.1, fun _ _ => rfl⟩, by omega⟩
    obtain ⟨n, g0, n8⟩ := hg
    generalize mSI M 94 0 0 = N0 at *
    unfold F_MO_grow_l32
    refine wp_bind (Ψ := fun r => gInv n (M.1 95) r) ?_ (fun N1 g1 => ?_)
    · refine wp_iterS (P := fun k z => z.1 = iI (k : Int) ∧ gInv n (M.1 95) z.2) n ?_ _ _ ⟨rfl, g0⟩ (FUEL_big (by omega))
      rintro k ⟨z1, N⟩ hk ⟨e1, g⟩
      dsimp only at e1 g
      subst e1
      unfold F_MO_grow_b32
      dsimp only
      refine wp_t ib5 ?_
      simp only [tn5]
      rw [g.2.1]
      refine wp_if (fun _ => wp_some g) (fun c => ?_)
      rw [iI_le (by omega) (by omega) (by omega) (by omega)] at c
      unfold F_MO_grow_l44
      refine wp_bind (Ψ := fun r => gInv n (M.1 95) r) ?_ (fun r hr => wp_some ⟨by omega, iI_succ k, hr⟩)
      refine wp_iterS (P := fun j z => z.1 = iI (j : Int) ∧ gInv n (M.1 95) z.2) n ?_ _ _ ⟨rfl, g⟩ (FUEL_big (by omega))
      rintro j ⟨y1, N2⟩ hj ⟨e1, g2⟩
      dsimp only at e1 g2
      subst e1
      unfold F_MO_grow_b44
      dsimp only
      refine wp_t ib5 ?_
      simp only [tn5]
      rw [g2.2.1]
      refine wp_if (fun _ => wp_some g2) (fun c2 => ?_)
      rw [iI_le (by omega) (by omega) (by omega) (by omega)] at c2
      have hk2 : (k : Int) < (N2.1 95 5).toInt := by rw [g2.2.1, iI_toInt (by omega) (by omega)]; omega
      have hj2 : (j : Int) < (N2.1 95 5).toInt := by rw [g2.2.1, iI_toInt (by omega) (by omega)]; omega
      rw [N_areB g2.1 hk2 hj2, bs]
      refine wp_if (fun _ => wp_some ⟨by omega, iI_succ j, g2⟩) (fun _ => ?_)
      refine wp_bind (N_meets (g2.1.w8 hk2) (g2.1.w8 hj2) (g2.1.way k hk2) (g2.1.way j hj2) g2.1.rnds.2) (fun r5 _ => ?_)
      have e8 : (8 * iI (k : Int)) + iI (j : Int) = iI ((8 * k + j : Nat) : Int) := by
        rw [l32_8, iI_mul, iI_add]
        rfl
      rw [e8]
      refine wp_t (inb_iI (by omega) (by omega) (by omega)) (wp_some ⟨by omega, iI_succ j, ?_⟩)
      have e95 : ∀ (i : Nat) (v : Int32), (mSI N2 118 i v).1 95 = N2.1 95 := fun i v => funext fun q => mI_cell (by decide)
      exact ⟨by rw [e95]; exact g2.1, by rw [e95]; exact g2.2.1, by rw [e95]; exact g2.2.2⟩
    · unfold F_MO_grow_l96
      refine wp_bind (Ψ := fun r => gInv n (M.1 95) r.2) ?_ (fun r hr => wp_some ⟨hr.1, hr.2.2⟩)
      refine wp_iterS (P := fun k z => z.2.1 = iI (k : Int) ∧ gInv n (M.1 95) z.2.2) 50 ?_ _ _ ⟨rfl, g1⟩ (FUEL_big (by decide))
      rintro k ⟨z1, z2, N⟩ hk ⟨e2, g⟩
      dsimp only at e2 g
      subst e2
      unfold F_MO_grow_b96
      dsimp only
      refine wp_if (fun _ => wp_some g) (fun c => ?_)
      have l50 : (50 : Int32).toInt = 50 := by decide
      rw [le_i, l50] at q2
      rw [le_i, iI_toInt (by omega) (by omega)] at c
      refine wp_bind (N_growsOnce g n8) (fun r3 g3 => ?_)
      exact wp_if (fun _ => wp_some ⟨by omega, iI_succ k, g3⟩) (fun _ => wp_some ⟨by omega, iI_succ k, g3⟩)
  · unfold F_MO_grow_j21
    exact wp_thr (fun _ => thr_t (wp_some ⟨h0, fun _ _ => rfl⟩)) (fun q => nomatch q)
theorem E_grow {x : Int32} {M : Mem} (h : RIW (M.1 95)) : wpO (F_MO_grow x M) (fun r => RIW (r.2.1 95)) := wp_mono (E_growS h) (fun _ q => q.1)
