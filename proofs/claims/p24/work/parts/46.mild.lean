/-! ===== the reference's mild ===== -/
theorem N_powerOf (x0 : Int64) (x2 : Int32) (M : Mem) : wpO (F_MO_powerOf x0 x2 M) (fun _ => True) := by
  have hi := i_hi x2
  have lo := i_lo x2
  unfold F_MO_powerOf F_MO_powerOf_l5
  refine wp_bind (Ψ := fun _ => True) ?_ (fun r _ => wp_some trivial)
  refine wp_iterS (P := fun k z => z.2 = iI (k : Int)) x2.toInt.toNat ?_ _ _ rfl (FUEL_big (by omega))
  rintro k ⟨z1, z2⟩ hk e2
  dsimp only at e2
  subst e2
  unfold F_MO_powerOf_b5
  dsimp only
  refine wp_if (fun _ => wp_some trivial) (fun c => ?_)
  rw [le_i, iI_toInt (by omega) (by omega)] at c
  exact wp_some ⟨by omega, iI_succ k⟩
theorem N_mildWorth (x1 x2 x3 x4 : Int32) (M : Mem) : wpO (F_MO_mildWorth x1 x2 x3 x4 M) (fun _ => True) := by
  have hi := i_hi x3
  have lo := i_lo x3
  unfold F_MO_mildWorth F_MO_mildWorth_l6
  refine wp_bind (Ψ := fun _ => True) ?_ (fun r _ => ?_)
  · refine wp_iterS (P := fun k z => z.2 = iI (k : Int)) x3.toInt.toNat ?_ _ _ rfl (FUEL_big (by omega))
    rintro k ⟨z1, z2⟩ hk e2
    dsimp only at e2
    subst e2
    unfold F_MO_mildWorth_b6
    dsimp only
    refine wp_if (fun _ => wp_some trivial) (fun c => ?_)
    rw [le_i, iI_toInt (by omega) (by omega)] at c
    exact wp_bind (N_powerOf _ _ _) (fun r3 _ => wp_bind (N_powerOf _ _ _) (fun r4 _ => wp_some ⟨by omega, iI_succ k⟩))
  · unfold F_MO_mildWorth_j49
    exact wp_bind (N_powerOf _ _ _) (fun r1 _ => wp_bind (N_powerOf _ _ _) (fun r2 _ => wp_some trivial))
theorem N_gainsMildly {p y : Nat} {q : Int} {x2 x4 x5 x6 x7 : Int32} {M : Mem} (h : RIW (M.1 95)) (hp : p < 2) (hy : y < 3) (hQ : M.1 94 20 = iI q) (q2 : 2 ≤ q) (q3 : q ≤ 12) : wpO (F_MO_gainsMildly (iI (p : Int)) x2 (iI (y : Int)) x4 x5 x6 x7 M) (fun _ => True) := by
  obtain ⟨A, hA, a2, a3⟩ := h.actN
  unfold F_MO_gainsMildly
  refine wp_bind (N_mildWorth _ _ _ _ _) (fun r1 _ => wp_bind (N_mildWorth _ _ _ _ _) (fun r2 _ => ?_))
  have l0 : (0 : Int64) = lI 0 := rfl
  refine wp_t (by rw [hQ, iI_l (by omega) (by omega), l0, lI_eq] <;> omega) (wp_bind (N_powerOf _ _ _) (fun r3 _ => ?_))
  unfold F_MO_gainsMildly_l68
  refine wp_bind (Ψ := fun _ => True) ?_ (fun r _ => by rcases r with r | r <;> exact wp_some trivial)
  refine wp_iterS (P := fun k z => z = iI (k : Int)) A ?_ _ _ rfl (FUEL_big (by omega))
  intro k z hk e2
  subst e2
  unfold F_MO_gainsMildly_b68
  rw [S_actMany, bs, hA]
  refine wp_if (fun _ => wp_some trivial) (fun c => ?_)
  rw [iI_le (by omega) (by omega) (by omega) (by omega)] at c
  refine wp_if (fun _ => wp_some ⟨by omega, iI_succ k⟩) (fun _ => ?_)
  rw [N_own hp (by omega) hy, bs]
  exact wp_if (fun _ => wp_some ⟨by omega, iI_succ k⟩) (fun _ => wp_some trivial)
theorem N_mild151 {a b c d p n : Nat} {q : Int} {x6 : Bool} {x8 x9 : Int32} {M : Mem} (h : RIW (M.1 95)) (hc : c < 3) (hd : d < 3) (hp : p < 2) (hn : n < 10) (hQ : M.1 94 20 = iI q) (q2 : 2 ≤ q) (q3 : q ≤ 12) : wpO (F_MO_mild_l151 (iI (a : Int)) (iI (b : Int)) (iI (c : Int)) (iI (d : Int)) (iI (n : Int)) x6 (iI (p : Int)) x8 x9 1 M) (fun x => ∃ r, x = .inl (r, iI ((p + 1 : Nat) : Int))) := by
  unfold F_MO_mild_l151
  refine wp_bind (Ψ := fun _ => True) ?_ (fun r _ => wp_some ⟨r, by rw [iI_succ]⟩)
  refine wp_iterS (P := fun k z => z.2 = iI ((k + 1 : Nat) : Int)) 10 ?_ _ _ rfl (FUEL_big (by decide))
  rintro k ⟨z1, z2⟩ hk e2
  dsimp only at e2
  subst e2
  unfold F_MO_mild_b151
  dsimp only
  refine wp_if (fun _ => wp_some trivial) (fun cc => ?_)
  rw [iI_lt (by omega) (by omega) (by omega) (by omega)] at cc
  refine wp_if (fun _ => wp_some ⟨by omega, iI_succ (k + 1)⟩) (fun _ => ?_)
  have j188 : ∀ (s2 : Int32) (y : Nat), y < 3 → wpO (F_MO_mild_j188 (iI (a : Int)) (iI (b : Int)) (iI (c : Int)) (iI (d : Int)) (iI (n : Int)) (iI (p : Int)) x8 x9 (iI ((k + 1 : Nat) : Int)) (iI (p : Int)) s2 (iI (y : Int)) M) (sumP (fun s' => k < 10 ∧ s'.2 = iI ((k + 1 + 1 : Nat) : Int)) (fun _ => True)) := by
    intro s2 y hy
    unfold F_MO_mild_j188
    exact wp_bind (N_gainsMildly h hp hy hQ q2 q3) (fun r _ => wp_if (fun _ => wp_some ⟨by omega, iI_succ (k + 1)⟩) (fun _ => wp_some ⟨by omega, iI_succ (k + 1)⟩))
  refine wp_if (fun _ => ?_) (fun _ => ?_)
  · unfold F_MO_mild_j177
    exact wp_if (fun _ => j188 _ d hd) (fun _ => j188 _ c hc)
  · unfold F_MO_mild_j177
    exact wp_if (fun _ => j188 _ d hd) (fun _ => j188 _ c hc)
theorem E_mild {x1 x2 x3 x4 : Int32} {M : Mem} (h : RIW (M.1 95)) : wpO (F_MO_mild x1 x2 x3 x4 M) (fun _ => True) := by
  have h0 : RIW ((mSI M 94 0 0).1 95) := h
  have bad : wpO (F_MO_mild_j44 x1 x2 x3 x4 true (mSI M 94 0 0)) (fun _ => True) := by
    unfold F_MO_mild_j44
    exact wp_thr (fun _ => thr_t (wp_some trivial)) (fun q => nomatch q)
  unfold F_MO_mild
  refine wp_noAct h0 (wp_tt bad) (fun a e1 ha => wp_ff ?_)
  refine wp_noAct h0 (wp_tt bad) (fun b e2 hb => wp_ff ?_)
  refine wp_noAct h0 (wp_tt bad) (fun c e3 hc => wp_ff ?_)
  refine wp_noAct h0 (wp_tt bad) (fun d e4 hd => wp_ff ?_)
  clear bad
  subst e1
  subst e2
  subst e3
  subst e4
  have hac := h0.acts
  unfold F_MO_mild_j44
  refine wp_thr (fun q => nomatch q) (fun _ => thr_f ?_)
  dsimp only
  rw [N_plain, bs]
  obtain ⟨p1, p2, p3⟩ := h.pq
  have hQ : (plM (mSI M 94 0 0)).1 94 20 = iI ((M.1 95 2).toInt) := plM_Q _
  have h1 : RIW ((plM (mSI M 94 0 0)).1 95) := h
  generalize plM (mSI M 94 0 0) = N at hQ h1
  unfold F_MO_mild_l60
  refine wp_bind (Ψ := fun _ => True) ?_ (fun r _ => by rcases r with r | r <;> exact wp_some trivial)
  refine wp_iterS (P := fun k z => z = iI (k : Int)) 10 ?_ _ _ rfl (FUEL_big (by decide))
  intro k z hk e
  subst e
  unfold F_MO_mild_b60
  refine wp_if (fun _ => wp_some trivial) (fun cc => ?_)
  have l10 : (10 : Int32) = iI 10 := rfl
  rw [l10, iI_le (by omega) (by omega) (by omega) (by omega)] at cc
  unfold F_MO_mild_l73
  refine wp_bind (Ψ := fun _ => True) ?_ (fun r _ => ?_)
  · refine wp_iterS (P := fun p z => z.2 = iI (p : Int)) 2 ?_ _ _ rfl (FUEL_big (by decide))
    rintro p ⟨z1, z2⟩ hp e2
    dsimp only at e2
    subst e2
    unfold F_MO_mild_b73
    dsimp only
    refine wp_if (fun _ => wp_some trivial) (fun c2 => ?_)
    rw [l32_2, iI_le (by omega) (by omega) (by omega) (by omega)] at c2
    have hp2 : p < 2 := by omega
    rw [N_brings (by omega) (by omega) hp2, bs, N_brings (by omega) (by omega) hp2, bs]
    have l151 : ∀ (x6 : Bool) (x8 x9 : Int32), wpO (F_MO_mild_l151 (iI (a : Int)) (iI (b : Int)) (iI (c : Int)) (iI (d : Int)) (iI (k : Int)) x6 (iI (p : Int)) x8 x9 1 N) (sumP (fun s' => p < 2 ∧ s'.2 = iI ((p + 1 : Nat) : Int)) (fun _ => True)) := by
      intro x6 x8 x9
      refine wp_mono (N_mild151 h1 (by omega) (by omega) hp2 (by omega) hQ (by omega) p3) (fun x hx => ?_)
      obtain ⟨r, rfl⟩ := hx
      exact ⟨hp2, rfl⟩
    refine wp_if (fun _ => l151 _ _ _) (fun _ => ?_)
    have j128 : ∀ (s2 : Int32) (y : Nat) (x8 x9 : Int32), y < 3 → wpO (F_MO_mild_j128 (iI (a : Int)) (iI (b : Int)) (iI (c : Int)) (iI (d : Int)) (iI (k : Int)) (iI (p : Int)) x8 x9 (iI (p : Int)) s2 (iI (y : Int)) N) (sumP (fun s' => p < 2 ∧ s'.2 = iI ((p + 1 : Nat) : Int)) (fun _ => True)) := by
      intro s2 y x8 x9 hy
      unfold F_MO_mild_j128
      exact wp_bind (N_gainsMildly h1 hp2 hy hQ (by omega) p3) (fun r _ => wp_if (fun _ => l151 _ _ _) (fun _ => l151 _ _ _))
    refine wp_if (fun _ => ?_) (fun _ => ?_)
    · unfold F_MO_mild_j118
      exact wp_if (fun _ => j128 _ b _ _ (by omega)) (fun _ => j128 _ a _ _ (by omega))
    · unfold F_MO_mild_j118
      exact wp_if (fun _ => j128 _ b _ _ (by omega)) (fun _ => j128 _ a _ _ (by omega))
  · unfold F_MO_mild_j221
    exact wp_if (fun _ => wp_some ⟨by omega, iI_succ k⟩) (fun _ => wp_some trivial)
