/-! ===== the reference's least, once ===== -/
def ownW (W : Nat → Int32) (p x y : Nat) : Int := if p = 0 then br W x y 0 else br W y x 1
theorem N_own {p x y : Nat} (hp : p < 2) (hx : x < 3) (hy : y < 3) (M : Mem) : F_MO_own (iI (p : Int)) (iI (x : Int)) (iI (y : Int)) M = some (iI (ownW (M.1 95) p x y)) := by
  unfold F_MO_own
  have hp2 : p = 0 ∨ p = 1 := by omega
  rcases hp2 with rfl | rfl
  · rw [if_pos (show iI ((0 : Nat) : Int) = 0 from rfl)]
    show (F_MO_brings (iI (x : Int)) (iI (y : Int)) (iI ((0 : Nat) : Int)) M).bind _ = _
    rw [N_brings hx hy (by decide), bs]
    rfl
  · rw [if_neg (by decide)]
    show (F_MO_brings (iI (y : Int)) (iI (x : Int)) (iI ((1 : Nat) : Int)) M).bind _ = _
    rw [N_brings hy hx (by decide), bs]
    rfl
theorem ownW_le {W : Nat → Int32} (h : brOK W) {p x y : Nat} (hx : x < 3) (hy : y < 3) : -99 ≤ ownW W p x y ∧ ownW W p x y ≤ 99 := by
  unfold ownW
  by_cases q : p = 0
  · rw [if_pos q]
    exact h _ _ _ hx hy (by decide)
  · rw [if_neg q]
    exact h _ _ _ hy hx (by decide)
/-- how many acts, as a number -/
theorem RIW.actN {W : Nat → Int32} (h : RIW W) : ∃ A : Nat, W 0 = iI (A : Int) ∧ 2 ≤ A ∧ A ≤ 3 := by
  have := h.acts
  exact ⟨(W 0).toInt.toNat, iI_nat (by omega), by omega, by omega⟩
theorem N_mostBy {p y : Nat} {M : Mem} (h : RIW (M.1 95)) (hp : p < 2) (hy : y < 3) : wpO (F_MO_mostBy (iI (p : Int)) (iI (y : Int)) M) (fun _ => True) := by
  obtain ⟨A, hA, a2, a3⟩ := h.actN
  unfold F_MO_mostBy F_MO_mostBy_l6
  refine wp_bind (Ψ := fun _ => True) ?_ (fun r _ => wp_some trivial)
  refine wp_iterS (P := fun k z => z.2 = iI (k : Int)) A ?_ _ _ rfl (FUEL_big (by omega))
  rintro k ⟨z1, z2⟩ hk h2
  dsimp only at h2
  subst h2
  unfold F_MO_mostBy_b6
  dsimp only
  rw [S_actMany, bs, hA]
  refine wp_if (fun _ => wp_some trivial) (fun c => ?_)
  rw [iI_le (by omega) (by omega) (by omega) (by omega)] at c
  rw [N_own hp (by omega) hy, bs]
  exact wp_bind (T_Math_max_III _ _ _) (fun r _ => wp_some ⟨by omega, iI_succ k⟩)
theorem N_threatOf {p : Nat} {M : Mem} (h : RIW (M.1 95)) (hp : p < 2) : wpO (F_MO_threatOf (iI (p : Int)) M) (fun r => ∃ k : Nat, r = iI (k : Int) ∧ k < 3) := by
  obtain ⟨A, hA, a2, a3⟩ := h.actN
  unfold F_MO_threatOf F_MO_threatOf_l4
  refine wp_bind (Ψ := fun r => ∃ k : Nat, r = iI (k : Int) ∧ k < 3) ?_ (fun r hr => wp_some hr)
  refine wp_iterS (P := fun k z => z.2 = iI ((k + 1 : Nat) : Int) ∧ ∃ m : Nat, z.1 = iI (m : Int) ∧ m < 3) A ?_ _ _ ⟨rfl, 0, rfl, by decide⟩ (FUEL_big (by omega))
  rintro k ⟨z1, z2⟩ hk ⟨h2, m, h1, hm⟩
  dsimp only at h2 h1
  subst h2
  subst h1
  unfold F_MO_threatOf_b4
  dsimp only
  rw [S_actMany, bs, hA]
  refine wp_if (fun _ => wp_some ⟨m, rfl, hm⟩) (fun c => ?_)
  rw [iI_le (by omega) (by omega) (by omega) (by omega)] at c
  refine wp_bind (N_mostBy h hp (by omega)) (fun r2 _ => wp_bind (N_mostBy h hp hm) (fun r3 _ => ?_))
  exact wp_if (fun _ => wp_some ⟨by omega, iI_succ (k + 1), m, rfl, hm⟩) (fun _ => wp_some ⟨by omega, iI_succ (k + 1), k + 1, rfl, by omega⟩)
theorem N_leastOf {p : Nat} {M : Mem} (h : RIW (M.1 95)) (hp : p < 2) : wpO (F_MO_leastOf (iI (p : Int)) M) (fun _ => True) := by
  unfold F_MO_leastOf
  refine wp_bind (N_threatOf h hp) (fun r hr => ?_)
  obtain ⟨k, rfl, hk⟩ := hr
  exact wp_bind (N_mostBy h hp hk) (fun r _ => wp_some trivial)
theorem E_least {x y : Int32} {M : Mem} (h : RIW (M.1 95)) : wpO (F_MO_least x y M) (fun _ => True) := by
  have h0 : RIW ((mSI M 94 0 0).1 95) := h
  unfold F_MO_least
  refine wp_noPerson (wp_thr (fun _ => thr_t (wp_some trivial)) (fun q => nomatch q)) (fun p e hp => ?_)
  subst e
  refine wp_thr (fun q => nomatch q) (fun _ => thr_f ?_)
  dsimp only
  refine wp_if (fun _ => wp_bind (N_leastOf h0 hp) (fun r _ => wp_some trivial)) (fun _ => wp_bind (N_threatOf h0 hp) (fun r _ => wp_some trivial))
theorem E_once {M : Mem} (h : RIW (M.1 95)) : wpO (F_MO_once M) (fun _ => True) := by
  have h0 : RIW ((mSI M 94 0 0).1 95) := h
  obtain ⟨A, hA, a2, a3⟩ := h0.actN
  unfold F_MO_once F_MO_once_l9
  refine wp_bind (Ψ := fun _ => True) ?_ (fun r _ => wp_some trivial)
  refine wp_iterS (P := fun k z => z.2 = iI (k : Int)) A ?_ _ _ rfl (FUEL_big (by omega))
  rintro k ⟨z1, z2⟩ hk h2
  dsimp only at h2
  subst h2
  unfold F_MO_once_b9
  dsimp only
  rw [S_actMany, bs, hA]
  refine wp_if (fun _ => wp_some trivial) (fun c => ?_)
  rw [iI_le (by omega) (by omega) (by omega) (by omega)] at c
  unfold F_MO_once_l19
  refine wp_bind (Ψ := fun _ => True) ?_ (fun r _ => wp_some ⟨by omega, iI_succ k⟩)
  refine wp_iterS (P := fun j z => z.2 = iI (j : Int)) A ?_ _ _ rfl (FUEL_big (by omega))
  rintro j ⟨y1, y2⟩ hj h2
  dsimp only at h2
  subst h2
  unfold F_MO_once_b19
  dsimp only
  rw [S_actMany, bs, hA]
  refine wp_if (fun _ => wp_some trivial) (fun c2 => ?_)
  rw [iI_le (by omega) (by omega) (by omega) (by omega)] at c2
  have b0 : F_MO_brings (iI (k : Int)) (iI (j : Int)) 0 (mSI M 94 0 0) = some (iI (br ((mSI M 94 0 0).1 95) k j 0)) := N_brings (p := 0) (by omega) (by omega) (by decide) _
  have b1 : F_MO_brings (iI (k : Int)) (iI (j : Int)) 1 (mSI M 94 0 0) = some (iI (br ((mSI M 94 0 0).1 95) k j 1)) := N_brings (p := 1) (by omega) (by omega) (by decide) _
  have m0 : wpO (F_MO_mostBy 0 (iI (j : Int)) (mSI M 94 0 0)) (fun _ => True) := N_mostBy (p := 0) h0 (by decide) (by omega)
  have m1 : wpO (F_MO_mostBy 1 (iI (k : Int)) (mSI M 94 0 0)) (fun _ => True) := N_mostBy (p := 1) h0 (by decide) (by omega)
  rw [b0, bs]
  refine wp_bind m0 (fun r4 _ => wp_if (fun _ => ?_) (fun _ => wp_some ⟨by omega, iI_succ j⟩))
  rw [b1, bs]
  exact wp_bind m1 (fun r6 _ => wp_if (fun _ => wp_some ⟨by omega, iI_succ j⟩) (fun _ => wp_some ⟨by omega, iI_succ j⟩))
/-! ===== the body: the reference's corners ===== -/
