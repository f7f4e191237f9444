/-! ===== the reference's village ===== -/
theorem vtab1 : ∀ s : Nat, s < 64 → bcI (iI (s : Int)) = iI (nrow s : Int) ∧ nrow s ≤ 6 := by decide +kernel
def anot (a s : Nat) : Nat := (iI (a : Int) &&& (iI (s : Int) ^^^ (-1))).toNatClampNeg
theorem vtab2 : ∀ a : Nat, a < 64 → ∀ s : Nat, s < 64 → (iI (a : Int) &&& (iI (s : Int) ^^^ (-1))) = iI (anot a s : Int) ∧ anot a s < 64 := by decide +kernel
theorem vtab3 : ∀ n : Nat, n < 7 → ((1 : Int32) <<< (iI (n : Int) &&& 31)) - 1 = iI ((2 ^ n - 1 : Nat) : Int) ∧ 2 ^ n - 1 < 64 := by decide +kernel
theorem e552 (k : Nat) : 552 + (2 * iI (k : Int)) = iI ((552 + 2 * k : Nat) : Int) := by
  rw [l32_552, l32_2, iI_mul, iI_add]
  rfl
theorem N_edgeOf {k m : Nat} {M : Mem} (h : RIW (M.1 95)) (hk : (k : Int) < (M.1 95 8).toInt) (hm : m ≤ 64) : wpO (F_MO_edgeOf (iI (k : Int)) (iI (m : Int)) M) (fun N => N.1 = M.1) := by
  have r8 := h.vilN
  obtain ⟨⟨c1, c2⟩, g1, g2⟩ := h.vil k hk
  unfold F_MO_edgeOf
  rw [e552]
  have e3 : iI ((552 + 2 * k : Nat) : Int) + 1 = iI ((553 + 2 * k : Nat) : Int) := by
    rw [l32_1, iI_add]
    congr 1
    omega
  rw [e3]
  refine wp_t (inb_iI (by omega) (by omega) (by omega)) (wp_t (inb_iI (by omega) (by omega) (by omega)) ?_)
  rw [clN (by omega), clN (by omega)]
  have ec : M.1 95 (552 + 2 * k) = iI ((M.1 95 (552 + 2 * k)).toInt) := (iI_of _).symm
  have eg : M.1 95 (553 + 2 * k) = iI ((M.1 95 (553 + 2 * k)).toInt) := (iI_of _).symm
  generalize (M.1 95 (552 + 2 * k)).toInt = c at *
  generalize (M.1 95 (553 + 2 * k)).toInt = g at *
  rw [ec, eg, iI_sub, l32_1, iI_sub, iI_mul]
  have hmb := mulb (a := (m : Int) - 1) (b := g) (m := 64) (n := 99) (by omega) (by omega) (by omega) (by omega)
  have l0 : (0 : Int64) = lI 0 := rfl
  have l1 : (1 : Int64) = lI 1 := rfl
  refine wp_if (fun q1 => ?_) (fun _ => ?_)
  · rw [iI_lt (by omega) (by omega) (by omega) (by omega)] at q1
    refine wp_if (fun q2 => ?_) (fun _ => ?_)
    · rw [iI_lt (by omega) (by omega) (by omega) (by omega)] at q2
      rw [iI_l (by omega) (by omega), iI_l (by omega) (by omega), iI_l (by omega) (by omega), lI_mul, N_tells (by omega) (by omega) (by omega) (by omega), bs]
      exact wp_some rfl
    · rw [l1, N_tells (by omega) (by omega) (by omega) (by omega), bs]
      exact wp_some rfl
  · rw [l0, l1, N_tells (by omega) (by omega) (by omega) (by omega), bs]
    exact wp_some rfl
theorem N_isHeld {s : Nat} {M : Mem} (h : RIW (M.1 95)) (hs : s < 64) : wpO (F_MO_isHeld (iI (s : Int)) M) (fun r => r.2.1 = M.1) := by
  have r8 := h.vilN
  unfold F_MO_isHeld F_MO_isHeld_l4
  refine wp_bind (Ψ := fun r => r.2.1 = M.1) ?_ (fun r hr => wp_some hr)
  refine wp_iterS (P := fun k z => z.2.1 = iI (k : Int) ∧ z.2.2.1 = M.1) 6 ?_ _ _ ⟨rfl, rfl⟩ (FUEL_big (by decide))
  rintro k ⟨z1, z2, N⟩ hk ⟨e2, m1⟩
  dsimp only at e2 m1
  subst e2
  unfold F_MO_isHeld_b4
  dsimp only
  refine wp_t ib8 ?_
  simp only [tn8]
  rw [m1]
  refine wp_if (fun _ => wp_some m1) (fun c => ?_)
  rw [le_i, iI_toInt (by omega) (by omega)] at c
  refine wp_if (fun _ => wp_some ⟨by omega, iI_succ k, m1⟩) (fun _ => ?_)
  rw [bc_eq, bs, (vtab1 s hs).1]
  have n6 := (vtab1 s hs).2
  refine wp_bind (N_edgeOf (M := N) (k := k) (m := nrow s) (by rw [m1]; exact h) (by rw [m1]; omega) (by omega)) (fun r2 h2 => ?_)
  have o1 : r2.1 = M.1 := h2.trans m1
  refine wp_if (fun _ => wp_if (fun _ => wp_some ⟨by omega, iI_succ k, o1⟩) (fun _ => ?_)) (fun _ => wp_some ⟨by omega, iI_succ k, o1⟩)
  exact wp_t ib1 (wp_t ib2 (wp_if (fun _ => wp_some ⟨by omega, iI_succ k, o1⟩) (fun _ => wp_some ⟨by omega, iI_succ k, o1⟩)))
theorem N_weak {M : Mem} (h : RIW (M.1 95)) : wpO (F_MO_weak M) (fun _ => True) := by
  have r8 := h.vilN
  have e8 : M.1 95 8 = iI (((M.1 95 8).toInt.toNat : Nat) : Int) := iI_nat r8.1
  unfold F_MO_weak F_MO_weak_l10
  refine wp_bind (Ψ := fun _ => True) ?_ (fun r _ => wp_some trivial)
  refine wp_iterS (P := fun k z => z.2.2.2.1 = iI (k : Int) ∧ z.2.2.2.2.1 = M.1) 6 ?_ _ _ ⟨rfl, rfl⟩ (FUEL_big (by decide))
  rintro k ⟨z1, z2, z3, z4, N⟩ hk ⟨e4, m1⟩
  dsimp only at e4 m1
  subst e4
  unfold F_MO_weak_b10
  dsimp only
  refine wp_t ib8 ?_
  simp only [tn8]
  rw [m1]
  refine wp_if (fun _ => wp_some trivial) (fun c => ?_)
  rw [le_i, iI_toInt (by omega) (by omega)] at c
  refine wp_t ib8 ?_
  rw [e8]
  refine wp_bind (N_edgeOf (M := N) (k := k) (m := (M.1 95 8).toInt.toNat) (by rw [m1]; exact h) (by rw [m1]; omega) (by omega)) (fun r1 h1 => ?_)
  have o1 : r1.1 = M.1 := h1.trans m1
  have j59 : wpO (F_MO_weak_j59 (iI (k : Int)) r1) (sumP (fun s' => k < 6 ∧ s'.2.2.2.1 = iI ((k + 1 : Nat) : Int) ∧ s'.2.2.2.2.1 = M.1) (fun _ => True)) := by
    unfold F_MO_weak_j59
    exact wp_some ⟨by omega, iI_succ k, o1⟩
  exact wp_if (fun _ => j59) (fun _ => wp_if (fun _ => j59) (fun _ => wp_some ⟨by omega, iI_succ k, o1⟩))
theorem E_villageEdge {x y : Int32} {M : Mem} (h : RIW (M.1 95)) : wpO (F_MO_villageEdge x y M) (fun _ => True) := by
  have h0 : RIW ((mSI M 94 0 0).1 95) := h
  have r8 := h0.vilN
  have e8 : (mSI M 94 0 0).1 95 8 = iI ((((mSI M 94 0 0).1 95 8).toInt.toNat : Nat) : Int) := iI_nat r8.1
  unfold F_MO_villageEdge
  refine wp_t ib8 ?_
  simp only [tn8]
  generalize mSI M 94 0 0 = N at *
  refine wp_within (fun q1 q2 => wp_tt ?_) (fun _ => wp_ff ?_)
  · rw [le_pred (by rw [le_i, li0]; omega), lt_i] at q2
    obtain ⟨k, rfl, hk⟩ := iI_of_le (n := (N.1 95 8).toInt - 1) q1 (by omega)
    unfold F_MO_villageEdge_j28
    refine wp_thr (fun q => nomatch q) (fun _ => thr_f (wp_t ib8 ?_))
    simp only [tn8]
    rw [e8]
    refine wp_bind (N_edgeOf (M := N) (k := k) (m := (N.1 95 8).toInt.toNat) h0 (by omega) (by omega)) (fun r3 _ => ?_)
    exact wp_if (fun _ => wp_some trivial) (fun _ => wp_some trivial)
  · unfold F_MO_villageEdge_j28
    exact wp_thr (fun _ => thr_t (wp_some trivial)) (fun q => nomatch q)
theorem E_village {x : Int32} {M : Mem} (h : RIW (M.1 95)) : wpO (F_MO_village x M) (fun _ => True) := by
  have h0 : RIW ((mSI M 94 0 0).1 95) := h
  have r8 := h0.vilN
  have e8 : (mSI M 94 0 0).1 95 8 = iI ((((mSI M 94 0 0).1 95 8).toInt.toNat : Nat) : Int) := iI_nat r8.1
  unfold F_MO_village
  generalize mSI M 94 0 0 = N at *
  refine wp_within (fun q1 q2 => wp_tt ?_) (fun _ => wp_ff ?_)
  · unfold F_MO_village_j20
    refine wp_thr (fun q => nomatch q) (fun _ => thr_f (wp_t ib8 ?_))
    simp only [tn8]
    obtain ⟨t1, t2⟩ := vtab3 (N.1 95 8).toInt.toNat (by omega)
    rw [e8, t1]
    generalize 2 ^ (N.1 95 8).toInt.toNat - 1 = A at *
    refine wp_if (fun _ => wp_bind (N_weak h0) (fun r7 _ => wp_some trivial)) (fun _ => wp_if (fun _ => wp_bind (N_isHeld h0 t2) (fun r6 _ => wp_if (fun _ => wp_some trivial) (fun _ => wp_some trivial))) (fun _ => ?_))
    unfold F_MO_village_l74
    refine wp_bind (Ψ := fun _ => True) ?_ (fun r _ => wp_some trivial)
    refine wp_iterS (P := fun k z => z.2.1 = iI (k : Int) ∧ (∃ s : Nat, z.1 = iI (s : Int) ∧ s < 64) ∧ z.2.2.1 = N.1) 64 ?_ _ _ ⟨rfl, ⟨A, rfl, t2⟩, rfl⟩ (FUEL_big (by decide))
    rintro k ⟨z1, z2, N2⟩ hk ⟨e2, ⟨s, e1, hs⟩, m1⟩
    dsimp only at e1 e2 m1
    subst e1
    subst e2
    unfold F_MO_village_b74
    dsimp only
    refine wp_if (fun _ => wp_some trivial) (fun c => ?_)
    rw [iI_lt (by omega) (by omega) (by omega) (by omega)] at c
    have hk64 : k < 64 := by omega
    rw [bc_eq, bs, bc_eq, bs]
    refine wp_if (fun _ => wp_some ⟨by omega, iI_succ k, ⟨s, rfl, hs⟩, m1⟩) (fun _ => ?_)
    obtain ⟨u1, u2⟩ := vtab2 A t2 k hk64
    rw [u1]
    refine wp_bind (N_isHeld (M := N2) (by rw [m1]; exact h0) u2) (fun r5 h5 => ?_)
    exact wp_if (fun _ => wp_some ⟨by omega, iI_succ k, ⟨k, rfl, hk64⟩, h5.trans m1⟩) (fun _ => wp_some ⟨by omega, iI_succ k, ⟨s, rfl, hs⟩, h5.trans m1⟩)
  · unfold F_MO_village_j20
    exact wp_thr (fun _ => thr_t (wp_some trivial)) (fun q => nomatch q)
