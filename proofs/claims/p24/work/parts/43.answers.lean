/-! ===== the reference's best answer, all ways ===== -/
theorem idivN {t A : Nat} (ht : t < 1000) (hA : A < 1000) : iI (t : Int) / iI (A : Int) = iI ((t / A : Nat) : Int) := by
  rw [idiv_iI (by omega) (by omega) (by omega) (by omega), ← Int.ofNat_tdiv]
theorem irmN {t A : Nat} (ht : t < 1000) (hA : A < 1000) : irm (iI (t : Int)) (iI (A : Int)) = iI ((t % A : Nat) : Int) := by
  rw [irm_iI (by omega) (by omega) (by omega) (by omega), ← Int.ofNat_tmod]
theorem iI_mulN (a b : Nat) : iI (a : Int) * iI (b : Int) = iI ((a * b : Nat) : Int) := by
  rw [iI_mul]
  rfl
theorem N_getsBy {p w m x : Nat} {M : Mem} (hp : p < 2) (hw : w ≤ 8) (hA : WOKW (M.1 95) w) (hm : m < mo (M.1 95) w) (hx : x < 3) : F_MO_getsBy (iI (p : Int)) (iI (w : Int)) (iI (m : Int)) (iI (x : Int)) M = some (iI (ownW (M.1 95) p x (dz (M.1 95) w m))) := by
  have d := (hA.dzK hm).1
  unfold F_MO_getsBy
  have hp2 : p = 0 ∨ p = 1 := by omega
  rcases hp2 with rfl | rfl
  · rw [if_pos (show iI ((0 : Nat) : Int) = 0 from rfl), N_doesW hw hA hm, bs]
    show (F_MO_brings (iI (x : Int)) (iI (dz (M.1 95) w m : Int)) (iI ((0 : Nat) : Int)) M).bind _ = _
    rw [N_brings hx (by omega) (by decide), bs]
    rfl
  · rw [if_neg (by decide), N_doesW hw hA hm, bs]
    show (F_MO_brings (iI (dz (M.1 95) w m : Int)) (iI (x : Int)) (iI ((1 : Nat) : Int)) M).bind _ = _
    rw [N_brings (by omega) hx (by decide), bs]
    rfl
/-- rounds of a function -/
def itf (f : Nat → Nat) (s : Nat) : Nat → Nat
  | 0 => s
  | k + 1 => f (itf f s k)
theorem itf_lt {f : Nat → Nat} {n s : Nat} (hs : s < n) (hf : ∀ m, m < n → f m < n) : ∀ k, itf f s k < n := by
  intro k
  induction k with
  | zero => exact hs
  | succ k ih => exact hf _ ih
def walkF (f : Nat → Nat) (g : Nat → Int) (s : Nat) (M0 : Mem) (k : Nat) (M : Mem) : Prop :=
  (∀ j, j < k → M.1 103 (itf f s j) = iI (j : Int)) ∧ (∀ t, t < 9 → (∀ j, j < k → itf f s j ≠ t) → M.1 103 t = -1) ∧ (∀ j, j < k → M.1 102 j = iI (g (itf f s j))) ∧ (∀ c j, ¬ (c = 102 ∨ c = 103) → M.1 c j = M0.1 c j) ∧ M.2 = M0.2
theorem walkF_inj {f : Nat → Nat} {g : Nat → Int} {s : Nat} {M0 M : Mem} {k : Nat} (h : walkF f g s M0 k M) (hk : k ≤ 100) : ∀ i j, i < k → j < k → itf f s i = itf f s j → i = j := by
  intro i j hi hj e
  have h1 := h.1 i hi
  rw [e, h.1 j hj, iI_eq (by omega) (by omega) (by omega) (by omega)] at h1
  omega
/-- what a best answer is reckoned from: acts by mood -/
def polOK (W : Nat → Int32) (w : Nat) (pol : Nat → Nat) (M : Mem) : Prop := ∀ m, m < mo W w → pol m < 3 ∧ M.1 109 m = iI (pol m : Int)
theorem N_walkF {p w s : Nat} {pol : Nat → Nat} {x3 x4 x5 x7 : Int32} {M : Mem} (hp : p < 2) (hw : w ≤ 8) (hA : WOKW (M.1 95) w) (hs : s < mo (M.1 95) w) (hpol : polOK (M.1 95) w pol M) (h0 : ∀ t, t < 9 → M.1 103 t = -1) : wpO (iter (F_MO_answers_b129 (iI (p : Int)) (iI (w : Int)) x3 x4 x5 x7) FUEL (0, iI (s : Int), M)) (fun r => ∃ k c : Nat, k ≤ mo (M.1 95) w ∧ c < k ∧ itf (fun m => gz (M.1 95) w m (pol m)) s k = itf (fun m => gz (M.1 95) w m (pol m)) s c ∧ r.1 = iI (k : Int) ∧ r.2.1 = iI (itf (fun m => gz (M.1 95) w m (pol m)) s k : Int) ∧ walkF (fun m => gz (M.1 95) w m (pol m)) (fun m => ownW (M.1 95) p (pol m) (dz (M.1 95) w m)) s M k r.2.2) := by
  obtain ⟨a1, a2, -⟩ := hA.moK
  generalize hf : (fun m => gz (M.1 95) w m (pol m)) = f
  generalize hg : (fun m => ownW (M.1 95) p (pol m) (dz (M.1 95) w m)) = g
  have fm : ∀ m, m < mo (M.1 95) w → f m < mo (M.1 95) w := fun m hm => by
    rw [← hf]
    exact (hA.gzK hm (hpol m hm).1).1
  refine wp_iterS (P := fun k z => z.1 = iI (k : Int) ∧ z.2.1 = iI (itf f s k : Int) ∧ walkF f g s M k z.2.2) (mo (M.1 95) w) ?_ _ _ ⟨rfl, rfl, fun j hj => absurd hj (Nat.not_lt_zero _), fun t ht _ => h0 t ht, fun j hj => absurd hj (Nat.not_lt_zero _), fun _ _ _ => rfl, rfl⟩ (FUEL_big (by omega))
  rintro k ⟨z1, z2, N⟩ hk ⟨e1, e2, w1, w2, w3, w4, w5⟩
  dsimp only at e1 e2 w1 w2 w3 w4 w5
  subst e1
  subst e2
  have hlt := itf_lt hs fm k
  have l0 : (0 : Int32) = iI 0 := rfl
  have n95 : N.1 95 = M.1 95 := funext fun j => w4 95 j (by decide)
  obtain ⟨pm1, pm2⟩ := hpol _ hlt
  unfold F_MO_answers_b129
  dsimp only
  refine wp_t (inb_iI (by omega) (by omega) (by omega)) ?_
  simp only [clN (n := itf f s k) (by omega)]
  refine wp_if (fun c => wp_some ?_) (fun c => ?_)
  · have hex : ∃ j, j < k ∧ itf f s j = itf f s k := by
      rcases Classical.em (∃ j, j < k ∧ itf f s j = itf f s k) with h | h
      · exact h
      · exfalso
        rw [w2 _ (by omega) (fun j hj e => h ⟨j, hj, e⟩)] at c
        exact absurd c (by decide)
    obtain ⟨j, hj, e⟩ := hex
    exact ⟨k, j, hk, hj, e.symm, rfl, rfl, w1, w2, w3, w4, w5⟩
  · have hne : ∀ j, j < k → itf f s j ≠ itf f s k := fun j hj e => by
      apply c
      rw [← e, w1 j hj, l0, iI_le] <;> omega
    refine wp_t (inb_iI (by omega) (by omega) (by omega)) (wp_t (inb_iI (by omega) (by omega) (by omega)) ?_)
    have p109 : (mSI N 103 (itf f s k) (iI (k : Int))).1 109 (itf f s k) = iI (pol (itf f s k) : Int) := by
      rw [mI_cell (by decide), w4 109 _ (by decide), pm2]
    rw [p109]
    have gb := N_getsBy (p := p) (w := w) (m := itf f s k) (x := pol (itf f s k)) (M := mSI N 103 (itf f s k) (iI (k : Int))) hp hw (by show WOKW (N.1 95) w; rw [n95]; exact hA) (by show itf f s k < mo (N.1 95) w; rw [n95]; exact hlt) pm1
    have gb2 : F_MO_getsBy (iI (p : Int)) (iI (w : Int)) (iI (itf f s k : Int)) (iI (pol (itf f s k) : Int)) (mSI N 103 (itf f s k) (iI (k : Int))) = some (iI (g (itf f s k))) := by
      rw [gb, ← hg]
      show some (iI (ownW (N.1 95) p (pol (itf f s k)) (dz (N.1 95) w (itf f s k)))) = _
      rw [n95]
    rw [gb2, bs]
    refine wp_t (inb_iI (by omega) (by omega) (by omega)) (wp_t (inb_iI (by omega) (by omega) (by omega)) ?_)
    simp only [clN (n := k) (by omega)]
    have q109 : (mSI (mSI N 103 (itf f s k) (iI (k : Int))) 102 k (iI (g (itf f s k)))).1 109 (itf f s k) = iI (pol (itf f s k) : Int) := by
      rw [mI_cell (by decide), p109]
    rw [q109]
    have gg : F_MO_goes (iI (w : Int)) (iI (itf f s k : Int)) (iI (pol (itf f s k) : Int)) (mSI (mSI N 103 (itf f s k) (iI (k : Int))) 102 k (iI (g (itf f s k)))) = some (iI (itf f s (k + 1) : Int)) := by
      rw [N_goesW (M := mSI (mSI N 103 (itf f s k) (iI (k : Int))) 102 k (iI (g (itf f s k)))) hw (by show WOKW (N.1 95) w; rw [n95]; exact hA) (by show itf f s k < mo (N.1 95) w; rw [n95]; exact hlt) (by omega)]
      show some (iI (gz (N.1 95) w (itf f s k) (pol (itf f s k)) : Int)) = some (iI (f (itf f s k) : Int))
      rw [n95, ← hf]
    rw [gg, bs]
    have wn : walkF f g s M (k + 1) (mSI (mSI N 103 (itf f s k) (iI (k : Int))) 102 k (iI (g (itf f s k)))) := by
      refine ⟨fun j hj => ?_, fun t ht hall => ?_, fun j hj => ?_, fun x j hx => ?_, w5⟩
      · rw [mI_cell (by decide)]
        by_cases q : j = k
        · rw [q, mI_hit]
        · rw [mI_ix (hne j (by omega))]
          exact w1 j (by omega)
      · rw [mI_cell (by decide), mI_ix (fun q => hall k (by omega) q.symm)]
        exact w2 t ht (fun j hj => hall j (by omega))
      · by_cases q : j = k
        · rw [q, mI_hit]
        · rw [mI_ix q, mI_cell (by decide)]
          exact w3 j (by omega)
      · rw [mI_cell (fun q => hx (Or.inl q)), mI_cell (fun q => hx (Or.inr q))]
        exact w4 x j hx
    have hk9 := pig (mo (M.1 95) w) (k + 1) (itf f s) (fun i _ => itf_lt hs fm i) (walkF_inj wn (by omega))
    exact wp_some ⟨by omega, iI_succ k, rfl, wn⟩
/-- a fraction that stands for a mood -/
def bstOK (q : Int) (M : Mem) (m : Nat) : Prop := ∃ u d : Int, M.2 106 m = lI u ∧ M.2 107 m = lI d ∧ fb 99 q (u, d) ∧ d ≤ 5159780352
/-- what the loops of the best answer keep -/
def ansI (W : Nat → Int32) (P q : Int) (M : Mem) : Prop := M.1 95 = W ∧ M.1 94 19 = iI P ∧ M.1 94 20 = iI q
theorem N_answers {p w : Nat} {M : Mem} (h : RIW (M.1 95)) (hp : p < 2) (hw : (w : Int) < (M.1 95 5).toInt) : wpO (F_MO_answers (iI (p : Int)) (iI (w : Int)) M) (fun M' => ansI (M.1 95) (M.1 95 1).toInt (M.1 95 2).toInt M') := by
  have w8 := h.w8 hw
  have hA := h.way w hw
  obtain ⟨n1, n3, hn⟩ := hA.moK
  obtain ⟨A, hAc, A2, A3⟩ := h.actN
  obtain ⟨p1, p2, p3⟩ := h.pq
  unfold F_MO_answers
  rw [N_plain, bs]
  have i0 : ansI (M.1 95) (M.1 95 1).toInt (M.1 95 2).toInt (plM M) := ⟨rfl, plM_P M, plM_Q M⟩
  generalize plM M = N0 at i0
  generalize hPP : (M.1 95 1).toInt = P at *
  generalize hQQ : (M.1 95 2).toInt = q at *
  generalize hWW : M.1 95 = W at *
  generalize hnn : mo W w = n at *
  rw [N_moodsOf w8, i0.1, hn, bs]
  have hall : A ^ n ≤ 27 := by
    have b1 : A ^ n ≤ 3 ^ n := Nat.pow_le_pow_left A3 n
    have b2 : 3 ^ n ≤ 3 ^ 3 := Nat.pow_le_pow_right (by decide) n3
    have b3 : (3 : Nat) ^ 3 = 27 := by decide
    omega
  have acts : ∀ N : Mem, ansI W P q N → F_MO_actMany N = some (iI (A : Int)) := fun N i => by rw [S_actMany, i.1, hAc]
  unfold F_MO_answers_l16
  refine wp_bind (Ψ := fun r => r = iI ((A ^ n : Nat) : Int)) ?_ (fun r hr => ?_)
  · refine wp_iterS (P := fun k z => z.1 = iI ((A ^ k : Nat) : Int) ∧ z.2 = iI (k : Int)) n ?_ _ _ ⟨by rw [Nat.pow_zero]; rfl, rfl⟩ (FUEL_big (by omega))
    rintro k ⟨z1, z2⟩ hk ⟨e1, e2⟩
    dsimp only at e1 e2
    subst e1
    subst e2
    unfold F_MO_answers_b16
    dsimp only
    refine wp_if (fun c => wp_some ?_) (fun c => ?_)
    · rw [iI_le (by omega) (by omega) (by omega) (by omega)] at c
      have : k = n := by omega
      rw [this]
    · rw [iI_le (by omega) (by omega) (by omega) (by omega)] at c
      rw [acts N0 i0, bs]
      refine wp_some ⟨by omega, ?_, iI_succ k⟩
      show iI ((A ^ k : Nat) : Int) * iI (A : Int) = _
      rw [iI_mulN, Nat.pow_succ]
  subst hr
  -- the last loop: the acts themselves
  have last : ∀ N : Mem, ansI W P q N → (∀ m, m < n → bstOK q N m) → wpO (F_MO_answers_l278 (iI (p : Int)) (iI (w : Int)) (iI (n : Int)) 0 N) (fun M' => ansI W P q M') := by
    intro N iN bN
    unfold F_MO_answers_l278
    refine wp_bind (Ψ := fun M' => ansI W P q M') ?_ (fun r hr => wp_some hr)
    refine wp_iterS (P := fun k z => z.1 = iI (k : Int) ∧ ansI W P q z.2 ∧ ∀ m, m < n → bstOK q z.2 m) n ?_ _ _ ⟨rfl, iN, bN⟩ (FUEL_big (by omega))
    rintro k ⟨z1, N1⟩ hk ⟨e1, i1, b1⟩
    dsimp only at e1 i1 b1
    subst e1
    unfold F_MO_answers_b278
    dsimp only
    refine wp_if (fun c => wp_some i1) (fun c => ?_)
    rw [iI_le (by omega) (by omega) (by omega) (by omega)] at c
    rw [acts N1 i1, bs]
    unfold F_MO_answers_l292
    refine wp_bind (Ψ := fun N => ansI W P q N ∧ ∀ m, m < n → bstOK q N m) ?_ (fun r hr => wp_some ⟨by omega, iI_succ k, hr⟩)
    have eA : iI (A : Int) - 1 = iI ((A : Int) - 1) := by rw [l32_1, iI_sub]
    rw [eA]
    refine wp_iterS (P := fun j z => z.1 = iI ((A : Int) - 1 - j) ∧ j ≤ A ∧ ansI W P q z.2 ∧ ∀ m, m < n → bstOK q z.2 m) A ?_ _ _ ⟨by rw [Int.natCast_zero, Int.sub_zero], Nat.zero_le _, i1, b1⟩ (FUEL_big (by omega))
    rintro j ⟨y1, N2⟩ hj ⟨e1, -, i2, b2⟩
    dsimp only at e1 i2 b2
    subst e1
    unfold F_MO_answers_b292
    dsimp only
    have l0 : (0 : Int32) = iI 0 := rfl
    refine wp_if (fun c => wp_some ⟨i2, b2⟩) (fun c => ?_)
    rw [l0, iI_lt (by omega) (by omega) (by omega) (by omega)] at c
    have ex : (A : Int) - 1 - j = ((A - 1 - j : Nat) : Int) := by omega
    rw [ex]
    have hA2 : WOKW (N2.1 95) w := by rw [i2.1]; exact hA
    have hk2 : k < mo (N2.1 95) w := by rw [i2.1, hnn]; omega
    rw [N_goesW w8 hA2 hk2 (by omega), bs, N_getsBy hp w8 hA2 hk2 (by omega), bs]
    have hto := (hA2.gzK (s := A - 1 - j) hk2 (by omega)).1
    rw [i2.1, hnn] at hto
    rw [i2.1]
    generalize gz W w k (A - 1 - j) = to at *
    have ow := ownW_le (p := p) (x := A - 1 - j) (y := dz W w k) h.br (by omega) (by have := (hA.dzK (m := k) (by omega)).1; omega)
    generalize ownW W p (A - 1 - j) (dz W w k) = gt at *
    refine wp_t (inb_iI (by omega) (by omega) (by omega)) (wp_t (inb_iI (by omega) (by omega) (by omega)) (wp_t (inb_iI (by omega) (by omega) (by omega)) ?_))
    obtain ⟨u, d, v1, v2, v3, v4⟩ := b2 to hto
    simp only [clN (n := to) (by omega)]
    rw [v1, v2, i2.2.1, i2.2.2, iI_l (by omega) (by omega), iI_l (by omega) (by omega), iI_l (by omega) (by omega), lI_mul, lI_mul, lI_mul, lI_add, lI_mul]
    obtain ⟨c1, c2, c3⟩ := fb_back (gk := gt) p1 p2 (by decide) ow v3
    dsimp only at c1 c2 c3
    have hqd : q * d ≤ 12 * 5159780352 := Int.mul_le_mul p3 v4 (by have := v3.1; dsimp only at this; omega) (by omega)
    have gbd := gq_bound (G := 99) (by decide) (by decide) (show 0 ≤ q by omega) p3 (show 0 ≤ q * d by omega) (by omega)
    rw [N_tells (by omega) (by omega) c1 (by omega), bs]
    have keep : ∀ N3 : Mem, N3.1 95 = N2.1 95 → N3.1 94 = N2.1 94 → (∀ m, N3.2 106 m = N2.2 106 m) → (∀ m, N3.2 107 m = N2.2 107 m) → wpO (some (Sum.inl (iI ((A - 1 - j : Nat) : Int) + (-1), N3)) : Option ((Int32 × Mem) ⊕ Mem)) (sumP (fun s' => j < A ∧ (s'.1 = iI ((A : Int) - 1 - ((j + 1 : Nat) : Int)) ∧ j + 1 ≤ A ∧ ansI W P q s'.2 ∧ ∀ m, m < n → bstOK q s'.2 m)) (fun N => ansI W P q N ∧ ∀ m, m < n → bstOK q N m)) := by
      intro N3 k1 k2 k3 k4
      refine wp_some ⟨by omega, ?_, by omega, ⟨k1.trans i2.1, by rw [k2]; exact i2.2.1, by rw [k2]; exact i2.2.2⟩, fun m hm => ?_⟩
      · show iI ((A - 1 - j : Nat) : Int) + (-1) = _
        have l1 : (-1 : Int32) = iI (-1) := rfl
        rw [l1, iI_add]
        congr 1
        omega
      · obtain ⟨u, d, v1, v2, v3⟩ := b2 m hm
        exact ⟨u, d, (k3 m).trans v1, (k4 m).trans v2, v3⟩
    have t106 : ∀ (x y : Int64) (m : Nat), (mSL (mSL N2 94 15 x) 94 16 y).2 106 m = N2.2 106 m := fun x y m => by rw [mL_cell (by decide), mL_cell (by decide)]
    have t107 : ∀ (x y : Int64) (m : Nat), (mSL (mSL N2 94 15 x) 94 16 y).2 107 m = N2.2 107 m := fun x y m => by rw [mL_cell (by decide), mL_cell (by decide)]
    refine wp_t (inb_iI (by omega) (by omega) (by omega)) (wp_if (fun _ => ?_) (fun _ => keep _ rfl rfl (t106 _ _) (t107 _ _)))
    refine wp_t (inb_iI (by omega) (by omega) (by omega)) (wp_if (fun _ => ?_) (fun _ => keep _ rfl rfl (t106 _ _) (t107 _ _)))
    refine wp_t (inb_iI (by omega) (by omega) (by omega)) (keep _ ?_ ?_ (t106 (lI (rU (gt * q * d + P * u) (q * d))) (lI (rD (gt * q * d + P * u) (q * d)))) (t107 (lI (rU (gt * q * d + P * u) (q * d))) (lI (rD (gt * q * d + P * u) (q * d)))))
    · funext i
      exact mI_cell (by decide)
    · funext i
      exact mI_cell (by decide)
  unfold F_MO_answers_l40
  refine wp_bind (Ψ := fun N => ansI W P q N ∧ ∀ m, m < n → bstOK q N m) ?_ (fun r hr => last r hr.1 hr.2)
  refine wp_iterS (P := fun k z => z.1 = iI (k : Int) ∧ ansI W P q z.2 ∧ (0 < k → ∀ m, m < n → bstOK q z.2 m)) (A ^ n) ?_ _ _ ⟨rfl, i0, fun q => absurd q (Nat.lt_irrefl 0)⟩ (FUEL_big (by omega))
  rintro k ⟨z1, N⟩ hk ⟨e1, iN, bN⟩
  dsimp only at e1 iN bN
  subst e1
  have hpos : 0 < A ^ n := Nat.pow_pos (by omega)
  unfold F_MO_answers_b40
  dsimp only
  refine wp_if (fun c => wp_some ⟨iN, bN ?_⟩) (fun c => ?_)
  · rw [iI_le (by omega) (by omega) (by omega) (by omega)] at c
    omega
  rw [iI_le (by omega) (by omega) (by omega) (by omega)] at c
  -- the policy
  unfold F_MO_answers_l54
  refine wp_bind (Ψ := fun N1 => ansI W P q N1 ∧ N1.2 = N.2 ∧ ∀ m, m < n → ∃ d : Nat, d < 3 ∧ N1.1 109 m = iI (d : Int)) ?_ (fun N1 h1 => ?_)
  · refine wp_iterS (P := fun j z => z.2.1 = iI (j : Int) ∧ (∃ t : Nat, z.1 = iI (t : Int) ∧ t ≤ 27) ∧ ansI W P q z.2.2 ∧ z.2.2.2 = N.2 ∧ ∀ m, m < j → ∃ d : Nat, d < 3 ∧ z.2.2.1 109 m = iI (d : Int)) n ?_ _ _ ⟨rfl, ⟨k, rfl, by omega⟩, iN, rfl, fun m hm => absurd hm (Nat.not_lt_zero _)⟩ (FUEL_big (by omega))
    rintro j ⟨y1, y2, N2⟩ hj ⟨e2, ⟨t, e1, ht⟩, i2, o2, pl⟩
    dsimp only at e1 e2 i2 o2 pl
    subst e1
    subst e2
    unfold F_MO_answers_b54
    dsimp only
    refine wp_if (fun c2 => wp_some ⟨i2, o2, fun m hm => pl m ?_⟩) (fun c2 => ?_)
    · rw [iI_le (by omega) (by omega) (by omega) (by omega)] at c2
      omega
    rw [iI_le (by omega) (by omega) (by omega) (by omega)] at c2
    rw [acts N2 i2, bs]
    have l0 : (0 : Int32) = iI 0 := rfl
    have hne : ¬ iI (A : Int) = 0 := by rw [l0, iI_eq] <;> omega
    refine wp_t hne (wp_t (inb_iI (by omega) (by omega) (by omega)) ?_)
    rw [irmN (by omega) (by omega), clamp_iI (by omega) (by omega), show ((j : Nat) : Int).toNat = j from rfl]
    have i3 : ansI W P q (mSI N2 109 j (iI ((t % A : Nat) : Int))) := ⟨(funext fun i => mI_cell (by decide)).trans i2.1, (mI_cell (by decide)).trans i2.2.1, (mI_cell (by decide)).trans i2.2.2⟩
    rw [acts _ i3, bs]
    refine wp_t hne (wp_some ⟨by omega, iI_succ j, ⟨t / A, ?_, ?_⟩, i3, o2, fun m hm => ?_⟩)
    · show iI (t : Int) / iI (A : Int) = _
      exact idivN (by omega) (by omega)
    · exact Nat.le_trans (Nat.div_le_self _ _) ht
    · show ∃ d : Nat, d < 3 ∧ (mSI N2 109 j _).1 109 m = _
      by_cases qm : m = j
      · refine ⟨t % A, ?_, by rw [qm, mI_hit]⟩
        have := Nat.mod_lt t (show 0 < A by omega)
        omega
      · rw [mI_ix qm]
        exact pl m (by omega)
  obtain ⟨i1, o1, pl⟩ := h1
  have hpl : ∃ pol : Nat → Nat, ∀ m, m < n → pol m < 3 ∧ N1.1 109 m = iI (pol m : Int) := by
    refine ⟨fun m => (N1.1 109 m).toInt.toNat, fun m hm => ?_⟩
    obtain ⟨d, d1, d2⟩ := pl m hm
    dsimp only
    rw [d2, iI_toInt (by omega) (by omega)]
    exact ⟨by omega, by rw [show ((d : Int).toNat : Int) = d by omega]⟩
  obtain ⟨pol, hpol⟩ := hpl
  have b1 : 0 < k → ∀ m, m < n → bstOK q N1 m := fun h0 m hm => by
    obtain ⟨u, d, v⟩ := bN h0 m hm
    rw [← o1] at v
    exact ⟨u, d, v⟩
  unfold F_MO_answers_l92
  refine wp_bind (Ψ := fun N2 => ansI W P q N2 ∧ ∀ m, m < n → bstOK q N2 m) ?_ (fun r hr => wp_some ⟨by omega, iI_succ k, hr.1, fun _ => hr.2⟩)
  refine wp_iterS (P := fun j z => z.1 = iI (j : Int) ∧ ansI W P q z.2 ∧ (∀ m, m < n → z.2.1 109 m = iI (pol m : Int)) ∧ ∀ m, m < n → (m < j ∨ 0 < k) → bstOK q z.2 m) n ?_ _ _ ⟨rfl, i1, fun m hm => (hpol m hm).2, fun m hm q => b1 (by omega) m hm⟩ (FUEL_big (by omega))
  rintro j ⟨y1, N2⟩ hj ⟨e1, i2, pl2, b2⟩
  dsimp only at e1 i2 pl2 b2
  subst e1
  unfold F_MO_answers_b92
  dsimp only
  refine wp_if (fun c2 => wp_some ⟨i2, fun m hm => b2 m hm (Or.inl ?_)⟩) (fun c2 => ?_)
  · rw [iI_le (by omega) (by omega) (by omega) (by omega)] at c2
    omega
  rw [iI_le (by omega) (by omega) (by omega) (by omega)] at c2
  unfold F_MO_answers_l101
  refine wp_bind (Ψ := fun N3 => (∀ t, t < 9 → N3.1 103 t = -1) ∧ (∀ c i, c ≠ 103 → N3.1 c i = N2.1 c i) ∧ N3.2 = N2.2) ?_ (fun N3 h3 => ?_)
  · refine wp_iterS (P := fun i z => z.1 = iI (i : Int) ∧ (∀ t, t < i → z.2.1 103 t = -1) ∧ (∀ c i, c ≠ 103 → z.2.1 c i = N2.1 c i) ∧ z.2.2 = N2.2) 9 ?_ _ _ ⟨rfl, fun t ht => absurd ht (Nat.not_lt_zero _), fun _ _ _ => rfl, rfl⟩ (FUEL_big (by decide))
    rintro i ⟨x1, N3⟩ hi ⟨e1, m1, m2, m3⟩
    dsimp only at e1 m1 m2 m3
    subst e1
    unfold F_MO_answers_b101
    dsimp only
    rcases Nat.lt_or_ge i 9 with hlt | hge
    · refine wp_f (by rw [l32_9, iI_le] <;> omega) (wp_t (inb_iI (by omega) (by omega) (by omega)) (wp_some ⟨hlt, iI_succ i, fun t ht => ?_, fun c i2 hc => ?_, m3⟩))
      · show (mSI N3 103 _ _).1 103 t = -1
        simp only [clN (n := i) (by omega)]
        by_cases q : t = i
        · rw [q, mI_hit]
        · rw [mI_ix q]
          exact m1 t (by omega)
      · show (mSI N3 103 _ _).1 c i2 = _
        rw [mI_cell hc]
        exact m2 c i2 hc
    · have : i = 9 := by omega
      subst this
      exact wp_t (by decide) (wp_some ⟨m1, m2, m3⟩)
  obtain ⟨t1, t2, t3⟩ := h3
  have i3 : ansI W P q N3 := ⟨(funext fun i => t2 95 i (by decide)).trans i2.1, (t2 94 19 (by decide)).trans i2.2.1, (t2 94 20 (by decide)).trans i2.2.2⟩
  unfold F_MO_answers_l129
  refine wp_bind (N_walkF (p := p) (w := w) (s := j) (pol := pol) (M := N3) hp w8 (by rw [i3.1]; exact hA) (by rw [i3.1, hnn]; omega) (by
    intro m hm
    rw [i3.1, hnn] at hm
    exact ⟨(hpol m hm).1, (t2 109 m (by decide)).trans (pl2 m hm)⟩) t1) ?_
  rintro ⟨r1, r2, N4⟩ ⟨days, c0, k9, hck, hpp, g1, g2, g3⟩
  dsimp only at g1 g2 g3
  rw [i3.1] at k9 hpp g2 g3
  rw [hnn] at k9
  subst g1
  subst g2
  obtain ⟨f1, f2, f3, f4, f5⟩ := g3
  have fm : ∀ m, m < n → gz W w m (pol m) < n := fun m hm => by
    have := (hA.gzK (m := m) (s := pol m) (by omega) (hpol m hm).1).1
    omega
  have hlt := itf_lt (f := fun m => gz W w m (pol m)) (s := j) (n := n) (by omega) fm
  unfold F_MO_answers_j192
  have hl2 := hlt days
  refine wp_t (inb_iI (by omega) (by omega) (by omega)) ?_
  simp only [clN (n := itf (fun m => gz W w m (pol m)) j days) (by omega)]
  rw [hpp, f1 c0 hck]
  have hg : ∀ i, (-99 : Int) ≤ ownW W p (pol (itf (fun m => gz W w m (pol m)) j i)) (dz W w (itf (fun m => gz W w m (pol m)) j i)) ∧ ownW W p (pol (itf (fun m => gz W w m (pol m)) j i)) (dz W w (itf (fun m => gz W w m (pol m)) j i)) ≤ 99 := fun i => by
    have hi := hlt i
    have d := (hA.dzK (m := itf (fun m => gz W w m (pol m)) j i) (by omega)).1
    exact ownW_le h.br (hpol _ hi).1 (by omega)
  refine wp_bind (N_worthOf (g := fun i => ownW W p (pol (itf (fun m => gz W w m (pol m)) j i)) (dz W w (itf (fun m => gz W w m (pol m)) j i))) (G := 99) (M := N4) p1 p2 p3 (by decide) (by decide) hg (by omega) hck (by rw [f4 94 19 (by decide)]; exact i3.2.1) (by rw [f4 94 20 (by decide)]; exact i3.2.2) f3) ?_
  intro N5 ⟨s1, s2, s3, s4, s5, s6⟩
  have qd : q ^ days ≤ 5159780352 := by
    have a1 := (pow_le_pow12 (show 0 ≤ q by omega) p3 days).2
    have a2 := pow12_le days (by omega)
    omega
  generalize worthW (fun i => ownW W p (pol (itf (fun m => gz W w m (pol m)) j i)) (dz W w (itf (fun m => gz W w m (pol m)) j i))) P q days c0 = uw at *
  obtain ⟨U, D⟩ := uw
  dsimp only at s3 s4 s5 s6
  have i5 : ansI W P q N5 := ⟨by rw [s1]; exact (funext fun i => f4 95 i (by decide)).trans i3.1, by rw [s1, f4 94 19 (by decide)]; exact i3.2.1, by rw [s1, f4 94 20 (by decide)]; exact i3.2.2⟩
  have p5 : ∀ m, m < n → N5.1 109 m = iI (pol m : Int) := fun m hm => by rw [s1, f4 109 m (by decide), t2 109 m (by decide), pl2 m hm]
  have o106 : ∀ m, N5.2 106 m = N2.2 106 m := fun m => by rw [s2 106 m (by omega), f5, t3]
  have o107 : ∀ m, N5.2 107 m = N2.2 107 m := fun m => by rw [s2 107 m (by omega), f5, t3]
  have b5 : ∀ m, m < n → (m < j ∨ 0 < k) → bstOK q N5 m := fun m hm hq => by
    obtain ⟨u, d, v1, v2, v3⟩ := b2 m hm hq
    exact ⟨u, d, (o106 m).trans v1, (o107 m).trans v2, v3⟩
  have set : wpO (F_MO_answers_j241 (iI (p : Int)) (iI (w : Int)) (iI (n : Int)) (iI ((A ^ n : Nat) : Int)) (iI (k : Int)) (iI (j : Int)) N5) (sumP (fun s' => j < n ∧ (s'.1 = iI ((j + 1 : Nat) : Int) ∧ ansI W P q s'.2 ∧ (∀ m, m < n → s'.2.1 109 m = iI (pol m : Int)) ∧ ∀ m, m < n → (m < j + 1 ∨ 0 < k) → bstOK q s'.2 m)) (fun N2 => ansI W P q N2 ∧ ∀ m, m < n → bstOK q N2 m)) := by
    unfold F_MO_answers_j241
    refine wp_t (inb_iI (by omega) (by omega) (by omega)) (wp_t (inb_iI (by omega) (by omega) (by omega)) (wp_some ⟨by omega, iI_succ j, i5, p5, fun m hm hq => ?_⟩))
    show bstOK q (mSL (mSL N5 106 _ _) 107 _ _) m
    simp only [clN (n := j) (by omega)]
    by_cases qm : m = j
    · subst qm
      refine ⟨U, D, ?_, ?_, s5, by omega⟩
      · rw [mL_cell (by decide), mL_hit, s3]
      · rw [mL_hit, mL_cell (by decide), s4]
    · obtain ⟨u, d, v1, v2, v3⟩ := b5 m hm (by omega)
      refine ⟨u, d, ?_, ?_, v3⟩
      · rw [mL_cell (by decide), mL_ix qm, v1]
      · rw [mL_ix qm, mL_cell (by decide), v2]
  have l0 : (0 : Int32) = iI 0 := rfl
  refine wp_if (fun _ => set) (fun ck => ?_)
  rw [l0, iI_le (by omega) (by omega) (by omega) (by omega)] at ck
  refine wp_t (inb_iI (by omega) (by omega) (by omega)) (wp_t (inb_iI (by omega) (by omega) (by omega)) ?_)
  obtain ⟨u, d, v1, v2, v3, v4⟩ := b5 j (by omega) (by omega)
  simp only [clN (n := j) (by omega)]
  rw [v1, v2, s3, s4]
  obtain ⟨a1, a2, a3, a4⟩ := fb_num (by omega) p3 s5 (by omega)
  obtain ⟨c1, c2, c3, c4⟩ := fb_num (by omega) p3 v3 (by omega)
  rw [N_compared a1 a2 a3 a4 c1 c2 c3 c4, bs]
  exact wp_if (fun _ => set) (fun _ => wp_some ⟨by omega, iI_succ j, i5, p5, fun m hm hq => b5 m hm (by omega)⟩)
