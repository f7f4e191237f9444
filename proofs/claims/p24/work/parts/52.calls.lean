/-! ===== every call of the reference keeps what its cells always hold ===== -/
theorem K_tomorrow {a q : Int32} {M : Mem} (h : InvR M) : wpO (F_MO_tomorrow a q M) InvR := by
  rcases P_tomorrow a q M with ⟨-, ⟨h1, h2⟩, h3⟩ | ⟨-, h3⟩
  · rw [h3 M]
    have b := i2 h1
    have l9 : (9 : Int32).toInt = 9 := by decide
    rw [li2, l9] at b
    have c1 := le_i.mp h2.1
    have c2 := h2.2
    rw [le_pred (by rw [le_i, li0]; omega), lt_i] at c2
    rw [li1] at c1
    refine wp_some (h.of ?_ rfl rfl rfl)
    exact h.1.low (fun j hj => by rw [mI_ix (by omega), mI_ix (by omega)]; exact mI_cell (by decide)) h.1.acts (by rw [mI_ix (by decide), mI_hit, mI_hit]; omega) h.1.mis rfl h.1.rnds rfl rfl
  · rw [h3 M]
    exact wp_some (h.of h.1 rfl rfl rfl)
theorem K_mistakes {a q : Int32} {M : Mem} (h : InvR M) : wpO (F_MO_mistakes a q M) InvR := by
  rcases P_mistakes a q M with ⟨-, ⟨h1, h2⟩, h3⟩ | ⟨-, h3⟩
  · rw [h3 M]
    have b := i2 h1
    have l9 : (9 : Int32).toInt = 9 := by decide
    rw [li1, l9] at b
    have c1 := le_i.mp h2.1
    have c2 := h2.2
    rw [le_pred (by rw [le_i, li0]; omega), lt_i] at c2
    rw [li0] at c1
    refine wp_some (h.of ?_ rfl rfl rfl)
    exact h.1.low (fun j hj => by rw [mI_ix (by omega), mI_ix (by omega)]; exact mI_cell (by decide)) h.1.acts h.1.tom (by rw [mI_ix (by decide), mI_hit, mI_hit]; omega) rfl h.1.rnds rfl rfl
  · rw [h3 M]
    exact wp_some (h.of h.1 rfl rfl rfl)
theorem K_bring {a b f t : Int32} {M : Mem} (h : InvR M) : wpO (F_MO_bring a b f t M) InvR := by
  have hac := h.1.acts
  have e0 : (mSI M 1 0 (M.1 95 0)).1 1 0 = M.1 95 0 := mI_hit
  rcases P_bring a b f t (mSI M 1 0 (M.1 95 0)) (by rw [e0, le_i, le_i, li0, li3]; omega) with ⟨-, ⟨h1, h2, h3, h4⟩, h5⟩ | ⟨k, -, h5⟩
  · rw [h5 M e0.symm]
    rw [e0] at h1 h2
    have a1 := h1
    have b1 := h2
    rw [le_i, lt_i, li0] at a1 b1
    have f1 := i2 h3
    have t1 := i2 h4
    have lm : (-99 : Int32).toInt = -99 := by decide
    have lp : (99 : Int32).toInt = 99 := by decide
    rw [lm, lp] at f1 t1
    have hB : bI a b ≤ 16 := by
      unfold bI
      omega
    refine wp_some (h.of ?_ rfl rfl rfl)
    refine h.1.bri (fun j hj => ?_) (fun j hj => ?_)
    · rw [mI_ix (by omega), mI_ix (by omega)]
      exact mI_cell (by decide)
    · by_cases q1 : j = bI a b + 1
      · rw [show 9 + j = 10 + bI a b by omega, mI_hit]
        exact t1
      · rw [mI_ix (by omega)]
        by_cases q2 : j = bI a b
        · rw [q2, mI_hit]
          exact f1
        · rw [mI_ix (by omega)]
          exact h.1.brj j hj
  · rw [h5 M e0.symm]
    exact wp_some (h.of h.1 rfl rfl rfl)
theorem K_villager {c g : Int32} {M : Mem} (h : InvR M) : wpO (F_MO_villager c g M) (fun r => InvR r.2) := by
  have hv := h.1.vilN
  have e0 : (mSI M 1 8 (M.1 95 8)).1 1 8 = M.1 95 8 := mI_hit
  rcases P_villager c g (mSI M 1 8 (M.1 95 8)) (by rw [e0, le_i, le_i, li0, li6]; omega) with ⟨-, ⟨h1, h2, h3⟩, h5⟩ | ⟨k, -, -, h5⟩
  · rw [h5 M e0.symm, e0]
    rw [e0, lt_i, li6] at h3
    have c1 := i2 h1
    have g1 := i2 h2
    have l999 : (999 : Int32).toInt = 999 := by decide
    have l99 : (99 : Int32).toInt = 99 := by decide
    rw [li0, l999] at c1
    rw [li1, l99] at g1
    refine wp_some (h.of ?_ rfl rfl rfl)
    show RIW ((vilM c g (M.1 95 8) M).1 95)
    unfold vilM vI
    refine h.1.vill (n := (M.1 95 8).toInt.toNat) (by omega) (by omega) (fun j j1 j2 j3 => ?_) ?_ ?_ ?_
    · rw [mI_ix j1, mI_ix j3, mI_ix j2]
      exact mI_cell (by decide)
    · rw [mI_hit, a32] <;> rw [li1] <;> omega
    · rw [mI_ix (by omega), mI_ix (by omega), mI_hit]
      exact c1
    · rw [mI_ix (by omega), mI_hit]
      exact g1
  · rw [h5 M e0.symm]
    exact wp_some (h.of h.1 rfl rfl rfl)
theorem K_fieldS {x y : Int32} {M : Mem} (h : InvR M) : wpO (F_MO_field x y M) (fun N => InvR N ∧ ∀ j : Nat, (j < 144 ∨ 152 ≤ j) → N.1 95 j = M.1 95 j) := by
  have h0 : RIW ((mSI M 94 0 0).1 95) := h.1
  have key : wpO (F_MO_field x y M) (fun N => RIW (N.1 95) ∧ ∀ j : Nat, (j < 144 ∨ 152 ≤ j) → N.1 95 j = M.1 95 j) := by
    unfold F_MO_field
    refine wp_noWay h0 (wp_thr (fun _ => thr_t (wp_some ⟨h0, fun _ _ => rfl⟩)) (fun q => nomatch q)) (fun a e1 ha => ?_)
    subst e1
    refine wp_thr (fun q => nomatch q) (fun _ => thr_f ?_)
    dsimp only
    have r5 := h0.ways
    refine wp_within (fun _ _ => wp_tt ?_) (fun _ => wp_ff ?_)
    · unfold F_MO_field_j35
      refine wp_thr (fun q => nomatch q) (fun _ => thr_f ?_)
      dsimp only
      rw [e144]
      refine wp_t (inb_iI (by omega) (by omega) (by omega)) (wp_some ?_)
      rw [clN (by omega)]
      exact ⟨h0.keep (fun j hj => mI_ix (by omega)), fun j hj => (mI_ix (by omega)).trans rfl⟩
    · unfold F_MO_field_j35
      exact wp_thr (fun _ => thr_t (wp_some ⟨h0, fun _ _ => rfl⟩)) (fun q => nomatch q)
  exact wp_mono (wp_q key (Q_MO_field _ _ _)) (fun N hN => ⟨h.fw hN.2 hN.1.1 (fun k j q => by first | omega | (dsimp only at q; omega)), hN.1.2⟩)
theorem K_field {x y : Int32} {M : Mem} (h : InvR M) : wpO (F_MO_field x y M) InvR := wp_mono (K_fieldS h) (fun _ q => q.1)
theorem K_grow {x : Int32} {M : Mem} (h : InvR M) : wpO (F_MO_grow x M) (fun r => InvR r.2) :=
  wp_mono (wp_q (E_grow h.1) (Q_MO_grow _ _)) (fun r hr => h.fw hr.2 hr.1 (fun k j q => by first | omega | (dsimp only at q; omega)))
theorem K_feed {a b c d e : Int32} {M : Mem} (h : InvR M) : wpO (F_MO_feed a b c d e M) (fun r => InvR r.2) := by
  obtain ⟨h1, h2, h3, h4⟩ := h
  rcases Int.lt_or_le 380 (M.1 94 5).toInt with q | q
  · rw [S_mfeed_no a b c d e M q h4]
    exact wp_some ⟨h1, h2, h3, h4⟩
  · refine wp_mono (S_mfeed a b c d e M (M.1 94 5).toInt.toNat (by omega) (by omega)) (fun r hr => ?_)
    obtain ⟨-, r2, -, r4, -⟩ := hr
    have e95 : r.2.1 95 = M.1 95 := funext fun j => (r4 95 j (by omega) (by omega)).trans rfl
    have e96 : r.2.1 96 = M.1 96 := funext fun j => (r4 96 j (by omega) (by omega)).trans rfl
    have e3 : r.2.1 94 3 = M.1 94 3 := (r4 94 3 (by omega) (by omega)).trans rfl
    have e5 : (r.2.1 94 5).toInt = (M.1 94 5).toInt + 20 := by
      rw [r2, a32] <;> rw [li20] <;> omega
    exact ⟨by rw [e95]; exact h1, by rw [e3, e96]; exact h2, by omega, by omega⟩
theorem K_end {n : Int32} {M : Mem} (h : InvR M) : wpO (F_MO_end n M) (fun r => InvR r.2) := by
  have e0 : (mSI M 27 1 (M.1 94 5)).1 27 1 = M.1 94 5 := mI_hit
  obtain ⟨h1, h2, h3, h4⟩ := h
  rcases P_end n (mSI M 27 1 (M.1 94 5)) with ⟨-, h5, h6⟩ | ⟨-, h6⟩
  · rw [h6 M e0.symm]
    have b := i2 h5
    rw [e0, li0] at b
    refine wp_some ⟨h1, h2, ?_, ?_⟩
    · show 0 ≤ ((mSI (mSI M 94 0 0) 94 5 n).1 94 5).toInt
      rw [mI_hit]
      exact b.1
    · show ((mSI (mSI M 94 0 0) 94 5 n).1 94 5).toInt ≤ 400
      rw [mI_hit]
      omega
  · rw [h6 M e0.symm]
    exact wp_some ⟨h1, h2, h3, h4⟩
theorem K_image {M : Mem} (h : InvR M) : wpO (F_MO_image M) InvR := by
  have l564 : (564 : Int32) = iI 564 := rfl
  unfold F_MO_image F_MO_image_l7
  refine wp_bind (Ψ := fun N => (∀ j, j < 564 → N.1 96 j = M.1 95 j) ∧ N.1 95 = M.1 95 ∧ N.1 94 5 = M.1 94 5) ?_ (fun N hN => ?_)
  · refine wp_iterS (P := fun k z => z.1 = iI (k : Int) ∧ (∀ j, j < k → z.2.1 96 j = M.1 95 j) ∧ z.2.1 95 = M.1 95 ∧ z.2.1 94 5 = M.1 94 5) 564 ?_ _ _ ⟨rfl, fun j q => absurd q (Nat.not_lt_zero _), rfl, rfl⟩ (FUEL_big (by decide))
    rintro k ⟨z1, N⟩ hk ⟨e1, m1, m2, m3⟩
    dsimp only at e1 m1 m2 m3
    subst e1
    unfold F_MO_image_b7
    dsimp only
    refine wp_if (fun c => wp_some ⟨fun j hj => m1 j ?_, m2, m3⟩) (fun c => ?_)
    · rw [l564, iI_le (by omega) (by omega) (by omega) (by omega)] at c
      omega
    rw [l564, iI_le (by omega) (by omega) (by omega) (by omega)] at c
    have ib : inb (iI (k : Int)) 564 := inb_iI (by omega) (by omega) (by omega)
    refine wp_t ib (wp_t ib (wp_some ⟨by omega, iI_succ k, fun j hj => ?_, ?_, ?_⟩))
    · show (mSI N 96 _ _).1 96 j = _
      rw [clN (by omega)]
      by_cases q : j = k
      · rw [q, mI_hit, m2]
      · rw [mI_ix q]
        exact m1 j (by omega)
    · exact (funext fun j => mI_cell (by decide)).trans m2
    · exact (mI_cell (by decide)).trans m3
  · obtain ⟨m1, m2, m3⟩ := hN
    have e95 : (mSI N 94 3 1).1 95 = M.1 95 := (funext fun j => mI_cell (by decide)).trans m2
    have e5 : (mSI N 94 3 1).1 94 5 = M.1 94 5 := (mI_ix (by decide)).trans m3
    refine wp_some ⟨by rw [e95]; exact h.1, fun _ => h.1.ext564 (fun j hj => ?_), by rw [e5]; exact h.2.2.1, by rw [e5]; exact h.2.2.2⟩
    rw [mI_cell (by decide)]
    exact m1 j hj
theorem K_back {M : Mem} (h : InvR M) : wpO (F_MO_back M) (fun r => InvR r.2) := by
  have l564 : (564 : Int32) = iI 564 := rfl
  unfold F_MO_back
  refine wp_if (fun _ => wp_some h) (fun c => ?_)
  have hI : RIW (M.1 96) := h.2.1 c
  unfold F_MO_back_l16
  refine wp_bind (Ψ := fun N => (∀ j, j < 564 → N.1 95 j = M.1 96 j) ∧ N.1 96 = M.1 96 ∧ N.1 94 5 = M.1 94 5 ∧ N.1 94 3 = M.1 94 3) ?_ (fun N hN => ?_)
  · refine wp_iterS (P := fun k z => z.1 = iI (k : Int) ∧ (∀ j, j < k → z.2.1 95 j = M.1 96 j) ∧ z.2.1 96 = M.1 96 ∧ z.2.1 94 5 = M.1 94 5 ∧ z.2.1 94 3 = M.1 94 3) 564 ?_ _ _ ⟨rfl, fun j q => absurd q (Nat.not_lt_zero _), rfl, rfl, rfl⟩ (FUEL_big (by decide))
    rintro k ⟨z1, N⟩ hk ⟨e1, m1, m2, m3, m4⟩
    dsimp only at e1 m1 m2 m3 m4
    subst e1
    unfold F_MO_back_b16
    dsimp only
    refine wp_if (fun c => wp_some ⟨fun j hj => m1 j ?_, m2, m3, m4⟩) (fun c => ?_)
    · rw [l564, iI_le (by omega) (by omega) (by omega) (by omega)] at c
      omega
    rw [l564, iI_le (by omega) (by omega) (by omega) (by omega)] at c
    have ib : inb (iI (k : Int)) 564 := inb_iI (by omega) (by omega) (by omega)
    refine wp_t ib (wp_t ib (wp_some ⟨by omega, iI_succ k, fun j hj => ?_, ?_, ?_, ?_⟩))
    · show (mSI N 95 _ _).1 95 j = _
      rw [clN (by omega)]
      by_cases q : j = k
      · rw [q, mI_hit, m2]
      · rw [mI_ix q]
        exact m1 j (by omega)
    · exact (funext fun j => mI_cell (by decide)).trans m2
    · exact (mI_cell (by decide)).trans m3
    · exact (mI_cell (by decide)).trans m4
  · obtain ⟨m1, m2, m3, m4⟩ := hN
    refine wp_some ⟨hI.ext564 m1, fun _ => ?_, ?_, ?_⟩
    · show RIW (N.1 96)
      rw [m2]
      exact hI
    · show 0 ≤ (N.1 94 5).toInt
      rw [m3]
      exact h.2.2.1
    · show (N.1 94 5).toInt ≤ 400
      rw [m3]
      exact h.2.2.2
/-! row -/
theorem RIW.rowU {W W' : Nat → Int32} (h : RIW W) (he : ∀ j, j ≠ 7 → (j < 152 ∨ 552 ≤ j) → W' j = W j) (h7 : 0 ≤ (W' 7).toInt ∧ (W' 7).toInt ≤ 200) (hr : ∀ j : Nat, j < 400 → 0 ≤ (W' (152 + j)).toInt ∧ (W' (152 + j)).toInt ≤ 2) : RIW W' := by
  have r5 := h.ways
  refine ⟨?_, ?_, ?_, ?_, ?_, h7, ?_, fun j hj => ?_, fun w hw => ?_, hr, fun k hk => ?_⟩
  · rw [he 0 (by omega) (by omega)]
    exact h.acts
  · rw [he 1 (by omega) (by omega), he 2 (by omega) (by omega)]
    exact h.tom
  · rw [he 3 (by omega) (by omega), he 4 (by omega) (by omega)]
    exact h.mis
  · rw [he 5 (by omega) (by omega)]
    exact h.ways
  · rw [he 6 (by omega) (by omega)]
    exact h.rnds
  · rw [he 8 (by omega) (by omega)]
    exact h.vilN
  · rw [he _ (by omega) (by omega)]
    exact h.brj j hj
  · rw [he 5 (by omega) (by omega)] at hw
    obtain ⟨a, b, c⟩ := h.way w hw
    have e1 := he (27 + 13 * w) (by omega) (by omega)
    refine ⟨by rw [e1]; exact a, by rw [e1]; exact b, fun m hm => ?_⟩
    rw [e1] at hm
    obtain ⟨c1, c3⟩ := c m hm
    exact ⟨by rw [he _ (by omega) (by omega)]; exact c1, fun s hs => by rw [he _ (by omega) (by omega), e1]; exact c3 s hs⟩
  · rw [he 8 (by omega) (by omega)] at hk
    rw [he _ (by omega) (by omega), he _ (by omega) (by omega)]
    exact h.vil k hk
/-- the tape is used up -/
def useM (M : Mem) : Mem := mSI (mSI (mSI (mSI M 94 0 0) 94 7 (M.1 94 5)) 94 5 0) 94 6 0
theorem useM_f (M : Mem) : F_MO_uses M = some (useM M) := by
  unfold F_MO_uses useM
  rw [mI_ix (show (5 : Nat) ≠ 0 by decide)]
theorem useM_7 (M : Mem) : (useM M).1 94 7 = M.1 94 5 := by
  unfold useM
  rw [mI_ix (by decide), mI_ix (by decide), mI_hit]
theorem useM_5 (M : Mem) : (useM M).1 94 5 = 0 := by
  unfold useM
  rw [mI_ix (by decide), mI_hit]
theorem useM_6 (M : Mem) : (useM M).1 94 6 = 0 := by
  unfold useM
  rw [mI_hit]
theorem InvR.use {M : Mem} (h : InvR M) : InvR (useM M) := by
  refine ⟨h.1, h.2.1, ?_, ?_⟩
  · rw [useM_5]
    decide
  · rw [useM_5]
    decide
theorem K_rowS {M : Mem} (h : InvR M) : wpO (F_MO_row M) (fun r => InvR r.2 ∧ (∀ j : Nat, j ≠ 7 → (j < 152 ∨ 552 ≤ j) → r.2.1 95 j = M.1 95 j) ∧ r.2.1 94 5 = 0) := by
  unfold F_MO_row
  rw [useM_f, bs]
  have hu := h.use
  have u95 : (useM M).1 95 = M.1 95 := rfl
  have u5 : (useM M).1 94 5 = 0 := useM_5 M
  have e7 : (useM M).1 94 7 = iI (((M.1 94 5).toInt.toNat : Nat) : Int) := (useM_7 M).trans (iI_nat h.2.2.1)
  have e4 := h.2.2.2
  have e0 := h.2.2.1
  have hn : (M.1 94 5).toInt.toNat ≤ 400 := by omega
  generalize (M.1 94 5).toInt.toNat = n at *
  generalize useM M = N at *
  have thr : wpO (F_MO_row_j69 true N) (fun r => InvR r.2 ∧ (∀ j : Nat, j ≠ 7 → (j < 152 ∨ 552 ≤ j) → r.2.1 95 j = M.1 95 j) ∧ r.2.1 94 5 = 0) := by
    unfold F_MO_row_j69
    exact wp_thr (fun _ => thr_t (wp_some ⟨hu.of hu.1 rfl rfl rfl, fun j _ _ => congrFun u95 j, u5⟩)) (fun q => nomatch q)
  have l21 : ∀ b : Bool, wpO (F_MO_row_l21 b 0 N) (fun r => InvR r.2 ∧ (∀ j : Nat, j ≠ 7 → (j < 152 ∨ 552 ≤ j) → r.2.1 95 j = M.1 95 j) ∧ r.2.1 94 5 = 0) := by
    intro b
    unfold F_MO_row_l21
    refine wp_bind (Ψ := fun r => r = true → ∀ j : Nat, j < n → 0 ≤ (N.1 97 j).toInt ∧ (N.1 97 j).toInt ≤ 2) ?_ (fun r hr => ?_)
    · refine wp_iterS (P := fun k z => z.2 = iI (k : Int) ∧ (z.1 = true → ∀ j : Nat, j < k → 0 ≤ (N.1 97 j).toInt ∧ (N.1 97 j).toInt ≤ 2)) n ?_ _ _ ⟨rfl, fun _ j q => absurd q (Nat.not_lt_zero _)⟩ (FUEL_big (by omega))
      rintro k ⟨z1, z2⟩ hk ⟨e2, hz⟩
      dsimp only at e2 hz
      subst e2
      unfold F_MO_row_b21
      dsimp only
      rw [e7]
      refine wp_if (fun c => wp_some (fun q j hj => hz q j ?_)) (fun c => ?_)
      · rw [iI_le (by omega) (by omega) (by omega) (by omega)] at c
        omega
      rw [iI_le (by omega) (by omega) (by omega) (by omega)] at c
      refine wp_if (fun cz => ?_) (fun _ => wp_some ⟨by omega, iI_succ k, fun q => nomatch q⟩)
      refine wp_t (inb_iI (by omega) (by omega) (by omega)) ?_
      rw [clN (by omega)]
      refine wp_within (fun q1 q2 => wp_tt (wp_some ⟨by omega, iI_succ k, fun _ j hj => ?_⟩)) (fun _ => wp_ff (wp_some ⟨by omega, iI_succ k, fun q => nomatch q⟩))
      rw [le_i, li0] at q1
      rw [le_i, li2] at q2
      by_cases q : j = k
      · rw [q]
        exact ⟨q1, q2⟩
      · exact hz cz j (by omega)
    · unfold F_MO_row_j59
      refine wp_if (fun c => ?_) (fun _ => thr)
      have ht := hr c
      unfold F_MO_row_j69
      refine wp_thr (fun q => nomatch q) (fun _ => thr_f ?_)
      dsimp only
      unfold F_MO_row_l80
      refine wp_bind (Ψ := fun O => (∀ j : Nat, j < n → O.1 95 (152 + j) = N.1 97 j) ∧ (∀ j : Nat, ¬ (152 ≤ j ∧ j < 152 + n) → O.1 95 j = N.1 95 j) ∧ (∀ c j, c ≠ 95 → O.1 c j = N.1 c j)) ?_ (fun O hO => ?_)
      · refine wp_iterS (P := fun k z => z.1 = iI (k : Int) ∧ k ≤ n ∧ (∀ j : Nat, j < k → z.2.1 95 (152 + j) = N.1 97 j) ∧ (∀ j : Nat, ¬ (152 ≤ j ∧ j < 152 + n) → z.2.1 95 j = N.1 95 j) ∧ (∀ c j, c ≠ 95 → z.2.1 c j = N.1 c j)) n ?_ _ _ ⟨rfl, Nat.zero_le _, fun j q => absurd q (Nat.not_lt_zero _), fun _ _ => rfl, fun _ _ _ => rfl⟩ (FUEL_big (by omega))
        rintro k ⟨z1, O⟩ hk ⟨e1, -, o1, o2, o3⟩
        dsimp only at e1 o1 o2 o3
        subst e1
        unfold F_MO_row_b80
        dsimp only
        rw [o3 94 7 (by decide), e7]
        refine wp_if (fun cc => wp_some ⟨fun j hj => o1 j ?_, o2, o3⟩) (fun cc => ?_)
        · rw [iI_le (by omega) (by omega) (by omega) (by omega)] at cc
          omega
        rw [iI_le (by omega) (by omega) (by omega) (by omega)] at cc
        have e3 : 152 + iI (k : Int) = iI ((152 + k : Nat) : Int) := by
          rw [l32_152, iI_add]
          rfl
        rw [e3]
        refine wp_t (inb_iI (by omega) (by omega) (by omega)) (wp_t (inb_iI (by omega) (by omega) (by omega)) (wp_some ⟨by omega, iI_succ k, by omega, fun j hj => ?_, fun j hj => ?_, fun c j hc => (mI_cell hc).trans (o3 c j hc)⟩))
        · show (mSI O 95 _ _).1 95 (152 + j) = _
          rw [clN (by omega), clN (by omega)]
          by_cases q : j = k
          · rw [q, mI_hit, o3 97 k (by decide)]
          · rw [mI_ix (by omega)]
            exact o1 j (by omega)
        · show (mSI O 95 _ _).1 95 j = _
          rw [clN (by omega), mI_ix (by omega)]
          exact o2 j hj
      · obtain ⟨o1, o2, o3⟩ := hO
        unfold F_MO_row_j110
        refine wp_t ib7 (wp_some ?_)
        show InvR (mSI O 95 _ _) ∧ (∀ j : Nat, j ≠ 7 → (j < 152 ∨ 552 ≤ j) → (mSI O 95 _ _).1 95 j = M.1 95 j) ∧ (mSI O 95 _ _).1 94 5 = 0
        rw [tn7, o3 94 7 (by decide), e7]
        have ed : iI (n : Int) / 2 = iI ((n / 2 : Nat) : Int) := idivN (A := 2) (by omega) (by decide)
        rw [ed]
        refine ⟨?_, fun j j7 hj => by rw [mI_ix j7, o2 j (by omega), u95], by rw [mI_cell (by decide), o3 94 5 (by decide), u5]⟩
        refine hu.of (hu.1.rowU (fun j j7 hj => ?_) ?_ (fun j hj => ?_)) (funext fun j => (mI_cell (by decide)).trans (o3 96 j (by decide))) ((mI_cell (by decide)).trans (o3 94 3 (by decide))) ((mI_cell (by decide)).trans (o3 94 5 (by decide)))
        · rw [mI_ix j7]
          exact o2 j (by omega)
        · rw [mI_hit, iI_toInt (by omega) (by omega)]
          omega
        · rw [mI_ix (by omega)]
          by_cases q : j < n
          · rw [o1 j q]
            exact ht j q
          · rw [o2 (152 + j) (by omega)]
            exact hu.1.row j hj
  exact wp_if (fun _ => l21 _) (fun _ => l21 _)
theorem K_row {M : Mem} (h : InvR M) : wpO (F_MO_row M) (fun r => InvR r.2) := wp_mono (K_rowS h) (fun _ q => q.1)
/-! way -/
theorem RIW.wayU {W W' : Nat → Int32} (h : RIW W) {n : Nat} (hn : (W 5).toInt = n) (n8 : n < 8) (he : ∀ j, j ≠ 5 → ¬ (27 + 13 * n ≤ j ∧ j < 40 + 13 * n) → ¬ (144 ≤ j ∧ j < 152) → W' j = W j) (h5 : (W' 5).toInt = n + 1) (hw : WOKW W' n) : RIW W' := by
  refine ⟨?_, ?_, ?_, by omega, ?_, ?_, ?_, fun j hj => ?_, fun w hw2 => ?_, fun j hj => ?_, fun k hk => ?_⟩
  · rw [he 0 (by omega) (by omega) (by omega)]
    exact h.acts
  · rw [he 1 (by omega) (by omega) (by omega), he 2 (by omega) (by omega) (by omega)]
    exact h.tom
  · rw [he 3 (by omega) (by omega) (by omega), he 4 (by omega) (by omega) (by omega)]
    exact h.mis
  · rw [he 6 (by omega) (by omega) (by omega)]
    exact h.rnds
  · rw [he 7 (by omega) (by omega) (by omega)]
    exact h.rowN
  · rw [he 8 (by omega) (by omega) (by omega)]
    exact h.vilN
  · rw [he _ (by omega) (by omega) (by omega)]
    exact h.brj j hj
  · by_cases q : w = n
    · rw [q]
      exact hw
    · obtain ⟨a, b, c⟩ := h.way w (by omega)
      have e1 := he (27 + 13 * w) (by omega) (by omega) (by omega)
      refine ⟨by rw [e1]; exact a, by rw [e1]; exact b, fun m hm => ?_⟩
      rw [e1] at hm
      obtain ⟨c1, c3⟩ := c m hm
      exact ⟨by rw [he _ (by omega) (by omega) (by omega)]; exact c1, fun s hs => by rw [he _ (by omega) (by omega) (by omega), e1]; exact c3 s hs⟩
  · rw [he _ (by omega) (by omega) (by omega)]
    exact h.row j hj
  · have r8 := h.vilN
    rw [he 8 (by omega) (by omega) (by omega)] at hk
    rw [he _ (by omega) (by omega) (by omega), he _ (by omega) (by omega) (by omega)]
    exact h.vil k hk
theorem K_wayS {M : Mem} (h : InvR M) : wpO (F_MO_way M) (fun r => InvR r.2 ∧ (∀ j : Nat, j ≠ 5 → (j < 27 ∨ 152 ≤ j) → r.2.1 95 j = M.1 95 j) ∧ r.2.1 94 5 = 0) := by
  unfold F_MO_way
  rw [useM_f, bs]
  have hu := h.use
  have u95 : (useM M).1 95 = M.1 95 := rfl
  have u5 : (useM M).1 94 5 = 0 := useM_5 M
  have t0 : tp0 (useM M) := by
    refine ⟨?_, ?_, ?_⟩
    · show 0 ≤ ((useM M).1 94 6).toInt
      rw [useM_6]
      decide
    · show ((useM M).1 94 6).toInt ≤ ((useM M).1 94 7).toInt
      rw [useM_6, useM_7]
      exact h.2.2.1
    · show ((useM M).1 94 7).toInt ≤ 400
      rw [useM_7]
      exact h.2.2.2
  generalize useM M = M1 at *
  refine wp_bind (wp_q (N_readWay t0) (Q_MO_readWay M1)) (fun r2 h2 => ?_)
  obtain ⟨g, f2⟩ := h2
  have hN : InvR r2.2 := hu.fr f2 (fun k j q => by first | omega | (dsimp only at q; omega))
  have n95 : ∀ j, r2.2.1 95 j = M.1 95 j := fun j => (f2 95 j (by omega)).1.trans (congrFun u95 j)
  have n5 : r2.2.1 94 5 = 0 := (f2 94 5 (by omega)).1.trans u5
  have j22 : ∀ (x : Bool) (s1 : Int32), (x = true → DG r2.2) → wpO (F_MO_way_j22 x s1 r2.2) (fun r => InvR r.2 ∧ (∀ j : Nat, j ≠ 5 → (j < 27 ∨ 152 ≤ j) → r.2.1 95 j = M.1 95 j) ∧ r.2.1 94 5 = 0) := by
    intro x s1 hx
    refine wp_mono (wp_q (Ψ := fun r => Frm (fun k j => (k = 94 ∧ (j = 0 ∨ j = 9)) ∨ k = 95) r2.2 r.2) (?_ : wpO (F_MO_way_j22 x s1 r2.2) (fun r => RIW (r.2.1 95) ∧ ∀ j : Nat, j ≠ 5 → (j < 27 ∨ 152 ≤ j) → r.2.1 95 j = r2.2.1 95 j)) (Q_MO_way_j22 _ _ _)) (fun r hr => ⟨hN.fw hr.2 hr.1.1 (fun k j q => by first | omega | (dsimp only at q; omega)), fun j j5 hj => (hr.1.2 j j5 hj).trans (n95 j), (hr.2 94 5 (by omega)).1.trans n5⟩)
    clear n95 n5
    generalize r2.2 = N at *
    unfold F_MO_way_j22
    refine wp_if (fun c => ?_) (fun _ => ?_)
    · have hd := hx c
      unfold F_MO_way_j35
      refine wp_thr (fun q => nomatch q) (fun _ => thr_f (wp_t ib5 ?_))
      dsimp only
      simp only [tn5]
      have hR : RIW ((mSI N 94 9 s1).1 95) := hN.1
      have hd2 : DG (mSI N 94 9 s1) := hd
      have hO : (mSI N 94 9 s1).1 95 = N.1 95 := rfl
      generalize mSI N 94 9 s1 = O at *
      have r5 := hR.ways
      refine wp_if (fun _ => ?_) (fun c8 => ?_)
      · unfold F_MO_way_j59
        exact wp_thr (fun _ => thr_t (wp_some ⟨hR, fun j _ _ => congrFun hO j⟩)) (fun q => nomatch q)
      · have e5 : O.1 95 5 = iI (((O.1 95 5).toInt.toNat : Nat) : Int) := iI_nat r5.1
        have n8 : (O.1 95 5).toInt.toNat < 8 := by
          have : ¬ (O.1 95 5).toInt = 8 := fun q => c8 (by rw [← iI_of (O.1 95 5), q]; rfl)
          omega
        have hn : (O.1 95 5).toInt = (O.1 95 5).toInt.toNat := by omega
        unfold F_MO_way_j59
        refine wp_thr (fun q => nomatch q) (fun _ => thr_f (wp_t ib5 (wp_t ib5 (wp_t ib5 ?_))))
        dsimp only
        simp only [tn5]
        rw [e5]
        generalize (O.1 95 5).toInt.toNat = n at *
        rw [iI_succ]
        unfold F_MO_way_l87
        refine wp_bind (Ψ := fun A => (∀ j : Nat, j < 13 → A.1 95 (27 + 13 * n + j) = O.1 99 j) ∧ (∀ j : Nat, ¬ (27 + 13 * n ≤ j ∧ j < 40 + 13 * n) → A.1 95 j = (mSI O 95 5 (iI ((n + 1 : Nat) : Int))).1 95 j)) ?_ (fun A hA => ?_)
        · refine wp_iterS (P := fun k z => z.1 = iI (k : Int) ∧ k ≤ 13 ∧ (∀ j : Nat, z.2.1 99 j = O.1 99 j) ∧ (∀ j : Nat, j < k → z.2.1 95 (27 + 13 * n + j) = O.1 99 j) ∧ (∀ j : Nat, ¬ (27 + 13 * n ≤ j ∧ j < 40 + 13 * n) → z.2.1 95 j = (mSI O 95 5 (iI ((n + 1 : Nat) : Int))).1 95 j)) 13 ?_ _ _ ⟨rfl, by decide, fun j => mI_cell (by decide), fun j q => absurd q (Nat.not_lt_zero _), fun _ _ => rfl⟩ (FUEL_big (by decide))
          rintro k ⟨z1, A⟩ hk ⟨e1, -, o0, o1, o2⟩
          dsimp only at e1 o0 o1 o2
          subst e1
          unfold F_MO_way_b87
          dsimp only
          refine wp_if (fun cc => wp_some ⟨fun j hj => o1 j ?_, o2⟩) (fun cc => ?_)
          · rw [l32_13, iI_le (by omega) (by omega) (by omega) (by omega)] at cc
            omega
          rw [l32_13, iI_le (by omega) (by omega) (by omega) (by omega)] at cc
          have e3 : (27 + (13 * iI (n : Int))) + iI (k : Int) = iI ((27 + 13 * n + k : Nat) : Int) := by
            rw [l32_27, l32_13, iI_mul, iI_add, iI_add]
            rfl
          rw [e3]
          refine wp_t (inb_iI (by omega) (by omega) (by omega)) (wp_t (inb_iI (by omega) (by omega) (by omega)) (wp_some ⟨by omega, iI_succ k, by omega, fun j => (mI_cell (by decide)).trans (o0 j), fun j hj => ?_, fun j hj => ?_⟩))
          · show (mSI A 95 _ _).1 95 (27 + 13 * n + j) = _
            rw [clN (by omega), clN (by omega)]
            by_cases q : j = k
            · rw [q, mI_hit, o0]
            · rw [mI_ix (by omega)]
              exact o1 j (by omega)
          · show (mSI A 95 _ _).1 95 j = _
            rw [clN (by omega), mI_ix (by omega)]
            exact o2 j hj
        · obtain ⟨o1, o2⟩ := hA
          unfold F_MO_way_j119
          rw [e144]
          refine wp_t (inb_iI (by omega) (by omega) (by omega)) (wp_some ?_)
          show RIW ((mSI A 95 _ _).1 95) ∧ ∀ j : Nat, j ≠ 5 → (j < 27 ∨ 152 ≤ j) → (mSI A 95 _ _).1 95 j = N.1 95 j
          rw [clN (by omega)]
          refine ⟨?_, fun j j5 hj => by rw [mI_ix (by omega), o2 j (by omega), mI_ix j5, hO]⟩
          have c27 : (mSI A 95 (144 + n) 0).1 95 (27 + 13 * n) = O.1 99 0 := by
            rw [mI_ix (by omega)]
            have := o1 0 (by decide)
            rw [Nat.add_zero] at this
            exact this
          refine hR.wayU (n := n) hn n8 (fun j j5 jw jf => ?_) ?_ ?_
          · rw [mI_ix (by omega), o2 j jw, mI_ix j5]
          · rw [mI_ix (by omega), o2 5 (by omega), mI_hit, iI_toInt (by omega) (by omega)]
            omega
          · obtain ⟨⟨d1, d2⟩, d3⟩ := hd2
            refine ⟨by rw [c27]; exact d1, by rw [c27]; exact d2, fun m hm => ?_⟩
            rw [c27] at hm
            obtain ⟨d4, d5⟩ := d3 m hm
            refine ⟨?_, fun s hs => ?_⟩
            · rw [mI_ix (by omega), show 28 + 13 * n + m = 27 + 13 * n + (1 + m) by omega, o1 (1 + m) (by omega)]
              exact d4
            · rw [c27, mI_ix (by omega), show 31 + 13 * n + 3 * m + s = 27 + 13 * n + (4 + 3 * m + s) by omega, o1 (4 + 3 * m + s) (by omega)]
              exact d5 s hs
    · unfold F_MO_way_j35
      exact wp_thr (fun _ => thr_t (wp_some ⟨hN.1, fun _ _ _ => rfl⟩)) (fun q => nomatch q)
  exact wp_if (fun c => j22 _ _ g) (fun c => j22 _ _ g)
theorem K_way {M : Mem} (h : InvR M) : wpO (F_MO_way M) (fun r => InvR r.2) := wp_mono (K_wayS h) (fun _ q => q.1)
