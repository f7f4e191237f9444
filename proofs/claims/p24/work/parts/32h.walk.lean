theorem T_Crowd_seeWhoIsThere_b2 (z : Int32 × Mem) : wpO (F_Crowd_seeWhoIsThere_b2 z) (fun r => (match r with | .inl s => Same (fun k => k = 82) z.2 s.2 ∧ muU s.1 < muU z.1 | .inr r => Same (fun k => k = 82) z.2 r)) := by
  unfold F_Crowd_seeWhoIsThere_b2
  refine wp_if (fun c1 => ?_) (fun c1 => ?_)
  · exact wp_some Same.rfl'
  · refine wp_if (fun c2 => ?_) (fun c2 => ?_)
    · unfold F_Crowd_seeWhoIsThere_j40
      refine wp_bind (T_Row_put 82 8 z.1 (0 : Int64) z.2) (fun r1_321 hr1_321 => ?_)
      have mr1_321 : Same (fun k => k = 82) z.2 r1_321 := hr1_321.mono (fun k hk => by first | omega | exact hk.elim | (dsimp only at hk ⊢; omega))
      exact wp_some ⟨mr1_321, (muU_le c1)⟩
    · refine wp_bind (T_Well_isBarred z.1 z.2) (fun r2 hr2 => ?_)
      refine wp_if (fun c3 => ?_) (fun c3 => ?_)
      · unfold F_Crowd_seeWhoIsThere_j40
        refine wp_bind (T_Row_put 82 8 z.1 (0 : Int64) z.2) (fun r1_322 hr1_322 => ?_)
        have mr1_322 : Same (fun k => k = 82) z.2 r1_322 := hr1_322.mono (fun k hk => by first | omega | exact hk.elim | (dsimp only at hk ⊢; omega))
        exact wp_some ⟨mr1_322, (muU_le c1)⟩
      · unfold F_Crowd_seeWhoIsThere_j40
        refine wp_bind (T_Row_put 82 8 z.1 (1 : Int64) z.2) (fun r1_323 hr1_323 => ?_)
        have mr1_323 : Same (fun k => k = 82) z.2 r1_323 := hr1_323.mono (fun k hk => by first | omega | exact hk.elim | (dsimp only at hk ⊢; omega))
        exact wp_some ⟨mr1_323, (muU_le c1)⟩
theorem T_Crowd_seeWhoIsThere (M : Mem) : wpO (F_Crowd_seeWhoIsThere M) (fun r => Same (fun k => k = 82) M r) := by
  unfold F_Crowd_seeWhoIsThere
  unfold F_Crowd_seeWhoIsThere_l2
  refine wp_bind (Ψ := fun r_324 => Same (fun k => k = 82) M r_324) (wp_while (P := fun w9 => Same (fun k => k = 82) M w9.2) (μ := fun w9 => muU w9.1) (fun w9 hz => wp_mono (T_Crowd_seeWhoIsThere_b2  w9) (fun x hx => ?_)) FUEL ((0 : Int32), M) Same.rfl' (mu_fuel _)) ?_
  · rcases x with x | x
    · exact ⟨hz.trans (hx.1.mono (fun k hk => by first | omega | exact hk.elim | (dsimp only at hk ⊢; omega))), hx.2⟩
    · exact hz.trans (hx.mono (fun k hk => by first | omega | exact hk.elim | (dsimp only at hk ⊢; omega)))
  intro r_324 hr_324
  exact wp_some hr_324
theorem T_Crowd_isThere (x1 : Int32) (M : Mem) : wpO (F_Crowd_isThere x1 M) (fun r => True) := by
  unfold F_Crowd_isThere
  refine wp_bind (T_Row_at 82 8 x1 M) (fun r1 hr1 => ?_)
  refine wp_if (fun c1 => ?_) (fun c1 => ?_)
  · exact wp_some trivial
  · exact wp_some trivial
theorem T_Walk_start (x1 : Int32) (x2 : Int32) (M : Mem) : wpO (F_Walk_start x1 x2 M) (fun r => Same (fun k => k = 79) M r) := by
  unfold F_Walk_start
  exact wp_some ((((((((Same.rfl').sI (by first | omega | (dsimp only; omega)))).sI (by first | omega | (dsimp only; omega)))).sI (by first | omega | (dsimp only; omega)))).sI (by first | omega | (dsimp only; omega)))
theorem T_Walk_goOn (x1 : Int32) (x2 : Int32) (M : Mem) : wpO (F_Walk_goOn x1 x2 M) (fun r => Same (fun k => k = 79) M r) := by
  unfold F_Walk_goOn
  refine wp_bind (T_Well_nextOf (M.1 79 1) (M.1 79 3) x1 M) (fun r1 hr1 => ?_)
  refine wp_bind (T_Well_nextOf ((mSI M 79 3 r1).1 79 2) ((mSI M 79 3 r1).1 79 4) x2 (mSI M 79 3 r1)) (fun r2 hr2 => ?_)
  exact wp_some ((((Same.rfl').sI (by first | omega | (dsimp only; omega)))).sI (by first | omega | (dsimp only; omega)))
theorem T_Walk_gotInRounds_b11 (z : Int32 × Int32 × Mem) : wpO (F_Walk_gotInRounds_b11 z) (fun r => (match r with | .inl s => Same (fun k => k = 79) z.2.2 s.2.2 ∧ muU s.2.1 < muU z.2.1 | .inr r => Same (fun k => k = 79) z.2.2 r.2)) := by
  unfold F_Walk_gotInRounds_b11
  refine wp_if (fun c1 => ?_) (fun c1 => ?_)
  · exact wp_some Same.rfl'
  · refine wp_bind (T_Well_actOf (z.2.2.1 79 1) (z.2.2.1 79 3) z.2.2) (fun r2 hr2 => ?_)
    refine wp_bind (T_Well_actOf (z.2.2.1 79 2) (z.2.2.1 79 4) z.2.2) (fun r3 hr3 => ?_)
    refine wp_bind (T_Well_bringsTo 0 r2 r3 z.2.2) (fun r4 hr4 => ?_)
    refine wp_bind (T_Walk_goOn r3 r2 z.2.2) (fun r5 hr5 => ?_)
    have mr5 : Same (fun k => k = 79) z.2.2 r5 := hr5.mono (fun k hk => by first | omega | exact hk.elim | (dsimp only at hk ⊢; omega))
    exact wp_some ⟨mr5, (muU_le c1)⟩
theorem T_Walk_gotInRounds (x1 : Int32) (x2 : Int32) (M : Mem) : wpO (F_Walk_gotInRounds x1 x2 M) (fun r => Same (fun k => k = 79) M r.2) := by
  unfold F_Walk_gotInRounds
  refine wp_bind (T_Walk_start x1 x2 M) (fun r1 hr1 => ?_)
  have mr1 : Same (fun k => k = 79) M r1 := hr1.mono (fun k hk => by first | omega | exact hk.elim | (dsimp only at hk ⊢; omega))
  unfold F_Walk_gotInRounds_l11
  refine wp_bind (Ψ := fun r_325 => Same (fun k => k = 79) M r_325.2) (wp_while (P := fun w9 => Same (fun k => k = 79) M w9.2.2) (μ := fun w9 => muU w9.2.1) (fun w9 hz => wp_mono (T_Walk_gotInRounds_b11  w9) (fun x hx => ?_)) FUEL ((0 : Int32), (0 : Int32), r1) mr1 (mu_fuel _)) ?_
  · rcases x with x | x
    · exact ⟨hz.trans (hx.1.mono (fun k hk => by first | omega | exact hk.elim | (dsimp only at hk ⊢; omega))), hx.2⟩
    · exact hz.trans (hx.mono (fun k hk => by first | omega | exact hk.elim | (dsimp only at hk ⊢; omega)))
  intro r_325 hr_325
  exact wp_some hr_325
theorem T_Crowd_meetAll_b10 (x1 : Int32) (z : Int32 × Mem) : wpO (F_Crowd_meetAll_b10 x1 z) (fun r => (match r with | .inl s => Same (fun k => k = 79 ∨ k = 84) z.2 s.2 ∧ muU s.1 < muU z.1 | .inr r => Same (fun k => k = 79 ∨ k = 84) z.2 r)) := by
  unfold F_Crowd_meetAll_b10
  refine wp_if (fun c1 => ?_) (fun c1 => ?_)
  · exact wp_some Same.rfl'
  · refine wp_bind (T_Crowd_isThere x1 z.2) (fun r1 hr1 => ?_)
    refine wp_if (fun c2 => ?_) (fun c2 => ?_)
    · refine wp_bind (T_Crowd_isThere z.1 z.2) (fun r4 hr4 => ?_)
      refine wp_if (fun c3 => ?_) (fun c3 => ?_)
      · unfold F_Crowd_meetAll_j37
        refine wp_if (fun c4 => ?_) (fun c4 => ?_)
        · refine wp_bind (T_Walk_gotInRounds x1 z.1 z.2) (fun r3_335 hr3_335 => ?_)
          have mr3_335 : Same (fun k => k = 79 ∨ k = 84) z.2 r3_335.2 := hr3_335.mono (fun k hk => by first | omega | exact hk.elim | (dsimp only at hk ⊢; omega))
          unfold F_Crowd_meetAll_j66
          refine wp_bind (T_Row_put 84 64 ((8 * x1) + z.1) r3_335.1.toInt64 r3_335.2) (fun r2_336 hr2_336 => ?_)
          have mr2_336 : Same (fun k => k = 79 ∨ k = 84) z.2 r2_336 := (mr3_335).trans (hr2_336.mono (fun k hk => by first | omega | exact hk.elim | (dsimp only at hk ⊢; omega)))
          exact wp_some ⟨mr2_336, (muU_le c1)⟩
        · unfold F_Crowd_meetAll_j66
          refine wp_bind (T_Row_put 84 64 ((8 * x1) + z.1) (0 : Int64) z.2) (fun r2_337 hr2_337 => ?_)
          have mr2_337 : Same (fun k => k = 79 ∨ k = 84) z.2 r2_337 := hr2_337.mono (fun k hk => by first | omega | exact hk.elim | (dsimp only at hk ⊢; omega))
          exact wp_some ⟨mr2_337, (muU_le c1)⟩
      · unfold F_Crowd_meetAll_j37
        refine wp_if (fun c5 => ?_) (fun c5 => ?_)
        · refine wp_bind (T_Walk_gotInRounds x1 z.1 z.2) (fun r3_338 hr3_338 => ?_)
          have mr3_338 : Same (fun k => k = 79 ∨ k = 84) z.2 r3_338.2 := hr3_338.mono (fun k hk => by first | omega | exact hk.elim | (dsimp only at hk ⊢; omega))
          unfold F_Crowd_meetAll_j66
          refine wp_bind (T_Row_put 84 64 ((8 * x1) + z.1) r3_338.1.toInt64 r3_338.2) (fun r2_339 hr2_339 => ?_)
          have mr2_339 : Same (fun k => k = 79 ∨ k = 84) z.2 r2_339 := (mr3_338).trans (hr2_339.mono (fun k hk => by first | omega | exact hk.elim | (dsimp only at hk ⊢; omega)))
          exact wp_some ⟨mr2_339, (muU_le c1)⟩
        · unfold F_Crowd_meetAll_j66
          refine wp_bind (T_Row_put 84 64 ((8 * x1) + z.1) (0 : Int64) z.2) (fun r2_340 hr2_340 => ?_)
          have mr2_340 : Same (fun k => k = 79 ∨ k = 84) z.2 r2_340 := hr2_340.mono (fun k hk => by first | omega | exact hk.elim | (dsimp only at hk ⊢; omega))
          exact wp_some ⟨mr2_340, (muU_le c1)⟩
    · unfold F_Crowd_meetAll_j37
      refine wp_if (fun c6 => ?_) (fun c6 => ?_)
      · refine wp_bind (T_Walk_gotInRounds x1 z.1 z.2) (fun r3_341 hr3_341 => ?_)
        have mr3_341 : Same (fun k => k = 79 ∨ k = 84) z.2 r3_341.2 := hr3_341.mono (fun k hk => by first | omega | exact hk.elim | (dsimp only at hk ⊢; omega))
        unfold F_Crowd_meetAll_j66
        refine wp_bind (T_Row_put 84 64 ((8 * x1) + z.1) r3_341.1.toInt64 r3_341.2) (fun r2_342 hr2_342 => ?_)
        have mr2_342 : Same (fun k => k = 79 ∨ k = 84) z.2 r2_342 := (mr3_341).trans (hr2_342.mono (fun k hk => by first | omega | exact hk.elim | (dsimp only at hk ⊢; omega)))
        exact wp_some ⟨mr2_342, (muU_le c1)⟩
      · unfold F_Crowd_meetAll_j66
        refine wp_bind (T_Row_put 84 64 ((8 * x1) + z.1) (0 : Int64) z.2) (fun r2_343 hr2_343 => ?_)
        have mr2_343 : Same (fun k => k = 79 ∨ k = 84) z.2 r2_343 := hr2_343.mono (fun k hk => by first | omega | exact hk.elim | (dsimp only at hk ⊢; omega))
        exact wp_some ⟨mr2_343, (muU_le c1)⟩
theorem T_Crowd_meetAll_b2 (z : Int32 × Mem) : wpO (F_Crowd_meetAll_b2 z) (fun r => (match r with | .inl s => Same (fun k => k = 79 ∨ k = 84) z.2 s.2 ∧ muU s.1 < muU z.1 | .inr r => Same (fun k => k = 79 ∨ k = 84) z.2 r)) := by
  unfold F_Crowd_meetAll_b2
  refine wp_if (fun c1 => ?_) (fun c1 => ?_)
  · exact wp_some Same.rfl'
  · unfold F_Crowd_meetAll_l10
    refine wp_bind (Ψ := fun r_345 => Same (fun k => k = 79 ∨ k = 84) z.2 r_345) (wp_while (P := fun w9 => Same (fun k => k = 79 ∨ k = 84) z.2 w9.2) (μ := fun w9 => muU w9.1) (fun w9 hz => wp_mono (T_Crowd_meetAll_b10 z.1 w9) (fun x hx => ?_)) FUEL ((0 : Int32), z.2) Same.rfl' (mu_fuel _)) ?_
    · rcases x with x | x
      · exact ⟨hz.trans (hx.1.mono (fun k hk => by first | omega | exact hk.elim | (dsimp only at hk ⊢; omega))), hx.2⟩
      · exact hz.trans (hx.mono (fun k hk => by first | omega | exact hk.elim | (dsimp only at hk ⊢; omega)))
    intro r_345 hr_345
    exact wp_some ⟨hr_345, (muU_le c1)⟩
theorem T_Crowd_meetAll (M : Mem) : wpO (F_Crowd_meetAll M) (fun r => Same (fun k => k = 79 ∨ k = 84) M r) := by
  unfold F_Crowd_meetAll
  unfold F_Crowd_meetAll_l2
  refine wp_bind (Ψ := fun r_346 => Same (fun k => k = 79 ∨ k = 84) M r_346) (wp_while (P := fun w9 => Same (fun k => k = 79 ∨ k = 84) M w9.2) (μ := fun w9 => muU w9.1) (fun w9 hz => wp_mono (T_Crowd_meetAll_b2  w9) (fun x hx => ?_)) FUEL ((0 : Int32), M) Same.rfl' (mu_fuel _)) ?_
  · rcases x with x | x
    · exact ⟨hz.trans (hx.1.mono (fun k hk => by first | omega | exact hk.elim | (dsimp only at hk ⊢; omega))), hx.2⟩
    · exact hz.trans (hx.mono (fun k hk => by first | omega | exact hk.elim | (dsimp only at hk ⊢; omega)))
  intro r_346 hr_346
  exact wp_some hr_346
theorem T_Crowd_keepsOut (x1 : Int32) (x2 : Int32) (M : Mem) : wpO (F_Crowd_keepsOut x1 x2 M) (fun r => Same (fun k => k = 79) M r.2) := by
  unfold F_Crowd_keepsOut
  refine wp_bind (T_Walk_gotInRounds x1 x1 M) (fun r1 hr1 => ?_)
  have mr1 : Same (fun k => k = 79) M r1.2 := hr1.mono (fun k hk => by first | omega | exact hk.elim | (dsimp only at hk ⊢; omega))
  refine wp_bind (T_Walk_gotInRounds x2 x1 r1.2) (fun r2 hr2 => ?_)
  have mr2 : Same (fun k => k = 79) M r2.2 := (mr1).trans (hr2.mono (fun k hk => by first | omega | exact hk.elim | (dsimp only at hk ⊢; omega)))
  refine wp_if (fun c1 => ?_) (fun c1 => ?_)
  · exact wp_some mr2
  · refine wp_if (fun c2 => ?_) (fun c2 => ?_)
    · refine wp_bind (T_Walk_gotInRounds x1 x2 r2.2) (fun r3 hr3 => ?_)
      have mr3 : Same (fun k => k = 79) M r3.2 := (mr2).trans (hr3.mono (fun k hk => by first | omega | exact hk.elim | (dsimp only at hk ⊢; omega)))
      refine wp_bind (T_Walk_gotInRounds x2 x2 r3.2) (fun r4 hr4 => ?_)
      have mr4 : Same (fun k => k = 79) M r4.2 := (mr3).trans (hr4.mono (fun k hk => by first | omega | exact hk.elim | (dsimp only at hk ⊢; omega)))
      refine wp_if (fun c3 => ?_) (fun c3 => ?_)
      · exact wp_some mr4
      · exact wp_some mr4
    · exact wp_some mr2
theorem T_Crowd_keepsOthersOut_b6 (x1 : Int32) (z : Int32 × Mem) : wpO (F_Crowd_keepsOthersOut_b6 x1 z) (fun r => (match r with | .inl s => Same (fun k => k = 79) z.2 s.2 ∧ muU s.1 < muU z.1 | .inr r => (match r with | .inl s => Same (fun k => k = 79) z.2 s | .inr r => Same (fun k => k = 79) z.2 r))) := by
  unfold F_Crowd_keepsOthersOut_b6
  refine wp_if (fun c1 => ?_) (fun c1 => ?_)
  · exact wp_some Same.rfl'
  · refine wp_if (fun c2 => ?_) (fun c2 => ?_)
    · exact wp_some ⟨Same.rfl', (muU_le c1)⟩
    · refine wp_bind (T_Crowd_isThere z.1 z.2) (fun r2 hr2 => ?_)
      refine wp_if (fun c3 => ?_) (fun c3 => ?_)
      · refine wp_bind (T_Crowd_keepsOut x1 z.1 z.2) (fun r3 hr3 => ?_)
        have mr3 : Same (fun k => k = 79) z.2 r3.2 := hr3.mono (fun k hk => by first | omega | exact hk.elim | (dsimp only at hk ⊢; omega))
        refine wp_if (fun c4 => ?_) (fun c4 => ?_)
        · exact wp_some ⟨mr3, (muU_le c1)⟩
        · exact wp_some mr3
      · exact wp_some ⟨Same.rfl', (muU_le c1)⟩
theorem T_Crowd_keepsOthersOut (x1 : Int32) (M : Mem) : wpO (F_Crowd_keepsOthersOut x1 M) (fun r => Same (fun k => k = 79 ∨ k = 82) M r.2) := by
  unfold F_Crowd_keepsOthersOut
  refine wp_bind (T_Crowd_seeWhoIsThere M) (fun r1 hr1 => ?_)
  have mr1 : Same (fun k => k = 79 ∨ k = 82) M r1 := hr1.mono (fun k hk => by first | omega | exact hk.elim | (dsimp only at hk ⊢; omega))
  unfold F_Crowd_keepsOthersOut_l6
  refine wp_bind (Ψ := fun q_347 => (match q_347 with | .inl s => Same (fun k => k = 79 ∨ k = 82) M s | .inr r => Same (fun k => k = 79 ∨ k = 82) M r)) (wp_while (P := fun w9 => Same (fun k => k = 79 ∨ k = 82) M w9.2) (μ := fun w9 => muU w9.1) (fun w9 hz => wp_mono (T_Crowd_keepsOthersOut_b6 x1 w9) (fun x hx => ?_)) FUEL ((0 : Int32), r1) mr1 (mu_fuel _)) ?_
  · rcases x with x | x
    · exact ⟨hz.trans (hx.1.mono (fun k hk => by first | omega | exact hk.elim | (dsimp only at hk ⊢; omega))), hx.2⟩
    · rcases x with x | x
      · exact hz.trans (hx.mono (fun k hk => by first | omega | exact hk.elim | (dsimp only at hk ⊢; omega)))
      · exact hz.trans (hx.mono (fun k hk => by first | omega | exact hk.elim | (dsimp only at hk ⊢; omega)))
  intro q_347 hq_347
  rcases q_347 with y1 | y1
  · exact wp_some hq_347
  · exact wp_some hq_347
theorem T_Crowd_fitOf_b5 (x1 : Int32) (M : Mem) (z : Int64 × Int32) : wpO (F_Crowd_fitOf_b5 x1 M z) (fun r => (match r with | .inl s => muU s.2 < muU z.2 | .inr r => True)) := by
  unfold F_Crowd_fitOf_b5
  refine wp_if (fun c1 => ?_) (fun c1 => ?_)
  · exact wp_some trivial
  · refine wp_bind (T_Row_at 84 64 ((8 * x1) + z.2) M) (fun r1 hr1 => ?_)
    refine wp_bind (T_Row_at 9 8 z.2 M) (fun r2 hr2 => ?_)
    exact wp_some (muU_le c1)
theorem T_Crowd_fitOf (x1 : Int32) (M : Mem) : wpO (F_Crowd_fitOf x1 M) (fun r => True) := by
  unfold F_Crowd_fitOf
  unfold F_Crowd_fitOf_l5
  refine wp_bind (Ψ := fun r_348 => True) (wp_while (P := fun _ => True) (μ := fun w9 => muU w9.2) (fun w9 hz => wp_mono (T_Crowd_fitOf_b5 x1 M w9) (fun x hx => ?_)) FUEL ((0 : Int64), (0 : Int32)) trivial (mu_fuel _)) ?_
  · rcases x with x | x
    · exact ⟨trivial, hx⟩
    · trivial
  intro r_348 hr_348
  exact wp_some trivial
theorem T_Crowd_findPart (x1 : Int32) (x2 : Int64) (x4 : Int64) (M : Mem) : wpO (F_Crowd_findPart x1 x2 x4 M) (fun r => Same (fun k => (88 ≤ k ∧ k ≤ 90)) M r) := by
  unfold F_Crowd_findPart
  refine wp_if (fun c1 => ?_) (fun c1 => ?_)
  · refine wp_bind (T_Row_at 86 8 x1 M) (fun r1 hr1 => ?_)
    refine wp_t (by decide) ?_
    refine wp_t (by intro q; rw [q] at c1; exact absurd c1 (by decide)) ?_
    refine wp_t (by decide) ?_
    refine wp_t (by intro q; rw [q] at c1; exact absurd c1 (by decide)) ?_
    refine wp_t (by intro q; rw [q] at c1; exact absurd c1 (by decide)) ?_
    refine wp_bind (T_Row_put 90 8 x1 (((((x2 / 1024) * r1) / x4) * 1024) + ((((lrm ((x2 / 1024) * r1) x4) * 1024) + ((lrm x2 1024) * r1)) / x4)) M) (fun r2 hr2 => ?_)
    have mr2 : Same (fun k => (88 ≤ k ∧ k ≤ 90)) M r2 := hr2.mono (fun k hk => by first | omega | exact hk.elim | (dsimp only at hk ⊢; omega))
    refine wp_t (by intro q; rw [q] at c1; exact absurd c1 (by decide)) ?_
    refine wp_bind (T_Row_put 88 8 x1 (lrm (((lrm ((x2 / 1024) * r1) x4) * 1024) + ((lrm x2 1024) * r1)) x4) r2) (fun r3 hr3 => ?_)
    have mr3 : Same (fun k => (88 ≤ k ∧ k ≤ 90)) M r3 := (mr2).trans (hr3.mono (fun k hk => by first | omega | exact hk.elim | (dsimp only at hk ⊢; omega)))
    exact wp_some mr3
  · exact wp_some Same.rfl'
theorem T_Crowd_giveToGreatestRest_b4 (M : Mem) (z : Int32 × Int32) : wpO (F_Crowd_giveToGreatestRest_b4 M z) (fun r => (match r with | .inl s => muU s.2 < muU z.2 | .inr r => True)) := by
  unfold F_Crowd_giveToGreatestRest_b4
  refine wp_if (fun c1 => ?_) (fun c1 => ?_)
  · exact wp_some trivial
  · refine wp_bind (T_Row_at 88 8 z.2 M) (fun r3 hr3 => ?_)
    refine wp_bind (T_Row_at 88 8 z.1 M) (fun r4 hr4 => ?_)
    refine wp_if (fun c2 => ?_) (fun c2 => ?_)
    · exact wp_some (muU_le c1)
    · exact wp_some (muU_le c1)
theorem T_Crowd_giveToGreatestRest (M : Mem) : wpO (F_Crowd_giveToGreatestRest M) (fun r => Same (fun k => (88 ≤ k ∧ k ≤ 90)) M r) := by
  unfold F_Crowd_giveToGreatestRest
  unfold F_Crowd_giveToGreatestRest_l4
  refine wp_bind (Ψ := fun r_349 => True) (wp_while (P := fun _ => True) (μ := fun w9 => muU w9.2) (fun w9 hz => wp_mono (T_Crowd_giveToGreatestRest_b4 M w9) (fun x hx => ?_)) FUEL ((0 : Int32), (1 : Int32)) trivial (mu_fuel _)) ?_
  · rcases x with x | x
    · exact ⟨trivial, hx⟩
    · trivial
  intro r_349 hr_349
  unfold F_Crowd_giveToGreatestRest_j38
  refine wp_bind (T_Row_add 90 8 r_349 1 M) (fun r1_350 hr1_350 => ?_)
  have mr1_350 : Same (fun k => (88 ≤ k ∧ k ≤ 90)) M r1_350 := hr1_350.mono (fun k hk => by first | omega | exact hk.elim | (dsimp only at hk ⊢; omega))
  refine wp_bind (T_Row_put 88 8 r_349 ((-1)) r1_350) (fun r2_351 hr2_351 => ?_)
  have mr2_351 : Same (fun k => (88 ≤ k ∧ k ≤ 90)) M r2_351 := (mr1_350).trans (hr2_351.mono (fun k hk => by first | omega | exact hk.elim | (dsimp only at hk ⊢; omega)))
  exact wp_some mr2_351
theorem T_Crowd_takeLater_b4 (z : Bool × Int32 × Mem) : wpO (F_Crowd_takeLater_b4 z) (fun r => (match r with | .inl s => Same (fun k => k = 9) z.2.2 s.2.2 ∧ muU s.2.1 < muU z.2.1 | .inr r => Same (fun k => k = 9) z.2.2 r.2)) := by
  unfold F_Crowd_takeLater_b4
  refine wp_if (fun c1 => ?_) (fun c1 => ?_)
  · exact wp_some Same.rfl'
  · refine wp_bind (T_Crowd_isThere z.2.1 z.2.2) (fun r1 hr1 => ?_)
    refine wp_if (fun c2 => ?_) (fun c2 => ?_)
    · refine wp_if (fun c3 => ?_) (fun c3 => ?_)
      · unfold F_Crowd_takeLater_j50
        refine wp_bind (T_Row_at 90 8 z.2.1 z.2.2) (fun r2_358 hr2_358 => ?_)
        refine wp_bind (T_Row_put 9 8 z.2.1 r2_358 z.2.2) (fun r3_359 hr3_359 => ?_)
        have mr3_359 : Same (fun k => k = 9) z.2.2 r3_359 := hr3_359.mono (fun k hk => by first | omega | exact hk.elim | (dsimp only at hk ⊢; omega))
        exact wp_some ⟨mr3_359, (muU_le c1)⟩
      · refine wp_bind (T_Row_at 90 8 z.2.1 z.2.2) (fun r4 hr4 => ?_)
        refine wp_bind (T_Row_at 9 8 z.2.1 z.2.2) (fun r5 hr5 => ?_)
        refine wp_if (fun c4 => ?_) (fun c4 => ?_)
        · unfold F_Crowd_takeLater_j50
          refine wp_bind (T_Row_at 90 8 z.2.1 z.2.2) (fun r2_360 hr2_360 => ?_)
          refine wp_bind (T_Row_put 9 8 z.2.1 r2_360 z.2.2) (fun r3_361 hr3_361 => ?_)
          have mr3_361 : Same (fun k => k = 9) z.2.2 r3_361 := hr3_361.mono (fun k hk => by first | omega | exact hk.elim | (dsimp only at hk ⊢; omega))
          exact wp_some ⟨mr3_361, (muU_le c1)⟩
        · unfold F_Crowd_takeLater_j50
          refine wp_bind (T_Row_at 90 8 z.2.1 z.2.2) (fun r2_362 hr2_362 => ?_)
          refine wp_bind (T_Row_put 9 8 z.2.1 r2_362 z.2.2) (fun r3_363 hr3_363 => ?_)
          have mr3_363 : Same (fun k => k = 9) z.2.2 r3_363 := hr3_363.mono (fun k hk => by first | omega | exact hk.elim | (dsimp only at hk ⊢; omega))
          exact wp_some ⟨mr3_363, (muU_le c1)⟩
    · exact wp_some ⟨Same.rfl', (muU_le c1)⟩
theorem T_Crowd_takeLater (M : Mem) : wpO (F_Crowd_takeLater M) (fun r => Same (fun k => k = 9) M r.2) := by
  unfold F_Crowd_takeLater
  unfold F_Crowd_takeLater_l4
  refine wp_bind (Ψ := fun r_364 => Same (fun k => k = 9) M r_364.2) (wp_while (P := fun w9 => Same (fun k => k = 9) M w9.2.2) (μ := fun w9 => muU w9.2.1) (fun w9 hz => wp_mono (T_Crowd_takeLater_b4  w9) (fun x hx => ?_)) FUEL (false, (0 : Int32), M) Same.rfl' (mu_fuel _)) ?_
  · rcases x with x | x
    · exact ⟨hz.trans (hx.1.mono (fun k hk => by first | omega | exact hk.elim | (dsimp only at hk ⊢; omega))), hx.2⟩
    · exact hz.trans (hx.mono (fun k hk => by first | omega | exact hk.elim | (dsimp only at hk ⊢; omega)))
  intro r_364 hr_364
  exact wp_some hr_364
theorem T_Crowd_growOneStep_b150 (x5 : Int64) (z : Int32 × Mem) : wpO (F_Crowd_growOneStep_b150 x5 z) (fun r => (match r with | .inl s => Same (fun k => (88 ≤ k ∧ k ≤ 90)) z.2 s.2 ∧ muU s.1 < muU z.1 | .inr r => Same (fun k => (88 ≤ k ∧ k ≤ 90)) z.2 r)) := by
  unfold F_Crowd_growOneStep_b150
  refine wp_if (fun c1 => ?_) (fun c1 => ?_)
  · exact wp_some Same.rfl'
  · refine wp_if (fun c2 => ?_) (fun c2 => ?_)
    · exact wp_some Same.rfl'
    · refine wp_bind (T_Crowd_giveToGreatestRest z.2) (fun r2 hr2 => ?_)
      have mr2 : Same (fun k => (88 ≤ k ∧ k ≤ 90)) z.2 r2 := hr2.mono (fun k hk => by first | omega | exact hk.elim | (dsimp only at hk ⊢; omega))
      exact wp_some ⟨mr2, (muU_le c1)⟩
theorem T_Crowd_growOneStep_b112 (x1 : Int64) (x3 : Int64) (z : Int64 × Int32 × Mem) : wpO (F_Crowd_growOneStep_b112 x1 x3 z) (fun r => (match r with | .inl s => Same (fun k => (88 ≤ k ∧ k ≤ 90)) z.2.2 s.2.2 ∧ muU s.2.1 < muU z.2.1 | .inr r => Same (fun k => (88 ≤ k ∧ k ≤ 90)) z.2.2 r.2)) := by
  unfold F_Crowd_growOneStep_b112
  refine wp_if (fun c1 => ?_) (fun c1 => ?_)
  · exact wp_some Same.rfl'
  · refine wp_bind (T_Crowd_findPart z.2.1 x1 x3 z.2.2) (fun r3 hr3 => ?_)
    have mr3 : Same (fun k => (88 ≤ k ∧ k ≤ 90)) z.2.2 r3 := hr3.mono (fun k hk => by first | omega | exact hk.elim | (dsimp only at hk ⊢; omega))
    refine wp_bind (T_Row_at 90 8 z.2.1 r3) (fun r4 hr4 => ?_)
    exact wp_some ⟨mr3, (muU_le c1)⟩
theorem T_Crowd_growOneStep_b7 (z : Int64 × Int64 × Int32 × Mem) : wpO (F_Crowd_growOneStep_b7 z) (fun r => (match r with | .inl s => Same (fun k => k = 86) z.2.2.2 s.2.2.2 ∧ muU s.2.2.1 < muU z.2.2.1 | .inr r => Same (fun k => k = 86) z.2.2.2 r.2.2)) := by
  unfold F_Crowd_growOneStep_b7
  refine wp_if (fun c1 => ?_) (fun c1 => ?_)
  · exact wp_some Same.rfl'
  · refine wp_bind (T_Crowd_isThere z.2.2.1 z.2.2.2) (fun r5 hr5 => ?_)
    refine wp_if (fun c2 => ?_) (fun c2 => ?_)
    · refine wp_bind (T_Row_at 9 8 z.2.2.1 z.2.2.2) (fun r9 hr9 => ?_)
      refine wp_bind (T_Crowd_fitOf z.2.2.1 z.2.2.2) (fun r10 hr10 => ?_)
      unfold F_Crowd_growOneStep_j46
      refine wp_bind (T_Row_put 86 8 z.2.2.1 (r9 * r10) z.2.2.2) (fun r6_371 hr6_371 => ?_)
      have mr6_371 : Same (fun k => k = 86) z.2.2.2 r6_371 := hr6_371.mono (fun k hk => by first | omega | exact hk.elim | (dsimp only at hk ⊢; omega))
      refine wp_bind (T_Crowd_isThere z.2.2.1 r6_371) (fun r7_372 hr7_372 => ?_)
      refine wp_if (fun c3 => ?_) (fun c3 => ?_)
      · refine wp_bind (T_Row_at 9 8 z.2.2.1 r6_371) (fun r8_373 hr8_373 => ?_)
        exact wp_some ⟨mr6_371, (muU_le c1)⟩
      · exact wp_some ⟨mr6_371, (muU_le c1)⟩
    · unfold F_Crowd_growOneStep_j46
      refine wp_bind (T_Row_put 86 8 z.2.2.1 (0 : Int64) z.2.2.2) (fun r6_374 hr6_374 => ?_)
      have mr6_374 : Same (fun k => k = 86) z.2.2.2 r6_374 := hr6_374.mono (fun k hk => by first | omega | exact hk.elim | (dsimp only at hk ⊢; omega))
      refine wp_bind (T_Crowd_isThere z.2.2.1 r6_374) (fun r7_375 hr7_375 => ?_)
      refine wp_if (fun c4 => ?_) (fun c4 => ?_)
      · refine wp_bind (T_Row_at 9 8 z.2.2.1 r6_374) (fun r8_376 hr8_376 => ?_)
        exact wp_some ⟨mr6_374, (muU_le c1)⟩
      · exact wp_some ⟨mr6_374, (muU_le c1)⟩
theorem T_Crowd_growOneStep (M : Mem) : wpO (F_Crowd_growOneStep M) (fun r => Same (fun k => k = 9 ∨ (86 ≤ k ∧ k ≤ 90)) M r.2) := by
  unfold F_Crowd_growOneStep
  unfold F_Crowd_growOneStep_l7
  refine wp_bind (Ψ := fun r_377 => Same (fun k => k = 9 ∨ (86 ≤ k ∧ k ≤ 90)) M r_377.2.2) (wp_while (P := fun w9 => Same (fun k => k = 9 ∨ (86 ≤ k ∧ k ≤ 90)) M w9.2.2.2) (μ := fun w9 => muU w9.2.2.1) (fun w9 hz => wp_mono (T_Crowd_growOneStep_b7  w9) (fun x hx => ?_)) FUEL ((0 : Int64), (0 : Int64), (0 : Int32), M) Same.rfl' (mu_fuel _)) ?_
  · rcases x with x | x
    · exact ⟨hz.trans (hx.1.mono (fun k hk => by first | omega | exact hk.elim | (dsimp only at hk ⊢; omega))), hx.2⟩
    · exact hz.trans (hx.mono (fun k hk => by first | omega | exact hk.elim | (dsimp only at hk ⊢; omega)))
  intro r_377 hr_377
  unfold F_Crowd_growOneStep_j98
  refine wp_if (fun c1 => ?_) (fun c1 => ?_)
  · unfold F_Crowd_growOneStep_l112
    refine wp_bind (Ψ := fun r_378 => Same (fun k => k = 9 ∨ (86 ≤ k ∧ k ≤ 90)) M r_378.2) (wp_while (P := fun w9 => Same (fun k => k = 9 ∨ (86 ≤ k ∧ k ≤ 90)) M w9.2.2) (μ := fun w9 => muU w9.2.1) (fun w9 hz => wp_mono (T_Crowd_growOneStep_b112 r_377.1 r_377.2.1 w9) (fun x hx => ?_)) FUEL (r_377.1, (0 : Int32), r_377.2.2) hr_377 (mu_fuel _)) ?_
    · rcases x with x | x
      · exact ⟨hz.trans (hx.1.mono (fun k hk => by first | omega | exact hk.elim | (dsimp only at hk ⊢; omega))), hx.2⟩
      · exact hz.trans (hx.mono (fun k hk => by first | omega | exact hk.elim | (dsimp only at hk ⊢; omega)))
    intro r_378 hr_378
    unfold F_Crowd_growOneStep_l150
    refine wp_bind (Ψ := fun r_379 => Same (fun k => k = 9 ∨ (86 ≤ k ∧ k ≤ 90)) M r_379) (wp_while (P := fun w9 => Same (fun k => k = 9 ∨ (86 ≤ k ∧ k ≤ 90)) M w9.2) (μ := fun w9 => muU w9.1) (fun w9 hz => wp_mono (T_Crowd_growOneStep_b150 r_378.1 w9) (fun x hx => ?_)) FUEL ((0 : Int32), r_378.2) hr_378 (mu_fuel _)) ?_
    · rcases x with x | x
      · exact ⟨hz.trans (hx.1.mono (fun k hk => by first | omega | exact hk.elim | (dsimp only at hk ⊢; omega))), hx.2⟩
      · exact hz.trans (hx.mono (fun k hk => by first | omega | exact hk.elim | (dsimp only at hk ⊢; omega)))
    intro r_379 hr_379
    unfold F_Crowd_growOneStep_j176
    refine wp_bind (T_Crowd_takeLater r_379) (fun r1_380 hr1_380 => ?_)
    have mr1_380 : Same (fun k => k = 9 ∨ (86 ≤ k ∧ k ≤ 90)) M r1_380.2 := (hr_379).trans (hr1_380.mono (fun k hk => by first | omega | exact hk.elim | (dsimp only at hk ⊢; omega)))
    exact wp_some mr1_380
  · exact wp_some hr_377
theorem T_Crowd_growSteps_b12 (x1 : Int32) (z : Int32 × Int32 × Mem) : wpO (F_Crowd_growSteps_b12 x1 z) (fun r => (match r with | .inl s => Same (fun k => k = 9 ∨ (86 ≤ k ∧ k ≤ 90)) z.2.2 s.2.2 ∧ muU s.2.1 < muU z.2.1 | .inr r => Same (fun k => k = 9 ∨ (86 ≤ k ∧ k ≤ 90)) z.2.2 r.2)) := by
  unfold F_Crowd_growSteps_b12
  refine wp_if (fun c1 => ?_) (fun c1 => ?_)
  · exact wp_some Same.rfl'
  · refine wp_bind (T_Crowd_growOneStep z.2.2) (fun r3 hr3 => ?_)
    have mr3 : Same (fun k => k = 9 ∨ (86 ≤ k ∧ k ≤ 90)) z.2.2 r3.2 := hr3.mono (fun k hk => by first | omega | exact hk.elim | (dsimp only at hk ⊢; omega))
    refine wp_if (fun c2 => ?_) (fun c2 => ?_)
    · exact wp_some ⟨mr3, (muU_le c1)⟩
    · exact wp_some ⟨mr3, (muU_le c1)⟩
theorem T_Crowd_growSteps (x1 : Int32) (M : Mem) : wpO (F_Crowd_growSteps x1 M) (fun r => Same (fun k => k = 9 ∨ k = 79 ∨ (82 ≤ k ∧ k ≤ 90)) M r.2) := by
  unfold F_Crowd_growSteps
  refine wp_bind (T_Crowd_seeWhoIsThere M) (fun r1 hr1 => ?_)
  have mr1 : Same (fun k => k = 9 ∨ k = 79 ∨ (82 ≤ k ∧ k ≤ 90)) M r1 := hr1.mono (fun k hk => by first | omega | exact hk.elim | (dsimp only at hk ⊢; omega))
  refine wp_bind (T_Crowd_meetAll r1) (fun r2 hr2 => ?_)
  have mr2 : Same (fun k => k = 9 ∨ k = 79 ∨ (82 ≤ k ∧ k ≤ 90)) M r2 := (mr1).trans (hr2.mono (fun k hk => by first | omega | exact hk.elim | (dsimp only at hk ⊢; omega)))
  unfold F_Crowd_growSteps_l12
  refine wp_bind (Ψ := fun r_381 => Same (fun k => k = 9 ∨ k = 79 ∨ (82 ≤ k ∧ k ≤ 90)) M r_381.2) (wp_while (P := fun w9 => Same (fun k => k = 9 ∨ k = 79 ∨ (82 ≤ k ∧ k ≤ 90)) M w9.2.2) (μ := fun w9 => muU w9.2.1) (fun w9 hz => wp_mono (T_Crowd_growSteps_b12 x1 w9) (fun x hx => ?_)) FUEL ((0 : Int32), (0 : Int32), r2) mr2 (mu_fuel _)) ?_
  · rcases x with x | x
    · exact ⟨hz.trans (hx.1.mono (fun k hk => by first | omega | exact hk.elim | (dsimp only at hk ⊢; omega))), hx.2⟩
    · exact hz.trans (hx.mono (fun k hk => by first | omega | exact hk.elim | (dsimp only at hk ⊢; omega)))
  intro r_381 hr_381
  exact wp_some hr_381
theorem T_Walk_firstOtherwise_b8 (z : Int32 × Mem) : wpO (F_Walk_firstOtherwise_b8 z) (fun r => (match r with | .inl s => Same (fun k => k = 79) z.2 s.2 ∧ muU s.1 < muU z.1 | .inr r => (match r with | .inl s => Same (fun k => k = 79) z.2 s.2 | .inr r => (match r with | .inl s => Same (fun k => k = 79) z.2 s.2 | .inr r => Same (fun k => k = 79) z.2 r)))) := by
  unfold F_Walk_firstOtherwise_b8
  refine wp_if (fun c1 => ?_) (fun c1 => ?_)
  · exact wp_some Same.rfl'
  · refine wp_bind (T_Row_small 7 400 (2 * z.1) z.2) (fun r2 hr2 => ?_)
    refine wp_bind (T_Row_small 7 400 ((2 * z.1) + 1) z.2) (fun r3 hr3 => ?_)
    refine wp_bind (T_Well_actOf (z.2.1 79 1) (z.2.1 79 3) z.2) (fun r4 hr4 => ?_)
    refine wp_if (fun c2 => ?_) (fun c2 => ?_)
    · refine wp_bind (T_Well_actOf (z.2.1 79 2) (z.2.1 79 4) z.2) (fun r5 hr5 => ?_)
      refine wp_if (fun c3 => ?_) (fun c3 => ?_)
      · refine wp_bind (T_Walk_goOn r3 r2 z.2) (fun r6 hr6 => ?_)
        have mr6 : Same (fun k => k = 79) z.2 r6 := hr6.mono (fun k hk => by first | omega | exact hk.elim | (dsimp only at hk ⊢; omega))
        exact wp_some ⟨mr6, (muU_le c1)⟩
      · exact wp_some Same.rfl'
    · exact wp_some Same.rfl'
theorem T_Walk_firstOtherwise (x1 : Int32) (x2 : Int32) (M : Mem) : wpO (F_Walk_firstOtherwise x1 x2 M) (fun r => Same (fun k => k = 79) M r.2) := by
  unfold F_Walk_firstOtherwise
  refine wp_bind (T_Walk_start x1 x2 M) (fun r1 hr1 => ?_)
  have mr1 : Same (fun k => k = 79) M r1 := hr1.mono (fun k hk => by first | omega | exact hk.elim | (dsimp only at hk ⊢; omega))
  unfold F_Walk_firstOtherwise_l8
  refine wp_bind (Ψ := fun q_382 => (match q_382 with | .inl s => Same (fun k => k = 79) M s.2 | .inr r => (match r with | .inl s => Same (fun k => k = 79) M s.2 | .inr r => Same (fun k => k = 79) M r))) (wp_while (P := fun w9 => Same (fun k => k = 79) M w9.2) (μ := fun w9 => muU w9.1) (fun w9 hz => wp_mono (T_Walk_firstOtherwise_b8  w9) (fun x hx => ?_)) FUEL ((0 : Int32), r1) mr1 (mu_fuel _)) ?_
  · rcases x with x | x
    · exact ⟨hz.trans (hx.1.mono (fun k hk => by first | omega | exact hk.elim | (dsimp only at hk ⊢; omega))), hx.2⟩
    · rcases x with x | x
      · exact hz.trans (hx.mono (fun k hk => by first | omega | exact hk.elim | (dsimp only at hk ⊢; omega)))
      · rcases x with x | x
        · exact hz.trans (hx.mono (fun k hk => by first | omega | exact hk.elim | (dsimp only at hk ⊢; omega)))
        · exact hz.trans (hx.mono (fun k hk => by first | omega | exact hk.elim | (dsimp only at hk ⊢; omega)))
  intro q_382 hq_382
  rcases q_382 with y1 | y1
  · exact wp_some hq_382
  · rcases y1 with y2 | y2
    · exact wp_some hq_382
    · exact wp_some hq_382
theorem T_Walk_broughtByRow_b4 (x1 : Int32) (M : Mem) (z : Int32 × Int32) : wpO (F_Walk_broughtByRow_b4 x1 M z) (fun r => (match r with | .inl s => muU s.2 < muU z.2 | .inr r => True)) := by
  unfold F_Walk_broughtByRow_b4
  refine wp_if (fun c1 => ?_) (fun c1 => ?_)
  · exact wp_some trivial
  · refine wp_bind (T_Row_small 7 400 (2 * z.2) M) (fun r1 hr1 => ?_)
    refine wp_bind (T_Row_small 7 400 ((2 * z.2) + 1) M) (fun r2 hr2 => ?_)
    refine wp_bind (T_Well_bringsTo x1 r1 r2 M) (fun r3 hr3 => ?_)
    exact wp_some (muU_le c1)
theorem T_Walk_broughtByRow (x1 : Int32) (M : Mem) : wpO (F_Walk_broughtByRow x1 M) (fun r => True) := by
  unfold F_Walk_broughtByRow
  unfold F_Walk_broughtByRow_l4
  refine wp_bind (Ψ := fun r_383 => True) (wp_while (P := fun _ => True) (μ := fun w9 => muU w9.2) (fun w9 hz => wp_mono (T_Walk_broughtByRow_b4 x1 M w9) (fun x hx => ?_)) FUEL ((0 : Int32), (0 : Int32)) trivial (mu_fuel _)) ?_
  · rcases x with x | x
    · exact ⟨trivial, hx⟩
    · trivial
  intro r_383 hr_383
  exact wp_some trivial
theorem T_Walk_see (x1 : Int32) (M : Mem) : wpO (F_Walk_see x1 M) (fun r => Same (fun k => k = 79) M r.2) := by
  unfold F_Walk_see
  refine wp_if (fun c1 => ?_) (fun c1 => ?_)
  · exact wp_some Same.rfl'
  · refine wp_if (fun c2 => ?_) (fun c2 => ?_)
    · refine wp_t (show ¬ (M.1 1 4) = 0 from (by intro q; rw [q] at c2; exact absurd c2 (by decide))) ?_
      refine wp_if (fun c3 => ?_) (fun c3 => ?_)
      · exact wp_some ((Same.rfl').sI (by first | omega | (dsimp only; omega)))
      · exact wp_some ((Same.rfl').sI (by first | omega | (dsimp only; omega)))
    · exact wp_some Same.rfl'
theorem T_Walk_draw_b18 (x3 : Int32) (x5 : Int32) (z : Int32 × Int32 × Mem) : wpO (F_Walk_draw_b18 x3 x5 z) (fun r => (match r with | .inl s => Same (fun k => k = 79) z.2.2 s.2.2 ∧ muU s.2.1 < muU z.2.1 | .inr r => Same (fun k => k = 79) z.2.2 r.2)) := by
  unfold F_Walk_draw_b18
  refine wp_if (fun c1 => ?_) (fun c1 => ?_)
  · exact wp_some Same.rfl'
  · refine wp_bind (T_Well_actOf (z.2.2.1 79 1) (z.2.2.1 79 3) z.2.2) (fun r2 hr2 => ?_)
    refine wp_bind (T_Well_actOf (z.2.2.1 79 2) (z.2.2.1 79 4) z.2.2) (fun r3 hr3 => ?_)
    refine wp_if (fun c2 => ?_) (fun c2 => ?_)
    · unfold F_Walk_draw_j83
      refine wp_bind (T_Walk_see r3 z.2.2) (fun r4_390 hr4_390 => ?_)
      have mr4_390 : Same (fun k => k = 79) z.2.2 r4_390.2 := hr4_390.mono (fun k hk => by first | omega | exact hk.elim | (dsimp only at hk ⊢; omega))
      refine wp_bind (T_Walk_see r2 r4_390.2) (fun r5_391 hr5_391 => ?_)
      have mr5_391 : Same (fun k => k = 79) z.2.2 r5_391.2 := (mr4_390).trans (hr5_391.mono (fun k hk => by first | omega | exact hk.elim | (dsimp only at hk ⊢; omega)))
      refine wp_bind (T_Walk_goOn r4_390.1 r5_391.1 r5_391.2) (fun r6_392 hr6_392 => ?_)
      have mr6_392 : Same (fun k => k = 79) z.2.2 r6_392 := (mr5_391).trans (hr6_392.mono (fun k hk => by first | omega | exact hk.elim | (dsimp only at hk ⊢; omega)))
      exact wp_some ⟨mr6_392, (muU_le c1)⟩
    · refine wp_bind (T_Well_bringsTo x5 r2 r3 z.2.2) (fun r7 hr7 => ?_)
      unfold F_Walk_draw_j83
      refine wp_bind (T_Walk_see r3 z.2.2) (fun r4_393 hr4_393 => ?_)
      have mr4_393 : Same (fun k => k = 79) z.2.2 r4_393.2 := hr4_393.mono (fun k hk => by first | omega | exact hk.elim | (dsimp only at hk ⊢; omega))
      refine wp_bind (T_Walk_see r2 r4_393.2) (fun r5_394 hr5_394 => ?_)
      have mr5_394 : Same (fun k => k = 79) z.2.2 r5_394.2 := (mr4_393).trans (hr5_394.mono (fun k hk => by first | omega | exact hk.elim | (dsimp only at hk ⊢; omega)))
      refine wp_bind (T_Walk_goOn r4_393.1 r5_394.1 r5_394.2) (fun r6_395 hr6_395 => ?_)
      have mr6_395 : Same (fun k => k = 79) z.2.2 r6_395 := (mr5_394).trans (hr6_395.mono (fun k hk => by first | omega | exact hk.elim | (dsimp only at hk ⊢; omega)))
      exact wp_some ⟨mr6_395, (muU_le c1)⟩
theorem T_Walk_draw (x1 : Int32) (x2 : Int32) (x3 : Int32) (x4 : Int32) (x5 : Int32) (M : Mem) : wpO (F_Walk_draw x1 x2 x3 x4 x5 M) (fun r => Same (fun k => k = 79) M r.2) := by
  unfold F_Walk_draw
  refine wp_bind (T_Walk_start x1 x2 M) (fun r1 hr1 => ?_)
  have mr1 : Same (fun k => k = 79) M r1 := hr1.mono (fun k hk => by first | omega | exact hk.elim | (dsimp only at hk ⊢; omega))
  unfold F_Walk_draw_l18
  refine wp_bind (Ψ := fun r_396 => Same (fun k => k = 79) M r_396.2) (wp_while (P := fun w9 => Same (fun k => k = 79) M w9.2.2) (μ := fun w9 => muU w9.2.1) (fun w9 hz => wp_mono (T_Walk_draw_b18 x3 x5 w9) (fun x hx => ?_)) FUEL ((0 : Int32), (0 : Int32), (mSI r1 79 5 x4)) ((mr1).sI (by first | omega | (dsimp only; omega))) (mu_fuel _)) ?_
  · rcases x with x | x
    · exact ⟨hz.trans (hx.1.mono (fun k hk => by first | omega | exact hk.elim | (dsimp only at hk ⊢; omega))), hx.2⟩
    · exact hz.trans (hx.mono (fun k hk => by first | omega | exact hk.elim | (dsimp only at hk ⊢; omega)))
  intro r_396 hr_396
  unfold F_Walk_draw_j116
  refine wp_if (fun c1 => ?_) (fun c1 => ?_)
  · refine wp_if (fun c2 => ?_) (fun c2 => ?_)
    · exact wp_some hr_396
    · exact wp_some hr_396
  · exact wp_some hr_396
