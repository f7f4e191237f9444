theorem T_Crowd_seeWhoIsThere_b2 (z : Int32 × Mem) : wpO (F_Crowd_seeWhoIsThere_b2 z) (fun r => (match r with | .inl s => Same (fun k => k = 82) z.2 s.2 ∧ muU s.1 < muU z.1 | .inr r => Same (fun k => k = 82) z.2 r)) := by
  unfold F_Crowd_seeWhoIsThere_b2
  refine wp_if (fun c1 => ?_) (fun c1 => ?_)
  · exact wp_some Same.rfl'
  · refine wp_if (fun c2 => ?_) (fun c2 => ?_)
    · unfold F_Crowd_seeWhoIsThere_j40
      refine wp_bind (T_Row_put 82 8 z.1 0 z.2) (fun r1 hr1 => ?_)
      have mr1 : Same (fun k => k = 82) z.2 r1 := hr1.mono (fun k hk => by first | omega | exact hk.elim | (dsimp only at hk ⊢; omega))
      exact wp_some ⟨mr1, (muU_le c1)⟩
    · refine wp_bind (T_Well_isBarred z.1 z.2) (fun r2 hr2 => ?_)
      refine wp_if (fun c3 => ?_) (fun c3 => ?_)
      · unfold F_Crowd_seeWhoIsThere_j40
        refine wp_bind (T_Row_put 82 8 z.1 0 z.2) (fun r1 hr1 => ?_)
        have mr1 : Same (fun k => k = 82) z.2 r1 := hr1.mono (fun k hk => by first | omega | exact hk.elim | (dsimp only at hk ⊢; omega))
        exact wp_some ⟨mr1, (muU_le c1)⟩
      · unfold F_Crowd_seeWhoIsThere_j40
        refine wp_bind (T_Row_put 82 8 z.1 1 z.2) (fun r1 hr1 => ?_)
        have mr1 : Same (fun k => k = 82) z.2 r1 := hr1.mono (fun k hk => by first | omega | exact hk.elim | (dsimp only at hk ⊢; omega))
        exact wp_some ⟨mr1, (muU_le c1)⟩
theorem T_Crowd_seeWhoIsThere (M : Mem) : wpO (F_Crowd_seeWhoIsThere M) (fun r => Same (fun k => k = 82) M r) := by
  unfold F_Crowd_seeWhoIsThere
  unfold F_Crowd_seeWhoIsThere_l2
  refine wp_bind (Ψ := fun r => Same (fun k => k = 82) M r) (wp_while (P := fun z => Same (fun k => k = 82) M z.2) (μ := fun z => muU z.1) (fun z hz => wp_mono (T_Crowd_seeWhoIsThere_b2  z) (fun x hx => ?_)) FUEL (0, M) Same.rfl' (mu_fuel _)) ?_
  · rcases x with x | x
    · exact ⟨hz.trans (hx.1.mono (fun k hk => by first | omega | exact hk.elim | (dsimp only at hk ⊢; omega))), hx.2⟩
    · exact hz.trans (hx.mono (fun k hk => by first | omega | exact hk.elim | (dsimp only at hk ⊢; omega)))
  intro r hr
  exact wp_some hr
theorem T_Crowd_isThere (x1 : Int32) (M : Mem) : wpO (F_Crowd_isThere x1 M) (fun r => True) := by
  unfold F_Crowd_isThere
  refine wp_bind (T_Row_at 82 8 x1 M) (fun r1 hr1 => ?_)
  refine wp_if (fun c1 => ?_) (fun c1 => ?_)
  · exact wp_some trivial
  · exact wp_some trivial
theorem T_Walk_start (x1 : Int32) (x2 : Int32) (M : Mem) : wpO (F_Walk_start x1 x2 M) (fun r => Same (fun k => k = 79) M r) := by
  unfold F_Walk_start
  exact wp_some ((((((((Same.rfl').sI (by first | omega | (dsimp only; omega)))).sI (by first | omega | (dsimp only; omega)))).sI (by first | omega | (dsimp only; omega)))).sI (by first | omega | (dsimp only; omega)))
theorem T_Walk_goOn (x1 : Int32) (x2 : Int32) (M : Mem) : wpO (F_Walk_goOn x1 x2 M) (fun r => Same (fun k => k = 79) M r) := by
  unfold F_Walk_goOn
  refine wp_bind (T_Well_nextOf (M.1 79 1) (M.1 79 3) x1 M) (fun r1 hr1 => ?_)
  refine wp_bind (T_Well_nextOf ((mSI M 79 3 r1).1 79 2) ((mSI M 79 3 r1).1 79 4) x2 (mSI M 79 3 r1)) (fun r2 hr2 => ?_)
  exact wp_some ((((Same.rfl').sI (by first | omega | (dsimp only; omega)))).sI (by first | omega | (dsimp only; omega)))
theorem T_Walk_gotInRounds_b11 (z : Int32 × Int32 × Mem) : wpO (F_Walk_gotInRounds_b11 z) (fun r => (match r with | .inl s => Same (fun k => k = 79) z.2.2 s.2.2 ∧ muU s.2.1 < muU z.2.1 | .inr r => Same (fun k => k = 79) z.2.2 r.2)) := by
  unfold F_Walk_gotInRounds_b11
  refine wp_if (fun c1 => ?_) (fun c1 => ?_)
  · exact wp_some Same.rfl'
  · refine wp_bind (T_Well_actOf (z.2.2.1 79 1) (z.2.2.1 79 3) z.2.2) (fun r2 hr2 => ?_)
    refine wp_bind (T_Well_actOf (z.2.2.1 79 2) (z.2.2.1 79 4) z.2.2) (fun r3 hr3 => ?_)
    refine wp_bind (T_Well_bringsTo 0 r2 r3 z.2.2) (fun r4 hr4 => ?_)
    refine wp_bind (T_Walk_goOn r3 r2 z.2.2) (fun r5 hr5 => ?_)
    have mr5 : Same (fun k => k = 79) z.2.2 r5 := hr5.mono (fun k hk => by first | omega | exact hk.elim | (dsimp only at hk ⊢; omega))
    exact wp_some ⟨mr5, (muU_le c1)⟩
theorem T_Walk_gotInRounds (x1 : Int32) (x2 : Int32) (M : Mem) : wpO (F_Walk_gotInRounds x1 x2 M) (fun r => Same (fun k => k = 79) M r.2) := by
  unfold F_Walk_gotInRounds
  refine wp_bind (T_Walk_start x1 x2 M) (fun r1 hr1 => ?_)
  have mr1 : Same (fun k => k = 79) M r1 := hr1.mono (fun k hk => by first | omega | exact hk.elim | (dsimp only at hk ⊢; omega))
  unfold F_Walk_gotInRounds_l11
  refine wp_bind (Ψ := fun r => Same (fun k => k = 79) M r.2) (wp_while (P := fun z => Same (fun k => k = 79) M z.2.2) (μ := fun z => muU z.2.1) (fun z hz => wp_mono (T_Walk_gotInRounds_b11  z) (fun x hx => ?_)) FUEL (0, 0, r1) mr1 (mu_fuel _)) ?_
  · rcases x with x | x
    · exact ⟨hz.trans (hx.1.mono (fun k hk => by first | omega | exact hk.elim | (dsimp only at hk ⊢; omega))), hx.2⟩
    · exact hz.trans (hx.mono (fun k hk => by first | omega | exact hk.elim | (dsimp only at hk ⊢; omega)))
  intro r hr
  exact wp_some hr
theorem T_Crowd_meetAll_b10 (x1 : Int32) (z : Int32 × Mem) : wpO (F_Crowd_meetAll_b10 x1 z) (fun r => (match r with | .inl s => Same (fun k => k = 79 ∨ k = 84) z.2 s.2 ∧ muU s.1 < muU z.1 | .inr r => Same (fun k => k = 79 ∨ k = 84) z.2 r)) := by
  unfold F_Crowd_meetAll_b10
  refine wp_if (fun c1 => ?_) (fun c1 => ?_)
  · exact wp_some Same.rfl'
  · refine wp_bind (T_Crowd_isThere x1 z.2) (fun r1 hr1 => ?_)
    refine wp_if (fun c2 => ?_) (fun c2 => ?_)
    · refine wp_bind (T_Crowd_isThere z.1 z.2) (fun r4 hr4 => ?_)
      refine wp_if (fun c3 => ?_) (fun c3 => ?_)
      · unfold F_Crowd_meetAll_j37
        refine wp_if (fun c4 => ?_) (fun c4 => ?_)
        · refine wp_bind (T_Walk_gotInRounds x1 z.1 z.2) (fun r3 hr3 => ?_)
          have mr3 : Same (fun k => k = 79 ∨ k = 84) z.2 r3.2 := hr3.mono (fun k hk => by first | omega | exact hk.elim | (dsimp only at hk ⊢; omega))
          unfold F_Crowd_meetAll_j66
          refine wp_bind (T_Row_put 84 64 ((8 * x1) + z.1) r3.1.toInt64 r3.2) (fun r2 hr2 => ?_)
          have mr2 := (mr3).trans (hr2.mono (fun k hk => by first | omega | exact hk.elim | (dsimp only at hk ⊢; omega)))
          exact wp_some ⟨mr2, (muU_le c1)⟩
        · unfold F_Crowd_meetAll_j66
          refine wp_bind (T_Row_put 84 64 ((8 * x1) + z.1) 0 z.2) (fun r2 hr2 => ?_)
          have mr2 : Same (fun k => k = 79 ∨ k = 84) z.2 r2 := hr2.mono (fun k hk => by first | omega | exact hk.elim | (dsimp only at hk ⊢; omega))
          exact wp_some ⟨mr2, (muU_le c1)⟩
      · unfold F_Crowd_meetAll_j37
        refine wp_if (fun c5 => ?_) (fun c5 => ?_)
        · refine wp_bind (T_Walk_gotInRounds x1 z.1 z.2) (fun r3 hr3 => ?_)
          have mr3 : Same (fun k => k = 79 ∨ k = 84) z.2 r3.2 := hr3.mono (fun k hk => by first | omega | exact hk.elim | (dsimp only at hk ⊢; omega))
          unfold F_Crowd_meetAll_j66
          refine wp_bind (T_Row_put 84 64 ((8 * x1) + z.1) r3.1.toInt64 r3.2) (fun r2 hr2 => ?_)
          have mr2 := (mr3).trans (hr2.mono (fun k hk => by first | omega | exact hk.elim | (dsimp only at hk ⊢; omega)))
          exact wp_some ⟨mr2, (muU_le c1)⟩
        · unfold F_Crowd_meetAll_j66
          refine wp_bind (T_Row_put 84 64 ((8 * x1) + z.1) 0 z.2) (fun r2 hr2 => ?_)
          have mr2 : Same (fun k => k = 79 ∨ k = 84) z.2 r2 := hr2.mono (fun k hk => by first | omega | exact hk.elim | (dsimp only at hk ⊢; omega))
          exact wp_some ⟨mr2, (muU_le c1)⟩
    · unfold F_Crowd_meetAll_j37
      refine wp_if (fun c6 => ?_) (fun c6 => ?_)
      · refine wp_bind (T_Walk_gotInRounds x1 z.1 z.2) (fun r3 hr3 => ?_)
        have mr3 : Same (fun k => k = 79 ∨ k = 84) z.2 r3.2 := hr3.mono (fun k hk => by first | omega | exact hk.elim | (dsimp only at hk ⊢; omega))
        unfold F_Crowd_meetAll_j66
        refine wp_bind (T_Row_put 84 64 ((8 * x1) + z.1) r3.1.toInt64 r3.2) (fun r2 hr2 => ?_)
        have mr2 := (mr3).trans (hr2.mono (fun k hk => by first | omega | exact hk.elim | (dsimp only at hk ⊢; omega)))
        exact wp_some ⟨mr2, (muU_le c1)⟩
      · unfold F_Crowd_meetAll_j66
        refine wp_bind (T_Row_put 84 64 ((8 * x1) + z.1) 0 z.2) (fun r2 hr2 => ?_)
        have mr2 : Same (fun k => k = 79 ∨ k = 84) z.2 r2 := hr2.mono (fun k hk => by first | omega | exact hk.elim | (dsimp only at hk ⊢; omega))
        exact wp_some ⟨mr2, (muU_le c1)⟩
theorem T_Crowd_meetAll_b2 (z : Int32 × Mem) : wpO (F_Crowd_meetAll_b2 z) (fun r => (match r with | .inl s => Same (fun k => k = 79 ∨ k = 84) z.2 s.2 ∧ muU s.1 < muU z.1 | .inr r => Same (fun k => k = 79 ∨ k = 84) z.2 r)) := by
  unfold F_Crowd_meetAll_b2
  refine wp_if (fun c1 => ?_) (fun c1 => ?_)
  · exact wp_some Same.rfl'
  · unfold F_Crowd_meetAll_l10
    refine wp_bind (Ψ := fun r => Same (fun k => k = 79 ∨ k = 84) z.2 r) (wp_while (P := fun z => Same (fun k => k = 79 ∨ k = 84) z.2 z.2) (μ := fun z => muU z.1) (fun z hz => wp_mono (T_Crowd_meetAll_b10 z.1 z) (fun x hx => ?_)) FUEL (0, z.2) Same.rfl' (mu_fuel _)) ?_
    · rcases x with x | x
      · exact ⟨hz.trans (hx.1.mono (fun k hk => by first | omega | exact hk.elim | (dsimp only at hk ⊢; omega))), hx.2⟩
      · exact hz.trans (hx.mono (fun k hk => by first | omega | exact hk.elim | (dsimp only at hk ⊢; omega)))
    intro r hr
    exact wp_some ⟨hr, (muU_le c1)⟩
theorem T_Crowd_meetAll (M : Mem) : wpO (F_Crowd_meetAll M) (fun r => Same (fun k => k = 79 ∨ k = 84) M r) := by
  unfold F_Crowd_meetAll
  unfold F_Crowd_meetAll_l2
  refine wp_bind (Ψ := fun r => Same (fun k => k = 79 ∨ k = 84) M r) (wp_while (P := fun z => Same (fun k => k = 79 ∨ k = 84) M z.2) (μ := fun z => muU z.1) (fun z hz => wp_mono (T_Crowd_meetAll_b2  z) (fun x hx => ?_)) FUEL (0, M) Same.rfl' (mu_fuel _)) ?_
  · rcases x with x | x
    · exact ⟨hz.trans (hx.1.mono (fun k hk => by first | omega | exact hk.elim | (dsimp only at hk ⊢; omega))), hx.2⟩
    · exact hz.trans (hx.mono (fun k hk => by first | omega | exact hk.elim | (dsimp only at hk ⊢; omega)))
  intro r hr
  exact wp_some hr
theorem T_Crowd_keepsOut (x1 : Int32) (x2 : Int32) (M : Mem) : wpO (F_Crowd_keepsOut x1 x2 M) (fun r => Same (fun k => k = 79) M r.2) := by
  unfold F_Crowd_keepsOut
  refine wp_bind (T_Walk_gotInRounds x1 x1 M) (fun r1 hr1 => ?_)
  have mr1 : Same (fun k => k = 79) M r1.2 := hr1.mono (fun k hk => by first | omega | exact hk.elim | (dsimp only at hk ⊢; omega))
  refine wp_bind (T_Walk_gotInRounds x2 x1 r1.2) (fun r2 hr2 => ?_)
  have mr2 := (mr1).trans (hr2.mono (fun k hk => by first | omega | exact hk.elim | (dsimp only at hk ⊢; omega)))
  refine wp_if (fun c1 => ?_) (fun c1 => ?_)
  · exact wp_some mr2
  · refine wp_if (fun c2 => ?_) (fun c2 => ?_)
    · refine wp_bind (T_Walk_gotInRounds x1 x2 r2.2) (fun r3 hr3 => ?_)
      have mr3 := (mr2).trans (hr3.mono (fun k hk => by first | omega | exact hk.elim | (dsimp only at hk ⊢; omega)))
      refine wp_bind (T_Walk_gotInRounds x2 x2 r3.2) (fun r4 hr4 => ?_)
      have mr4 := (mr3).trans (hr4.mono (fun k hk => by first | omega | exact hk.elim | (dsimp only at hk ⊢; omega)))
      refine wp_if (fun c3 => ?_) (fun c3 => ?_)
      · exact wp_some mr4
      · exact wp_some mr4
    · exact wp_some mr2
theorem T_Crowd_keepsOthersOut_b6 (x1 : Int32) (z : Int32 × Mem) : wpO (F_Crowd_keepsOthersOut_b6 x1 z) (fun r => (match r with | .inl s => Same (fun k => k = 79) z.2 s.2 ∧ muU s.1 < muU z.1 | .inr r => (match r with | .inl s => Same (fun k => k = 79) z.2 s | .inr r => Same (fun k => k = 79) z.2 r))) := by
  unfold F_Crowd_keepsOthersOut_b6
  refine wp_if (fun c1 => ?_) (fun c1 => ?_)
  · exact wp_some Same.rfl'
  · refine wp_if (fun c2 => ?_) (fun c2 => ?_)
    · exact wp_some ⟨Same.rfl', (muU_le c1)⟩
    · refine wp_bind (T_Crowd_isThere z.1 z.2) (fun r2 hr2 => ?_)
      refine wp_if (fun c3 => ?_) (fun c3 => ?_)
      · refine wp_bind (T_Crowd_keepsOut x1 z.1 z.2) (fun r3 hr3 => ?_)
        have mr3 : Same (fun k => k = 79) z.2 r3.2 := hr3.mono (fun k hk => by first | omega | exact hk.elim | (dsimp only at hk ⊢; omega))
        refine wp_if (fun c4 => ?_) (fun c4 => ?_)
        · exact wp_some ⟨mr3, (muU_le c1)⟩
        · exact wp_some mr3
      · exact wp_some ⟨Same.rfl', (muU_le c1)⟩
theorem T_Crowd_keepsOthersOut (x1 : Int32) (M : Mem) : wpO (F_Crowd_keepsOthersOut x1 M) (fun r => Same (fun k => k = 79 ∨ k = 82) M r.2) := by
  unfold F_Crowd_keepsOthersOut
  refine wp_bind (T_Crowd_seeWhoIsThere M) (fun r1 hr1 => ?_)
  have mr1 : Same (fun k => k = 79 ∨ k = 82) M r1 := hr1.mono (fun k hk => by first | omega | exact hk.elim | (dsimp only at hk ⊢; omega))
  unfold F_Crowd_keepsOthersOut_l6
  refine wp_bind (Ψ := fun q => (match q with | .inl s => Same (fun k => k = 79 ∨ k = 82) M s | .inr r => Same (fun k => k = 79 ∨ k = 82) M r)) (wp_while (P := fun z => Same (fun k => k = 79 ∨ k = 82) M z.2) (μ := fun z => muU z.1) (fun z hz => wp_mono (T_Crowd_keepsOthersOut_b6 x1 z) (fun x hx => ?_)) FUEL (0, r1) mr1 (mu_fuel _)) ?_
  · rcases x with x | x
    · exact ⟨hz.trans (hx.1.mono (fun k hk => by first | omega | exact hk.elim | (dsimp only at hk ⊢; omega))), hx.2⟩
    · rcases x with x | x
      · exact hz.trans (hx.mono (fun k hk => by first | omega | exact hk.elim | (dsimp only at hk ⊢; omega)))
      · exact hz.trans (hx.mono (fun k hk => by first | omega | exact hk.elim | (dsimp only at hk ⊢; omega)))
  intro q hq
  rcases q with r1 | r1
  · exact wp_some hq
  · exact wp_some hq
theorem T_Crowd_fitOf_b5 (x1 : Int32) (M : Mem) (z : Int64 × Int32) : wpO (F_Crowd_fitOf_b5 x1 M z) (fun r => (match r with | .inl s => muU s.2 < muU z.2 | .inr r => True)) := by
  unfold F_Crowd_fitOf_b5
  refine wp_if (fun c1 => ?_) (fun c1 => ?_)
  · exact wp_some trivial
  · refine wp_bind (T_Row_at 84 64 ((8 * x1) + z.2) M) (fun r1 hr1 => ?_)
    refine wp_bind (T_Row_at 9 8 z.2 M) (fun r2 hr2 => ?_)
    exact wp_some (muU_le c1)
theorem T_Crowd_fitOf (x1 : Int32) (M : Mem) : wpO (F_Crowd_fitOf x1 M) (fun r => True) := by
  unfold F_Crowd_fitOf
  unfold F_Crowd_fitOf_l5
  refine wp_bind (Ψ := fun r => True) (wp_while (P := fun _ => True) (μ := fun z => muU z.2) (fun z hz => wp_mono (T_Crowd_fitOf_b5 x1 M z) (fun x hx => ?_)) FUEL (0, 0) trivial (mu_fuel _)) ?_
  · rcases x with x | x
    · exact ⟨trivial, hx⟩
    · trivial
  intro r hr
  exact wp_some trivial
theorem T_Crowd_findPart (x1 : Int32) (x2 : Int64) (x4 : Int64) (M : Mem) : wpO (F_Crowd_findPart x1 x2 x4 M) (fun r => Same (fun k => (88 ≤ k ∧ k ≤ 90)) M r) := by
  unfold F_Crowd_findPart
  refine wp_if (fun c1 => ?_) (fun c1 => ?_)
  · refine wp_bind (T_Row_at 86 8 x1 M) (fun r1 hr1 => ?_)
    refine wp_t (by decide) ?_
    refine wp_t (by intro q; rw [q] at c1; exact absurd c1 (by decide)) ?_
    refine wp_t (by decide) ?_
    refine wp_t (by intro q; rw [q] at c1; exact absurd c1 (by decide)) ?_
    refine wp_t (by intro q; rw [q] at c1; exact absurd c1 (by decide)) ?_
    refine wp_bind (T_Row_put 90 8 x1 (((((x2 / 1024) * r1) / x4) * 1024) + ((((lrm ((x2 / 1024) * r1) x4) * 1024) + ((lrm x2 1024) * r1)) / x4)) M) (fun r2 hr2 => ?_)
    have mr2 : Same (fun k => (88 ≤ k ∧ k ≤ 90)) M r2 := hr2.mono (fun k hk => by first | omega | exact hk.elim | (dsimp only at hk ⊢; omega))
    refine wp_t (by intro q; rw [q] at c1; exact absurd c1 (by decide)) ?_
    refine wp_bind (T_Row_put 88 8 x1 (lrm (((lrm ((x2 / 1024) * r1) x4) * 1024) + ((lrm x2 1024) * r1)) x4) r2) (fun r3 hr3 => ?_)
    have mr3 := (mr2).trans (hr3.mono (fun k hk => by first | omega | exact hk.elim | (dsimp only at hk ⊢; omega)))
    exact wp_some mr3
  · exact wp_some Same.rfl'
theorem T_Crowd_giveToGreatestRest_b4 (M : Mem) (z : Int32 × Int32) : wpO (F_Crowd_giveToGreatestRest_b4 M z) (fun r => (match r with | .inl s => muU s.2 < muU z.2 | .inr r => True)) := by
  unfold F_Crowd_giveToGreatestRest_b4
  refine wp_if (fun c1 => ?_) (fun c1 => ?_)
  · exact wp_some trivial
  · refine wp_bind (T_Row_at 88 8 z.2 M) (fun r3 hr3 => ?_)
    refine wp_bind (T_Row_at 88 8 z.1 M) (fun r4 hr4 => ?_)
    refine wp_if (fun c2 => ?_) (fun c2 => ?_)
    · exact wp_some (muU_le c1)
    · exact wp_some (muU_le c1)
theorem T_Crowd_giveToGreatestRest (M : Mem) : wpO (F_Crowd_giveToGreatestRest M) (fun r => Same (fun k => (88 ≤ k ∧ k ≤ 90)) M r) := by
  unfold F_Crowd_giveToGreatestRest
  unfold F_Crowd_giveToGreatestRest_l4
  refine wp_bind (Ψ := fun r => True) (wp_while (P := fun _ => True) (μ := fun z => muU z.2) (fun z hz => wp_mono (T_Crowd_giveToGreatestRest_b4 M z) (fun x hx => ?_)) FUEL (0, 1) trivial (mu_fuel _)) ?_
  · rcases x with x | x
    · exact ⟨trivial, hx⟩
    · trivial
  intro r hr
  unfold F_Crowd_giveToGreatestRest_j38
  refine wp_bind (T_Row_add 90 8 r 1 M) (fun r1 hr1 => ?_)
  have mr1 : Same (fun k => (88 ≤ k ∧ k ≤ 90)) M r1 := hr1.mono (fun k hk => by first | omega | exact hk.elim | (dsimp only at hk ⊢; omega))
  refine wp_bind (T_Row_put 88 8 r ((-1)) r1) (fun r2 hr2 => ?_)
  have mr2 := (mr1).trans (hr2.mono (fun k hk => by first | omega | exact hk.elim | (dsimp only at hk ⊢; omega)))
  exact wp_some mr2
theorem T_Crowd_takeLater_b4 (z : Bool × Int32 × Mem) : wpO (F_Crowd_takeLater_b4 z) (fun r => (match r with | .inl s => Same (fun k => k = 9) z.2.2 s.2.2 ∧ muU s.2.1 < muU z.2.1 | .inr r => Same (fun k => k = 9) z.2.2 r.2)) := by
  unfold F_Crowd_takeLater_b4
  refine wp_if (fun c1 => ?_) (fun c1 => ?_)
  · exact wp_some Same.rfl'
  · refine wp_bind (T_Crowd_isThere z.2.1 z.2.2) (fun r1 hr1 => ?_)
    refine wp_if (fun c2 => ?_) (fun c2 => ?_)
    · refine wp_if (fun c3 => ?_) (fun c3 => ?_)
      · unfold F_Crowd_takeLater_j50
        refine wp_bind (T_Row_at 90 8 z.2.1 z.2.2) (fun r2 hr2 => ?_)
        refine wp_bind (T_Row_put 9 8 z.2.1 r2 z.2.2) (fun r3 hr3 => ?_)
        have mr3 : Same (fun k => k = 9) z.2.2 r3 := hr3.mono (fun k hk => by first | omega | exact hk.elim | (dsimp only at hk ⊢; omega))
        exact wp_some ⟨mr3, (muU_le c1)⟩
      · refine wp_bind (T_Row_at 90 8 z.2.1 z.2.2) (fun r4 hr4 => ?_)
        refine wp_bind (T_Row_at 9 8 z.2.1 z.2.2) (fun r5 hr5 => ?_)
        refine wp_if (fun c4 => ?_) (fun c4 => ?_)
        · unfold F_Crowd_takeLater_j50
          refine wp_bind (T_Row_at 90 8 z.2.1 z.2.2) (fun r2 hr2 => ?_)
          refine wp_bind (T_Row_put 9 8 z.2.1 r2 z.2.2) (fun r3 hr3 => ?_)
          have mr3 : Same (fun k => k = 9) z.2.2 r3 := hr3.mono (fun k hk => by first | omega | exact hk.elim | (dsimp only at hk ⊢; omega))
          exact wp_some ⟨mr3, (muU_le c1)⟩
        · unfold F_Crowd_takeLater_j50
          refine wp_bind (T_Row_at 90 8 z.2.1 z.2.2) (fun r2 hr2 => ?_)
          refine wp_bind (T_Row_put 9 8 z.2.1 r2 z.2.2) (fun r3 hr3 => ?_)
          have mr3 : Same (fun k => k = 9) z.2.2 r3 := hr3.mono (fun k hk => by first | omega | exact hk.elim | (dsimp only at hk ⊢; omega))
          exact wp_some ⟨mr3, (muU_le c1)⟩
    · exact wp_some ⟨Same.rfl', (muU_le c1)⟩
theorem T_Crowd_takeLater (M : Mem) : wpO (F_Crowd_takeLater M) (fun r => Same (fun k => k = 9) M r.2) := by
  unfold F_Crowd_takeLater
  unfold F_Crowd_takeLater_l4
  refine wp_bind (Ψ := fun r => Same (fun k => k = 9) M r.2) (wp_while (P := fun z => Same (fun k => k = 9) M z.2.2) (μ := fun z => muU z.2.1) (fun z hz => wp_mono (T_Crowd_takeLater_b4  z) (fun x hx => ?_)) FUEL (false, 0, M) Same.rfl' (mu_fuel _)) ?_
  · rcases x with x | x
    · exact ⟨hz.trans (hx.1.mono (fun k hk => by first | omega | exact hk.elim | (dsimp only at hk ⊢; omega))), hx.2⟩
    · exact hz.trans (hx.mono (fun k hk => by first | omega | exact hk.elim | (dsimp only at hk ⊢; omega)))
  intro r hr
  exact wp_some hr
theorem T_Crowd_growOneStep_b150 (x5 : Int64) (z : Int32 × Mem) : wpO (F_Crowd_growOneStep_b150 x5 z) (fun r => (match r with | .inl s => Same (fun k => (88 ≤ k ∧ k ≤ 90)) z.2 s.2 ∧ muU s.1 < muU z.1 | .inr r => Same (fun k => (88 ≤ k ∧ k ≤ 90)) z.2 r)) := by
  unfold F_Crowd_growOneStep_b150
  refine wp_if (fun c1 => ?_) (fun c1 => ?_)
  · exact wp_some Same.rfl'
  · refine wp_if (fun c2 => ?_) (fun c2 => ?_)
    · exact wp_some Same.rfl'
    · refine wp_bind (T_Crowd_giveToGreatestRest z.2) (fun r2 hr2 => ?_)
      have mr2 : Same (fun k => (88 ≤ k ∧ k ≤ 90)) z.2 r2 := hr2.mono (fun k hk => by first | omega | exact hk.elim | (dsimp only at hk ⊢; omega))
      exact wp_some ⟨mr2, (muU_le c1)⟩
theorem T_Crowd_growOneStep_b112 (x1 : Int64) (x3 : Int64) (z : Int64 × Int32 × Mem) : wpO (F_Crowd_growOneStep_b112 x1 x3 z) (fun r => (match r with | .inl s => Same (fun k => (88 ≤ k ∧ k ≤ 90)) z.2.2 s.2.2 ∧ muU s.2.1 < muU z.2.1 | .inr r => Same (fun k => (88 ≤ k ∧ k ≤ 90)) z.2.2 r.2)) := by
  unfold F_Crowd_growOneStep_b112
  refine wp_if (fun c1 => ?_) (fun c1 => ?_)
  · exact wp_some Same.rfl'
  · refine wp_bind (T_Crowd_findPart z.2.1 x1 x3 z.2.2) (fun r3 hr3 => ?_)
    have mr3 : Same (fun k => (88 ≤ k ∧ k ≤ 90)) z.2.2 r3 := hr3.mono (fun k hk => by first | omega | exact hk.elim | (dsimp only at hk ⊢; omega))
    refine wp_bind (T_Row_at 90 8 z.2.1 r3) (fun r4 hr4 => ?_)
    exact wp_some ⟨mr3, (muU_le c1)⟩
theorem T_Crowd_growOneStep_b7 (z : Int64 × Int64 × Int32 × Mem) : wpO (F_Crowd_growOneStep_b7 z) (fun r => (match r with | .inl s => Same (fun k => k = 86) z.2.2.2 s.2.2.2 ∧ muU s.2.2.1 < muU z.2.2.1 | .inr r => Same (fun k => k = 86) z.2.2.2 r.2.2)) := by
  unfold F_Crowd_growOneStep_b7
  refine wp_if (fun c1 => ?_) (fun c1 => ?_)
  · exact wp_some Same.rfl'
  · refine wp_bind (T_Crowd_isThere z.2.2.1 z.2.2.2) (fun r5 hr5 => ?_)
    refine wp_if (fun c2 => ?_) (fun c2 => ?_)
    · refine wp_bind (T_Row_at 9 8 z.2.2.1 z.2.2.2) (fun r9 hr9 => ?_)
      refine wp_bind (T_Crowd_fitOf z.2.2.1 z.2.2.2) (fun r10 hr10 => ?_)
      unfold F_Crowd_growOneStep_j46
      refine wp_bind (T_Row_put 86 8 z.2.2.1 (r9 * r10) z.2.2.2) (fun r6 hr6 => ?_)
      have mr6 : Same (fun k => k = 86) z.2.2.2 r6 := hr6.mono (fun k hk => by first | omega | exact hk.elim | (dsimp only at hk ⊢; omega))
      refine wp_bind (T_Crowd_isThere z.2.2.1 r6) (fun r7 hr7 => ?_)
      refine wp_if (fun c3 => ?_) (fun c3 => ?_)
      · refine wp_bind (T_Row_at 9 8 z.2.2.1 r6) (fun r8 hr8 => ?_)
        exact wp_some ⟨mr6, (muU_le c1)⟩
      · exact wp_some ⟨mr6, (muU_le c1)⟩
    · unfold F_Crowd_growOneStep_j46
      refine wp_bind (T_Row_put 86 8 z.2.2.1 0 z.2.2.2) (fun r6 hr6 => ?_)
      have mr6 : Same (fun k => k = 86) z.2.2.2 r6 := hr6.mono (fun k hk => by first | omega | exact hk.elim | (dsimp only at hk ⊢; omega))
      refine wp_bind (T_Crowd_isThere z.2.2.1 r6) (fun r7 hr7 => ?_)
      refine wp_if (fun c4 => ?_) (fun c4 => ?_)
      · refine wp_bind (T_Row_at 9 8 z.2.2.1 r6) (fun r8 hr8 => ?_)
        exact wp_some ⟨mr6, (muU_le c1)⟩
      · exact wp_some ⟨mr6, (muU_le c1)⟩
theorem T_Crowd_growOneStep (M : Mem) : wpO (F_Crowd_growOneStep M) (fun r => Same (fun k => k = 9 ∨ (86 ≤ k ∧ k ≤ 90)) M r.2) := by
  unfold F_Crowd_growOneStep
  unfold F_Crowd_growOneStep_l7
  refine wp_bind (Ψ := fun r => Same (fun k => k = 9 ∨ (86 ≤ k ∧ k ≤ 90)) M r.2.2) (wp_while (P := fun z => Same (fun k => k = 9 ∨ (86 ≤ k ∧ k ≤ 90)) M z.2.2.2) (μ := fun z => muU z.2.2.1) (fun z hz => wp_mono (T_Crowd_growOneStep_b7  z) (fun x hx => ?_)) FUEL (0, 0, 0, M) Same.rfl' (mu_fuel _)) ?_
  · rcases x with x | x
    · exact ⟨hz.trans (hx.1.mono (fun k hk => by first | omega | exact hk.elim | (dsimp only at hk ⊢; omega))), hx.2⟩
    · exact hz.trans (hx.mono (fun k hk => by first | omega | exact hk.elim | (dsimp only at hk ⊢; omega)))
  intro r hr
  unfold F_Crowd_growOneStep_j98
  refine wp_if (fun c1 => ?_) (fun c1 => ?_)
  · unfold F_Crowd_growOneStep_l112
    refine wp_bind (Ψ := fun r => Same (fun k => k = 9 ∨ (86 ≤ k ∧ k ≤ 90)) M r.2) (wp_while (P := fun z => Same (fun k => k = 9 ∨ (86 ≤ k ∧ k ≤ 90)) M z.2.2) (μ := fun z => muU z.2.1) (fun z hz => wp_mono (T_Crowd_growOneStep_b112 r.1 r.2.1 z) (fun x hx => ?_)) FUEL (r.1, 0, r.2.2) hr (mu_fuel _)) ?_
    · rcases x with x | x
      · exact ⟨hz.trans (hx.1.mono (fun k hk => by first | omega | exact hk.elim | (dsimp only at hk ⊢; omega))), hx.2⟩
      · exact hz.trans (hx.mono (fun k hk => by first | omega | exact hk.elim | (dsimp only at hk ⊢; omega)))
    intro r hr
    unfold F_Crowd_growOneStep_l150
    refine wp_bind (Ψ := fun r => Same (fun k => k = 9 ∨ (86 ≤ k ∧ k ≤ 90)) M r) (wp_while (P := fun z => Same (fun k => k = 9 ∨ (86 ≤ k ∧ k ≤ 90)) M z.2) (μ := fun z => muU z.1) (fun z hz => wp_mono (T_Crowd_growOneStep_b150 r.1 z) (fun x hx => ?_)) FUEL (0, r.2) hr (mu_fuel _)) ?_
    · rcases x with x | x
      · exact ⟨hz.trans (hx.1.mono (fun k hk => by first | omega | exact hk.elim | (dsimp only at hk ⊢; omega))), hx.2⟩
      · exact hz.trans (hx.mono (fun k hk => by first | omega | exact hk.elim | (dsimp only at hk ⊢; omega)))
    intro r hr
    unfold F_Crowd_growOneStep_j176
    refine wp_bind (T_Crowd_takeLater r) (fun r1 hr1 => ?_)
    have mr1 := (hr).trans (hr1.mono (fun k hk => by first | omega | exact hk.elim | (dsimp only at hk ⊢; omega)))
    exact wp_some mr1
  · exact wp_some hr
theorem T_Crowd_growSteps_b12 (x1 : Int32) (z : Int32 × Int32 × Mem) : wpO (F_Crowd_growSteps_b12 x1 z) (fun r => (match r with | .inl s => Same (fun k => k = 9 ∨ (86 ≤ k ∧ k ≤ 90)) z.2.2 s.2.2 ∧ muU s.2.1 < muU z.2.1 | .inr r => Same (fun k => k = 9 ∨ (86 ≤ k ∧ k ≤ 90)) z.2.2 r.2)) := by
  unfold F_Crowd_growSteps_b12
  refine wp_if (fun c1 => ?_) (fun c1 => ?_)
  · exact wp_some Same.rfl'
  · refine wp_bind (T_Crowd_growOneStep z.2.2) (fun r3 hr3 => ?_)
    have mr3 : Same (fun k => k = 9 ∨ (86 ≤ k ∧ k ≤ 90)) z.2.2 r3.2 := hr3.mono (fun k hk => by first | omega | exact hk.elim | (dsimp only at hk ⊢; omega))
    refine wp_if (fun c2 => ?_) (fun c2 => ?_)
    · exact wp_some ⟨mr3, (muU_le c1)⟩
    · exact wp_some ⟨mr3, (muU_le c1)⟩
theorem T_Crowd_growSteps (x1 : Int32) (M : Mem) : wpO (F_Crowd_growSteps x1 M) (fun r => Same (fun k => k = 9 ∨ k = 79 ∨ (82 ≤ k ∧ k ≤ 90)) M r.2) := by
  unfold F_Crowd_growSteps
  refine wp_bind (T_Crowd_seeWhoIsThere M) (fun r1 hr1 => ?_)
  have mr1 : Same (fun k => k = 9 ∨ k = 79 ∨ (82 ≤ k ∧ k ≤ 90)) M r1 := hr1.mono (fun k hk => by first | omega | exact hk.elim | (dsimp only at hk ⊢; omega))
  refine wp_bind (T_Crowd_meetAll r1) (fun r2 hr2 => ?_)
  have mr2 := (mr1).trans (hr2.mono (fun k hk => by first | omega | exact hk.elim | (dsimp only at hk ⊢; omega)))
  unfold F_Crowd_growSteps_l12
  refine wp_bind (Ψ := fun r => Same (fun k => k = 9 ∨ k = 79 ∨ (82 ≤ k ∧ k ≤ 90)) M r.2) (wp_while (P := fun z => Same (fun k => k = 9 ∨ k = 79 ∨ (82 ≤ k ∧ k ≤ 90)) M z.2.2) (μ := fun z => muU z.2.1) (fun z hz => wp_mono (T_Crowd_growSteps_b12 x1 z) (fun x hx => ?_)) FUEL (0, 0, r2) mr2 (mu_fuel _)) ?_
  · rcases x with x | x
    · exact ⟨hz.trans (hx.1.mono (fun k hk => by first | omega | exact hk.elim | (dsimp only at hk ⊢; omega))), hx.2⟩
    · exact hz.trans (hx.mono (fun k hk => by first | omega | exact hk.elim | (dsimp only at hk ⊢; omega)))
  intro r hr
  exact wp_some hr
theorem T_Walk_firstOtherwise_b8 (z : Int32 × Mem) : wpO (F_Walk_firstOtherwise_b8 z) (fun r => (match r with | .inl s => Same (fun k => k = 79) z.2 s.2 ∧ muU s.1 < muU z.1 | .inr r => (match r with | .inl s => Same (fun k => k = 79) z.2 s.2 | .inr r => (match r with | .inl s => Same (fun k => k = 79) z.2 s.2 | .inr r => Same (fun k => k = 79) z.2 r)))) := by
  unfold F_Walk_firstOtherwise_b8
  refine wp_if (fun c1 => ?_) (fun c1 => ?_)
  · exact wp_some Same.rfl'
  · refine wp_bind (T_Row_small 7 400 (2 * z.1) z.2) (fun r2 hr2 => ?_)
    refine wp_bind (T_Row_small 7 400 ((2 * z.1) + 1) z.2) (fun r3 hr3 => ?_)
    refine wp_bind (T_Well_actOf (z.2.1 79 1) (z.2.1 79 3) z.2) (fun r4 hr4 => ?_)
    refine wp_if (fun c2 => ?_) (fun c2 => ?_)
    · refine wp_bind (T_Well_actOf (z.2.1 79 2) (z.2.1 79 4) z.2) (fun r5 hr5 => ?_)
      refine wp_if (fun c3 => ?_) (fun c3 => ?_)
      · refine wp_bind (T_Walk_goOn r3 r2 z.2) (fun r6 hr6 => ?_)
        have mr6 : Same (fun k => k = 79) z.2 r6 := hr6.mono (fun k hk => by first | omega | exact hk.elim | (dsimp only at hk ⊢; omega))
        exact wp_some ⟨mr6, (muU_le c1)⟩
      · exact wp_some Same.rfl'
    · exact wp_some Same.rfl'
theorem T_Walk_firstOtherwise (x1 : Int32) (x2 : Int32) (M : Mem) : wpO (F_Walk_firstOtherwise x1 x2 M) (fun r => Same (fun k => k = 79) M r.2) := by
  unfold F_Walk_firstOtherwise
  refine wp_bind (T_Walk_start x1 x2 M) (fun r1 hr1 => ?_)
  have mr1 : Same (fun k => k = 79) M r1 := hr1.mono (fun k hk => by first | omega | exact hk.elim | (dsimp only at hk ⊢; omega))
  unfold F_Walk_firstOtherwise_l8
  refine wp_bind (Ψ := fun q => (match q with | .inl s => Same (fun k => k = 79) M s.2 | .inr r => (match r with | .inl s => Same (fun k => k = 79) M s.2 | .inr r => Same (fun k => k = 79) M r))) (wp_while (P := fun z => Same (fun k => k = 79) M z.2) (μ := fun z => muU z.1) (fun z hz => wp_mono (T_Walk_firstOtherwise_b8  z) (fun x hx => ?_)) FUEL (0, r1) mr1 (mu_fuel _)) ?_
  · rcases x with x | x
    · exact ⟨hz.trans (hx.1.mono (fun k hk => by first | omega | exact hk.elim | (dsimp only at hk ⊢; omega))), hx.2⟩
    · rcases x with x | x
      · exact hz.trans (hx.mono (fun k hk => by first | omega | exact hk.elim | (dsimp only at hk ⊢; omega)))
      · rcases x with x | x
        · exact hz.trans (hx.mono (fun k hk => by first | omega | exact hk.elim | (dsimp only at hk ⊢; omega)))
        · exact hz.trans (hx.mono (fun k hk => by first | omega | exact hk.elim | (dsimp only at hk ⊢; omega)))
  intro q hq
  rcases q with r1 | r1
  · exact wp_some hq
  · rcases r1 with r2 | r2
    · exact wp_some hq
    · exact wp_some hq
theorem T_Walk_broughtByRow_b4 (x1 : Int32) (M : Mem) (z : Int32 × Int32) : wpO (F_Walk_broughtByRow_b4 x1 M z) (fun r => (match r with | .inl s => muU s.2 < muU z.2 | .inr r => True)) := by
  unfold F_Walk_broughtByRow_b4
  refine wp_if (fun c1 => ?_) (fun c1 => ?_)
  · exact wp_some trivial
  · refine wp_bind (T_Row_small 7 400 (2 * z.2) M) (fun r1 hr1 => ?_)
    refine wp_bind (T_Row_small 7 400 ((2 * z.2) + 1) M) (fun r2 hr2 => ?_)
    refine wp_bind (T_Well_bringsTo x1 r1 r2 M) (fun r3 hr3 => ?_)
    exact wp_some (muU_le c1)
theorem T_Walk_broughtByRow (x1 : Int32) (M : Mem) : wpO (F_Walk_broughtByRow x1 M) (fun r => True) := by
  unfold F_Walk_broughtByRow
  unfold F_Walk_broughtByRow_l4
  refine wp_bind (Ψ := fun r => True) (wp_while (P := fun _ => True) (μ := fun z => muU z.2) (fun z hz => wp_mono (T_Walk_broughtByRow_b4 x1 M z) (fun x hx => ?_)) FUEL (0, 0) trivial (mu_fuel _)) ?_
  · rcases x with x | x
    · exact ⟨trivial, hx⟩
    · trivial
  intro r hr
  exact wp_some trivial
theorem T_Walk_see (x1 : Int32) (M : Mem) : wpO (F_Walk_see x1 M) (fun r => Same (fun k => k = 79) M r.2) := by
  unfold F_Walk_see
  refine wp_if (fun c1 => ?_) (fun c1 => ?_)
  · exact wp_some Same.rfl'
  · refine wp_if (fun c2 => ?_) (fun c2 => ?_)
    · refine wp_t (by intro q; rw [q] at c2; exact absurd c2 (by decide)) ?_
      refine wp_if (fun c3 => ?_) (fun c3 => ?_)
      · exact wp_some ((Same.rfl').sI (by first | omega | (dsimp only; omega)))
      · exact wp_some ((Same.rfl').sI (by first | omega | (dsimp only; omega)))
    · exact wp_some Same.rfl'
theorem T_Walk_draw_b18 (x3 : Int32) (x5 : Int32) (z : Int32 × Int32 × Mem) : wpO (F_Walk_draw_b18 x3 x5 z) (fun r => (match r with | .inl s => Same (fun k => k = 79) z.2.2 s.2.2 ∧ muU s.2.1 < muU z.2.1 | .inr r => Same (fun k => k = 79) z.2.2 r.2)) := by
  unfold F_Walk_draw_b18
  refine wp_if (fun c1 => ?_) (fun c1 => ?_)
  · exact wp_some Same.rfl'
  · refine wp_bind (T_Well_actOf (z.2.2.1 79 1) (z.2.2.1 79 3) z.2.2) (fun r2 hr2 => ?_)
    refine wp_bind (T_Well_actOf (z.2.2.1 79 2) (z.2.2.1 79 4) z.2.2) (fun r3 hr3 => ?_)
    refine wp_if (fun c2 => ?_) (fun c2 => ?_)
    · unfold F_Walk_draw_j83
      refine wp_bind (T_Walk_see r3 z.2.2) (fun r4 hr4 => ?_)
      have mr4 : Same (fun k => k = 79) z.2.2 r4.2 := hr4.mono (fun k hk => by first | omega | exact hk.elim | (dsimp only at hk ⊢; omega))
      refine wp_bind (T_Walk_see r2 r4.2) (fun r5 hr5 => ?_)
      have mr5 := (mr4).trans (hr5.mono (fun k hk => by first | omega | exact hk.elim | (dsimp only at hk ⊢; omega)))
      refine wp_bind (T_Walk_goOn r4.1 r5.1 r5.2) (fun r6 hr6 => ?_)
      have mr6 := (mr5).trans (hr6.mono (fun k hk => by first | omega | exact hk.elim | (dsimp only at hk ⊢; omega)))
      exact wp_some ⟨mr6, (muU_le c1)⟩
    · refine wp_bind (T_Well_bringsTo x5 r2 r3 z.2.2) (fun r7 hr7 => ?_)
      unfold F_Walk_draw_j83
      refine wp_bind (T_Walk_see r3 z.2.2) (fun r4 hr4 => ?_)
      have mr4 : Same (fun k => k = 79) z.2.2 r4.2 := hr4.mono (fun k hk => by first | omega | exact hk.elim | (dsimp only at hk ⊢; omega))
      refine wp_bind (T_Walk_see r2 r4.2) (fun r5 hr5 => ?_)
      have mr5 := (mr4).trans (hr5.mono (fun k hk => by first | omega | exact hk.elim | (dsimp only at hk ⊢; omega)))
      refine wp_bind (T_Walk_goOn r4.1 r5.1 r5.2) (fun r6 hr6 => ?_)
      have mr6 := (mr5).trans (hr6.mono (fun k hk => by first | omega | exact hk.elim | (dsimp only at hk ⊢; omega)))
      exact wp_some ⟨mr6, (muU_le c1)⟩
theorem T_Walk_draw (x1 : Int32) (x2 : Int32) (x3 : Int32) (x4 : Int32) (x5 : Int32) (M : Mem) : wpO (F_Walk_draw x1 x2 x3 x4 x5 M) (fun r => Same (fun k => k = 79) M r.2) := by
  unfold F_Walk_draw
  refine wp_bind (T_Walk_start x1 x2 M) (fun r1 hr1 => ?_)
  have mr1 : Same (fun k => k = 79) M r1 := hr1.mono (fun k hk => by first | omega | exact hk.elim | (dsimp only at hk ⊢; omega))
  unfold F_Walk_draw_l18
  refine wp_bind (Ψ := fun r => Same (fun k => k = 79) M r.2) (wp_while (P := fun z => Same (fun k => k = 79) M z.2.2) (μ := fun z => muU z.2.1) (fun z hz => wp_mono (T_Walk_draw_b18 x3 x5 z) (fun x hx => ?_)) FUEL (0, 0, (mSI r1 79 5 x4)) ((mr1).sI (by first | omega | (dsimp only; omega))) (mu_fuel _)) ?_
  · rcases x with x | x
    · exact ⟨hz.trans (hx.1.mono (fun k hk => by first | omega | exact hk.elim | (dsimp only at hk ⊢; omega))), hx.2⟩
    · exact hz.trans (hx.mono (fun k hk => by first | omega | exact hk.elim | (dsimp only at hk ⊢; omega)))
  intro r hr
  unfold F_Walk_draw_j116
  refine wp_if (fun c1 => ?_) (fun c1 => ?_)
  · refine wp_if (fun c2 => ?_) (fun c2 => ?_)
    · exact wp_some hr
    · exact wp_some hr
  · exact wp_some hr
