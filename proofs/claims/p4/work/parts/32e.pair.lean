theorem T_Pair_placeAfter (x1 : Int32) (x2 : Int32) (x3 : Int32) (x4 : Int32) (M : Mem) : wpO (F_Pair_placeAfter x1 x2 x3 x4 M) (fun r => True) := by
  unfold F_Pair_placeAfter
  refine wp_bind (T_Well_nextOf (M.1 34 2) x1 x4 M) (fun r1 hr1 => ?_)
  refine wp_bind (T_Well_nextOf (M.1 34 3) x2 x3 M) (fun r2 hr2 => ?_)
  exact wp_some trivial
theorem T_Pair_look_b70 (x3 : Int64) (x5 : Int64) (x7 : Int32) (z : Int32 × Mem) : wpO (F_Pair_look_b70 x3 x5 x7 z) (fun r => (match r with | .inl s => Same (fun k => (37 ≤ k ∧ k ≤ 39)) z.2 s.2 ∧ muU s.1 < muU z.1 | .inr r => Same (fun k => (37 ≤ k ∧ k ≤ 39)) z.2 r)) := by
  unfold F_Pair_look_b70
  refine wp_if (fun c1 => ?_) (fun c1 => ?_)
  · exact wp_some Same.rfl'
  · refine wp_bind (T_Well_actOf (z.2.1 34 2) x7 z.2) (fun r7 hr7 => ?_)
    refine wp_bind (T_Well_actOf (z.2.1 34 3) z.1 z.2) (fun r8 hr8 => ?_)
    refine wp_bind (T_Pair_placeAfter x7 z.1 r7 r8 z.2) (fun r9 hr9 => ?_)
    refine wp_bind (T_Well_bringsTo 0 r7 r8 z.2) (fun r10 hr10 => ?_)
    refine wp_bind (T_Well_bringsTo 1 r7 r8 z.2) (fun r11 hr11 => ?_)
    refine wp_bind (T_Chain_put 35 ((3 * x7) + z.1) r9 r10 r11 z.2) (fun r12 hr12 => ?_)
    have mr12 : Same (fun k => (37 ≤ k ∧ k ≤ 39)) z.2 r12 := hr12.mono (fun k hk => by first | omega | exact hk.elim | (dsimp only at hk ⊢; omega))
    exact wp_some ⟨mr12, (muU_le c1)⟩
theorem T_Pair_look_b58 (x3 : Int64) (x5 : Int64) (z : Int32 × Mem) : wpO (F_Pair_look_b58 x3 x5 z) (fun r => (match r with | .inl s => Same (fun k => (37 ≤ k ∧ k ≤ 39)) z.2 s.2 ∧ muU s.1 < muU z.1 | .inr r => Same (fun k => (37 ≤ k ∧ k ≤ 39)) z.2 r)) := by
  unfold F_Pair_look_b58
  refine wp_if (fun c1 => ?_) (fun c1 => ?_)
  · exact wp_some Same.rfl'
  · unfold F_Pair_look_l70
    refine wp_bind (Ψ := fun r => Same (fun k => (37 ≤ k ∧ k ≤ 39)) z.2 r) (wp_while (P := fun z => Same (fun k => (37 ≤ k ∧ k ≤ 39)) z.2 z.2) (μ := fun z => muU z.1) (fun z hz => wp_mono (T_Pair_look_b70 x3 x5 z.1 z) (fun x hx => ?_)) FUEL (0, z.2) Same.rfl' (mu_fuel _)) ?_
    · rcases x with x | x
      · exact ⟨hz.trans (hx.1.mono (fun k hk => by first | omega | exact hk.elim | (dsimp only at hk ⊢; omega))), hx.2⟩
      · exact hz.trans (hx.mono (fun k hk => by first | omega | exact hk.elim | (dsimp only at hk ⊢; omega)))
    intro r hr
    exact wp_some ⟨hr, (muU_le c1)⟩
theorem T_Pair_look (x1 : Int32) (x2 : Int32) (x3 : Int64) (x5 : Int64) (M : Mem) : wpO (F_Pair_look x1 x2 x3 x5 M) (fun r => Same (fun k => (34 ≤ k ∧ k ≤ 47)) M r) := by
  unfold F_Pair_look
  refine wp_bind (T_Well_moodsOf ((mSI (mSI M 34 2 x1) 34 3 x2).1 34 2) (mSI (mSI M 34 2 x1) 34 3 x2)) (fun r1 hr1 => ?_)
  refine wp_bind (T_Math_min_III r1 3 (mSI (mSI M 34 2 x1) 34 3 x2)) (fun r2 hr2 => ?_)
  refine wp_bind (T_Well_moodsOf ((mSI (mSI (mSI M 34 2 x1) 34 3 x2) 34 4 r2).1 34 3) (mSI (mSI (mSI M 34 2 x1) 34 3 x2) 34 4 r2)) (fun r3 hr3 => ?_)
  refine wp_bind (T_Math_min_III r3 3 (mSI (mSI (mSI M 34 2 x1) 34 3 x2) 34 4 r2)) (fun r4 hr4 => ?_)
  refine wp_bind (T_Chain_clear 35 (mSI (mSI (mSI (mSI M 34 2 x1) 34 3 x2) 34 4 r2) 34 5 r4)) (fun r5 hr5 => ?_)
  have mr5 := (((((((((Same.rfl').sI (by first | omega | (dsimp only; omega)))).sI (by first | omega | (dsimp only; omega)))).sI (by first | omega | (dsimp only; omega)))).sI (by first | omega | (dsimp only; omega)))).trans (hr5.mono (fun k hk => by first | omega | exact hk.elim | (dsimp only at hk ⊢; omega)))
  unfold F_Pair_look_l58
  refine wp_bind (Ψ := fun r => Same (fun k => (34 ≤ k ∧ k ≤ 47)) M r) (wp_while (P := fun z => Same (fun k => (34 ≤ k ∧ k ≤ 47)) M z.2) (μ := fun z => muU z.1) (fun z hz => wp_mono (T_Pair_look_b58 x3 x5 z) (fun x hx => ?_)) FUEL (0, r5) mr5 (mu_fuel _)) ?_
  · rcases x with x | x
    · exact ⟨hz.trans (hx.1.mono (fun k hk => by first | omega | exact hk.elim | (dsimp only at hk ⊢; omega))), hx.2⟩
    · exact hz.trans (hx.mono (fun k hk => by first | omega | exact hk.elim | (dsimp only at hk ⊢; omega)))
  intro r hr
  unfold F_Pair_look_j171
  refine wp_bind (T_Chain_reckon 35 x3 x5 r) (fun r6 hr6 => ?_)
  have mr6 := (hr).trans (hr6.mono (fun k hk => by first | omega | exact hk.elim | (dsimp only at hk ⊢; omega)))
  exact wp_some mr6
theorem T_Pair_tellWorth (o4 : Nat) (x1 : Int32) (x2 : Int32) (x3 : Int32) (M : Mem) : wpO (F_Pair_tellWorth o4 x1 x2 x3 M) (fun r => Same (fun k => k = o4) M r) := by
  unfold F_Pair_tellWorth
  refine wp_bind (T_Chain_tellWorth 35 o4 ((3 * x1) + x2) x3 M) (fun r1 hr1 => ?_)
  have mr1 : Same (fun k => k = o4) M r1 := hr1.mono (fun k hk => by first | omega | exact hk.elim | (dsimp only at hk ⊢; omega))
  exact wp_some mr1
theorem T_Pair_gainsOtherwise_b3 (x1 : Int32) (x2 : Int32) (x3 : Int32) (M : Mem) (z : Int32) : wpO (F_Pair_gainsOtherwise_b3 x1 x2 x3 M z) (fun r => (match r with | .inl s => muU s < muU z | .inr r => (match r with | .inl s => True | .inr r => True))) := by
  unfold F_Pair_gainsOtherwise_b3
  refine wp_if (fun c1 => ?_) (fun c1 => ?_)
  · exact wp_some trivial
  · refine wp_if (fun c2 => ?_) (fun c2 => ?_)
    · unfold F_Pair_gainsOtherwise_j36
      refine wp_if (fun c3 => ?_) (fun c3 => ?_)
      · unfold F_Pair_gainsOtherwise_j60
        refine wp_bind (T_Pair_placeAfter x1 x2 z z M) (fun r3 hr3 => ?_)
        refine wp_bind (T_Well_bringsTo x3 z z M) (fun r4 hr4 => ?_)
        refine wp_bind (T_Chain_orderOf 35 r4 r3 x3 ((3 * x1) + x2) M) (fun r5 hr5 => ?_)
        refine wp_if (fun c4 => ?_) (fun c4 => ?_)
        · exact wp_some (muU_le c1)
        · exact wp_some trivial
      · refine wp_bind (T_Well_actOf (M.1 34 3) x2 M) (fun r2 hr2 => ?_)
        unfold F_Pair_gainsOtherwise_j60
        refine wp_bind (T_Pair_placeAfter x1 x2 z r2 M) (fun r3 hr3 => ?_)
        refine wp_bind (T_Well_bringsTo x3 z r2 M) (fun r4 hr4 => ?_)
        refine wp_bind (T_Chain_orderOf 35 r4 r3 x3 ((3 * x1) + x2) M) (fun r5 hr5 => ?_)
        refine wp_if (fun c5 => ?_) (fun c5 => ?_)
        · exact wp_some (muU_le c1)
        · exact wp_some trivial
    · refine wp_bind (T_Well_actOf (M.1 34 2) x1 M) (fun r1 hr1 => ?_)
      unfold F_Pair_gainsOtherwise_j36
      refine wp_if (fun c6 => ?_) (fun c6 => ?_)
      · unfold F_Pair_gainsOtherwise_j60
        refine wp_bind (T_Pair_placeAfter x1 x2 r1 z M) (fun r3 hr3 => ?_)
        refine wp_bind (T_Well_bringsTo x3 r1 z M) (fun r4 hr4 => ?_)
        refine wp_bind (T_Chain_orderOf 35 r4 r3 x3 ((3 * x1) + x2) M) (fun r5 hr5 => ?_)
        refine wp_if (fun c7 => ?_) (fun c7 => ?_)
        · exact wp_some (muU_le c1)
        · exact wp_some trivial
      · refine wp_bind (T_Well_actOf (M.1 34 3) x2 M) (fun r2 hr2 => ?_)
        unfold F_Pair_gainsOtherwise_j60
        refine wp_bind (T_Pair_placeAfter x1 x2 r1 r2 M) (fun r3 hr3 => ?_)
        refine wp_bind (T_Well_bringsTo x3 r1 r2 M) (fun r4 hr4 => ?_)
        refine wp_bind (T_Chain_orderOf 35 r4 r3 x3 ((3 * x1) + x2) M) (fun r5 hr5 => ?_)
        refine wp_if (fun c8 => ?_) (fun c8 => ?_)
        · exact wp_some (muU_le c1)
        · exact wp_some trivial
theorem T_Pair_gainsOtherwise (x1 : Int32) (x2 : Int32) (x3 : Int32) (M : Mem) : wpO (F_Pair_gainsOtherwise x1 x2 x3 M) (fun r => True) := by
  unfold F_Pair_gainsOtherwise
  unfold F_Pair_gainsOtherwise_l3
  refine wp_bind (Ψ := fun q => (match q with | .inl s => True | .inr r => True)) (wp_while (P := fun _ => True) (μ := fun z => muU z) (fun z hz => wp_mono (T_Pair_gainsOtherwise_b3 x1 x2 x3 M z) (fun x hx => ?_)) FUEL 0 trivial (mu_fuel _)) ?_
  · rcases x with x | x
    · exact ⟨trivial, hx⟩
    · rcases x with x | x
      · trivial
      · trivial
  intro q hq
  rcases q with r1 | r1
  · exact wp_some trivial
  · exact wp_some trivial
theorem T_Pair_firstGain_b22 (x1 : Int32) (x2 : Int32) (M : Mem) (z : Int32) : wpO (F_Pair_firstGain_b22 x1 x2 M z) (fun r => (match r with | .inl s => muU s < muU z | .inr r => (match r with | .inl s => True | .inr r => True))) := by
  unfold F_Pair_firstGain_b22
  refine wp_if (fun c1 => ?_) (fun c1 => ?_)
  · exact wp_some trivial
  · refine wp_bind (T_Pair_gainsOtherwise x1 x2 z M) (fun r1 hr1 => ?_)
    refine wp_if (fun c2 => ?_) (fun c2 => ?_)
    · exact wp_some trivial
    · exact wp_some (muU_le c1)
theorem T_Pair_firstGain_b12 (x1 : Int32) (M : Mem) (z : Int32) : wpO (F_Pair_firstGain_b12 x1 M z) (fun r => (match r with | .inl s => muU s < muU z | .inr r => (match r with | .inl s => True | .inr r => True))) := by
  unfold F_Pair_firstGain_b12
  refine wp_if (fun c1 => ?_) (fun c1 => ?_)
  · exact wp_some trivial
  · unfold F_Pair_firstGain_l22
    refine wp_bind (Ψ := fun q => (match q with | .inl s => True | .inr r => True)) (wp_while (P := fun _ => True) (μ := fun z => muU z) (fun z hz => wp_mono (T_Pair_firstGain_b22 x1 z M z) (fun x hx => ?_)) FUEL 0 trivial (mu_fuel _)) ?_
    · rcases x with x | x
      · exact ⟨trivial, hx⟩
      · rcases x with x | x
        · trivial
        · trivial
    intro q hq
    rcases q with r2 | r2
    · exact wp_some trivial
    · exact wp_some (muU_le c1)
theorem T_Pair_firstGain_b2 (M : Mem) (z : Int32) : wpO (F_Pair_firstGain_b2 M z) (fun r => (match r with | .inl s => muU s < muU z | .inr r => (match r with | .inl s => True | .inr r => True))) := by
  unfold F_Pair_firstGain_b2
  refine wp_if (fun c1 => ?_) (fun c1 => ?_)
  · exact wp_some trivial
  · unfold F_Pair_firstGain_l12
    refine wp_bind (Ψ := fun q => (match q with | .inl s => True | .inr r => True)) (wp_while (P := fun _ => True) (μ := fun z => muU z) (fun z hz => wp_mono (T_Pair_firstGain_b12 z M z) (fun x hx => ?_)) FUEL 0 trivial (mu_fuel _)) ?_
    · rcases x with x | x
      · exact ⟨trivial, hx⟩
      · rcases x with x | x
        · trivial
        · trivial
    intro q hq
    rcases q with r2 | r2
    · exact wp_some trivial
    · exact wp_some (muU_le c1)
theorem T_Pair_firstGain (M : Mem) : wpO (F_Pair_firstGain M) (fun r => True) := by
  unfold F_Pair_firstGain
  unfold F_Pair_firstGain_l2
  refine wp_bind (Ψ := fun q => (match q with | .inl s => True | .inr r => True)) (wp_while (P := fun _ => True) (μ := fun z => muU z) (fun z hz => wp_mono (T_Pair_firstGain_b2 M z) (fun x hx => ?_)) FUEL 0 trivial (mu_fuel _)) ?_
  · rcases x with x | x
    · exact ⟨trivial, hx⟩
    · rcases x with x | x
      · trivial
      · trivial
  intro q hq
  rcases q with r1 | r1
  · unfold F_Pair_firstGain_j37
    exact wp_some trivial
  · exact wp_some trivial
theorem T_Pair_leastToHold_b18 (x1 : Int32) (x2 : Int32) (x3 : Int32) (x6 : Int32) (z : Int32 × Int32 × Int32 × Mem) : wpO (F_Pair_leastToHold_b18 x1 x2 x3 x6 z) (fun r => (match r with | .inl s => Same (fun k => (34 ≤ k ∧ k ≤ 47)) z.2.2.2 s.2.2.2 ∧ muU s.2.2.1 < muU z.2.2.1 | .inr r => Same (fun k => (34 ≤ k ∧ k ≤ 47)) z.2.2.2 r.2.2)) := by
  unfold F_Pair_leastToHold_b18
  refine wp_if (fun c1 => ?_) (fun c1 => ?_)
  · exact wp_some Same.rfl'
  · refine wp_if (fun c2 => ?_) (fun c2 => ?_)
    · exact wp_some ⟨Same.rfl', (muU_le c1)⟩
    · refine wp_bind (T_Fraction_commonPart z.2.2.1.toInt64 x6.toInt64 z.2.2.2) (fun r1 hr1 => ?_)
      refine wp_if (fun c3 => ?_) (fun c3 => ?_)
      · refine wp_bind (T_Pair_look x1 x2 z.2.2.1.toInt64 x6.toInt64 z.2.2.2) (fun r2 hr2 => ?_)
        have mr2 : Same (fun k => (34 ≤ k ∧ k ≤ 47)) z.2.2.2 r2 := hr2.mono (fun k hk => by first | omega | exact hk.elim | (dsimp only at hk ⊢; omega))
        refine wp_bind (T_Pair_firstGain r2) (fun r3 hr3 => ?_)
        refine wp_if (fun c4 => ?_) (fun c4 => ?_)
        · unfold F_Pair_leastToHold_j77
          refine wp_if (fun c5 => ?_) (fun c5 => ?_)
          · unfold F_Pair_leastToHold_j91
            refine wp_if (fun c6 => ?_) (fun c6 => ?_)
            · exact wp_some ⟨mr2, (muU_le c1)⟩
            · exact wp_some ⟨mr2, (muU_le c1)⟩
          · unfold F_Pair_leastToHold_j91
            refine wp_if (fun c7 => ?_) (fun c7 => ?_)
            · exact wp_some ⟨mr2, (muU_le c1)⟩
            · exact wp_some ⟨mr2, (muU_le c1)⟩
        · unfold F_Pair_leastToHold_j77
          refine wp_if (fun c8 => ?_) (fun c8 => ?_)
          · unfold F_Pair_leastToHold_j91
            refine wp_if (fun c9 => ?_) (fun c9 => ?_)
            · exact wp_some ⟨mr2, (muU_le c1)⟩
            · exact wp_some ⟨mr2, (muU_le c1)⟩
          · unfold F_Pair_leastToHold_j91
            refine wp_if (fun c10 => ?_) (fun c10 => ?_)
            · exact wp_some ⟨mr2, (muU_le c1)⟩
            · exact wp_some ⟨mr2, (muU_le c1)⟩
      · exact wp_some ⟨Same.rfl', (muU_le c1)⟩
theorem T_Pair_leastToHold_b9 (x1 : Int32) (x2 : Int32) (x3 : Int32) (z : Int32 × Int32 × Int32 × Mem) (hp0 : x3 ≤ 12) : wpO (F_Pair_leastToHold_b9 x1 x2 x3 z) (fun r => (match r with | .inl s => Same (fun k => (34 ≤ k ∧ k ≤ 47)) z.2.2.2 s.2.2.2 ∧ muU s.2.2.1 < muU z.2.2.1 | .inr r => Same (fun k => (34 ≤ k ∧ k ≤ 47)) z.2.2.2 r.2.2)) := by
  unfold F_Pair_leastToHold_b9
  refine wp_if (fun c1 => ?_) (fun c1 => ?_)
  · exact wp_some Same.rfl'
  · unfold F_Pair_leastToHold_l18
    refine wp_bind (Ψ := fun r => Same (fun k => (34 ≤ k ∧ k ≤ 47)) z.2.2.2 r.2.2) (wp_while (P := fun z => Same (fun k => (34 ≤ k ∧ k ≤ 47)) z.2.2.2 z.2.2.2) (μ := fun z => muU z.2.2.1) (fun z hz => wp_mono (T_Pair_leastToHold_b18 x1 x2 x3 z.2.2.1 z) (fun x hx => ?_)) FUEL (z.1, z.2.1, 1, z.2.2.2) Same.rfl' (mu_fuel _)) ?_
    · rcases x with x | x
      · exact ⟨hz.trans (hx.1.mono (fun k hk => by first | omega | exact hk.elim | (dsimp only at hk ⊢; omega))), hx.2⟩
      · exact hz.trans (hx.mono (fun k hk => by first | omega | exact hk.elim | (dsimp only at hk ⊢; omega)))
    intro r hr
    exact wp_some ⟨hr, (muU_nl c1 (Int32.le_trans hp0 (by decide)))⟩
theorem T_Pair_leastToHold (x1 : Int32) (x2 : Int32) (x3 : Int32) (M : Mem) (hp0 : x3 ≤ 12) : wpO (F_Pair_leastToHold x1 x2 x3 M) (fun r => Same (fun k => (34 ≤ k ∧ k ≤ 47)) M r.2) := by
  unfold F_Pair_leastToHold
  unfold F_Pair_leastToHold_l9
  refine wp_bind (Ψ := fun r => Same (fun k => (34 ≤ k ∧ k ≤ 47)) M r.2.2) (wp_while (P := fun z => Same (fun k => (34 ≤ k ∧ k ≤ 47)) M z.2.2.2) (μ := fun z => muU z.2.2.1) (fun z hz => wp_mono (T_Pair_leastToHold_b9 x1 x2 x3 z (by first | decide | assumption | exact n32.mp (by assumption))) (fun x hx => ?_)) FUEL (1, 1, 2, M) Same.rfl' (mu_fuel _)) ?_
  · rcases x with x | x
    · exact ⟨hz.trans (hx.1.mono (fun k hk => by first | omega | exact hk.elim | (dsimp only at hk ⊢; omega))), hx.2⟩
    · exact hz.trans (hx.mono (fun k hk => by first | omega | exact hk.elim | (dsimp only at hk ⊢; omega)))
  intro r hr
  unfold F_Pair_leastToHold_j119
  refine wp_if (fun c1 => ?_) (fun c1 => ?_)
  · exact wp_some hr
  · exact wp_some hr
theorem T_Pair_bestTogether_b32 (x6 : Int32) (z : Int32 × Int64 × Int64 × Int32 × Mem) : wpO (F_Pair_bestTogether_b32 x6 z) (fun r => (match r with | .inl s => Same (fun k => (34 ≤ k ∧ k ≤ 47)) z.2.2.2.2 s.2.2.2.2 ∧ muU s.2.2.2.1 < muU z.2.2.2.1 | .inr r => Same (fun k => (34 ≤ k ∧ k ≤ 47)) z.2.2.2.2 r.2.2.2)) := by
  unfold F_Pair_bestTogether_b32
  refine wp_if (fun c1 => ?_) (fun c1 => ?_)
  · exact wp_some Same.rfl'
  · refine wp_if (fun c2 => ?_) (fun c2 => ?_)
    · exact wp_some Same.rfl'
    · refine wp_bind (T_Well_isBarred x6 z.2.2.2.2) (fun r1 hr1 => ?_)
      refine wp_if (fun c3 => ?_) (fun c3 => ?_)
      · exact wp_some ⟨Same.rfl', (muU_le c1)⟩
      · refine wp_bind (T_Well_isBarred z.2.2.2.1 z.2.2.2.2) (fun r2 hr2 => ?_)
        refine wp_if (fun c4 => ?_) (fun c4 => ?_)
        · exact wp_some ⟨Same.rfl', (muU_le c1)⟩
        · refine wp_bind (T_Pair_look x6 z.2.2.2.1 ((z.2.2.2.2.1 1 1).toInt64) ((z.2.2.2.2.1 1 2).toInt64) z.2.2.2.2) (fun r3 hr3 => ?_)
          have mr3 : Same (fun k => (34 ≤ k ∧ k ≤ 47)) z.2.2.2.2 r3 := hr3.mono (fun k hk => by first | omega | exact hk.elim | (dsimp only at hk ⊢; omega))
          refine wp_bind (T_Pair_firstGain r3) (fun r4 hr4 => ?_)
          refine wp_if (fun c5 => ?_) (fun c5 => ?_)
          · refine wp_bind (T_Row_at 41 18 0 r3) (fun r5 hr5 => ?_)
            refine wp_bind (T_Row_at 41 18 1 r3) (fun r6 hr6 => ?_)
            refine wp_bind (T_Row_at 43 9 0 r3) (fun r7 hr7 => ?_)
            refine wp_if (fun c6 => ?_) (fun c6 => ?_)
            · unfold F_Pair_bestTogether_j169
              exact wp_some ⟨mr3, (muU_le c1)⟩
            · refine wp_bind (T_Fraction_order (r5 + r6) r7 z.2.1 z.2.2.1 r3) (fun r8 hr8 => ?_)
              refine wp_if (fun c7 => ?_) (fun c7 => ?_)
              · exact wp_some ⟨mr3, (muU_le c1)⟩
              · unfold F_Pair_bestTogether_j169
                exact wp_some ⟨mr3, (muU_le c1)⟩
          · exact wp_some ⟨mr3, (muU_le c1)⟩
theorem T_Pair_bestTogether_b10 (z : Int32 × Int64 × Int64 × Int32 × Mem) : wpO (F_Pair_bestTogether_b10 z) (fun r => (match r with | .inl s => Same (fun k => (34 ≤ k ∧ k ≤ 47)) z.2.2.2.2 s.2.2.2.2 ∧ muU s.2.2.2.1 < muU z.2.2.2.1 | .inr r => Same (fun k => (34 ≤ k ∧ k ≤ 47)) z.2.2.2.2 r.2)) := by
  unfold F_Pair_bestTogether_b10
  refine wp_if (fun c1 => ?_) (fun c1 => ?_)
  · exact wp_some Same.rfl'
  · refine wp_if (fun c2 => ?_) (fun c2 => ?_)
    · exact wp_some Same.rfl'
    · unfold F_Pair_bestTogether_l32
      refine wp_bind (Ψ := fun r => Same (fun k => (34 ≤ k ∧ k ≤ 47)) z.2.2.2.2 r.2.2.2) (wp_while (P := fun z => Same (fun k => (34 ≤ k ∧ k ≤ 47)) z.2.2.2.2 z.2.2.2.2) (μ := fun z => muU z.2.2.2.1) (fun z hz => wp_mono (T_Pair_bestTogether_b32 z.2.2.2.1 z) (fun x hx => ?_)) FUEL (z.1, z.2.1, z.2.2.1, 0, z.2.2.2.2) Same.rfl' (mu_fuel _)) ?_
      · rcases x with x | x
        · exact ⟨hz.trans (hx.1.mono (fun k hk => by first | omega | exact hk.elim | (dsimp only at hk ⊢; omega))), hx.2⟩
        · exact hz.trans (hx.mono (fun k hk => by first | omega | exact hk.elim | (dsimp only at hk ⊢; omega)))
      intro r hr
      exact wp_some ⟨hr, (muU_le c1)⟩
theorem T_Pair_bestTogether (M : Mem) : wpO (F_Pair_bestTogether M) (fun r => Same (fun k => (34 ≤ k ∧ k ≤ 47)) M r.2) := by
  unfold F_Pair_bestTogether
  unfold F_Pair_bestTogether_l10
  refine wp_bind (Ψ := fun r => Same (fun k => (34 ≤ k ∧ k ≤ 47)) M r.2) (wp_while (P := fun z => Same (fun k => (34 ≤ k ∧ k ≤ 47)) M z.2.2.2.2) (μ := fun z => muU z.2.2.2.1) (fun z hz => wp_mono (T_Pair_bestTogether_b10  z) (fun x hx => ?_)) FUEL (((-1)), 0, 1, 0, M) Same.rfl' (mu_fuel _)) ?_
  · rcases x with x | x
    · exact ⟨hz.trans (hx.1.mono (fun k hk => by first | omega | exact hk.elim | (dsimp only at hk ⊢; omega))), hx.2⟩
    · exact hz.trans (hx.mono (fun k hk => by first | omega | exact hk.elim | (dsimp only at hk ⊢; omega)))
  intro r hr
  exact wp_some hr
theorem T_Pair_lossTo (x1 : Int32) (x2 : Int32) (M : Mem) : wpO (F_Pair_lossTo x1 x2 M) (fun r => True) := by
  unfold F_Pair_lossTo
  refine wp_bind (T_Row_at 43 9 0 M) (fun r1 hr1 => ?_)
  refine wp_bind (T_Row_at 43 9 x1 M) (fun r2 hr2 => ?_)
  refine wp_if (fun c1 => ?_) (fun c1 => ?_)
  · exact wp_some trivial
  · refine wp_if (fun c2 => ?_) (fun c2 => ?_)
    · refine wp_bind (T_Row_at 41 18 x2 M) (fun r3 hr3 => ?_)
      refine wp_bind (T_Row_at 41 18 ((2 * x1) + x2) M) (fun r4 hr4 => ?_)
      refine wp_t (by intro q; rw [q] at c2; exact absurd c2 (by decide)) ?_
      refine wp_bind (T_Math_floorDiv (-(r3 - (r4 * (r1 / r2)))) r1 M (by intro q; rw [q] at c1; exact c1 (by decide))) (fun r5 hr5 => ?_)
      exact wp_some trivial
    · exact wp_some trivial
theorem T_Math_max_JJJ (x0 : Int64) (x2 : Int64) (M : Mem) : wpO (F_Math_max_JJJ x0 x2 M) (fun r => True) := by
  unfold F_Math_max_JJJ
  refine wp_if (fun c1 => ?_) (fun c1 => ?_)
  · exact wp_some trivial
  · exact wp_some trivial
theorem T_Pair_costToLeave_b7 (M : Mem) (z : Int64 × Int32 × Int32) : wpO (F_Pair_costToLeave_b7 M z) (fun r => (match r with | .inl s => muU s.2.2 < muU z.2.2 | .inr r => True)) := by
  unfold F_Pair_costToLeave_b7
  refine wp_if (fun c1 => ?_) (fun c1 => ?_)
  · exact wp_some trivial
  · refine wp_bind (T_Pair_lossTo z.2.1 0 M) (fun r1 hr1 => ?_)
    refine wp_bind (T_Pair_lossTo z.2.1 1 M) (fun r2 hr2 => ?_)
    refine wp_bind (T_Math_max_JJJ r1 r2 M) (fun r3 hr3 => ?_)
    refine wp_bind (T_Math_max_JJJ z.1 r3 M) (fun r4 hr4 => ?_)
    refine wp_bind (T_Row_small 37 9 z.2.1 M) (fun r5 hr5 => ?_)
    exact wp_some (muU_le c1)
theorem T_Pair_costToLeave (M : Mem) : wpO (F_Pair_costToLeave M) (fun r => True) := by
  unfold F_Pair_costToLeave
  unfold F_Pair_costToLeave_l7
  refine wp_bind (Ψ := fun r => True) (wp_while (P := fun _ => True) (μ := fun z => muU z.2.2) (fun z hz => wp_mono (T_Pair_costToLeave_b7 M z) (fun x hx => ?_)) FUEL (0, 0, 0) trivial (mu_fuel _)) ?_
  · rcases x with x | x
    · exact ⟨trivial, hx⟩
    · trivial
  intro r hr
  exact wp_some trivial
theorem T_Pair_chanceOf (x1 : Int32) (M : Mem) : wpO (F_Pair_chanceOf x1 M) (fun r => True) := by
  unfold F_Pair_chanceOf
  refine wp_if (fun c1 => ?_) (fun c1 => ?_)
  · exact wp_some trivial
  · exact wp_some trivial
theorem T_Pair_fillDoubt_b134 (x1 : Int32) (x2 : Int32) (x3 : Int32) (x4 : Int32) (x5 : Int32) (x8 : Int32) (z : Int32 × Mem) : wpO (F_Pair_fillDoubt_b134 x1 x2 x3 x4 x5 x8 z) (fun r => (match r with | .inl s => Same (fun k => k = 49) z.2 s.2 ∧ muU s.1 < muU z.1 | .inr r => Same (fun k => k = 49) z.2 r)) := by
  unfold F_Pair_fillDoubt_b134
  refine wp_if (fun c1 => ?_) (fun c1 => ?_)
  · exact wp_some Same.rfl'
  · refine wp_if (fun c2 => ?_) (fun c2 => ?_)
    · unfold F_Pair_fillDoubt_j153
      refine wp_bind (T_Pair_chanceOf ((b2i true)) z.2) (fun r8 hr8 => ?_)
      refine wp_if (fun c3 => ?_) (fun c3 => ?_)
      · unfold F_Pair_fillDoubt_j169
        refine wp_bind (T_Pair_chanceOf ((b2i true)) z.2) (fun r9 hr9 => ?_)
        refine wp_bind (T_Well_nextOf (z.2.1 34 2) x2 z.1 z.2) (fun r10 hr10 => ?_)
        refine wp_bind (T_Well_nextOf (z.2.1 34 3) x3 x8 z.2) (fun r11 hr11 => ?_)
        refine wp_bind (T_Row_add 49 16 ((4 * x1) + ((2 * r10) + r11)) (((-(z.2.1 1 1)).toInt64) * (r8 * r9)) z.2) (fun r12 hr12 => ?_)
        have mr12 : Same (fun k => k = 49) z.2 r12 := hr12.mono (fun k hk => by first | omega | exact hk.elim | (dsimp only at hk ⊢; omega))
        exact wp_some ⟨mr12, (muU_le c1)⟩
      · unfold F_Pair_fillDoubt_j169
        refine wp_bind (T_Pair_chanceOf ((b2i false)) z.2) (fun r9 hr9 => ?_)
        refine wp_bind (T_Well_nextOf (z.2.1 34 2) x2 z.1 z.2) (fun r10 hr10 => ?_)
        refine wp_bind (T_Well_nextOf (z.2.1 34 3) x3 x8 z.2) (fun r11 hr11 => ?_)
        refine wp_bind (T_Row_add 49 16 ((4 * x1) + ((2 * r10) + r11)) (((-(z.2.1 1 1)).toInt64) * (r8 * r9)) z.2) (fun r12 hr12 => ?_)
        have mr12 : Same (fun k => k = 49) z.2 r12 := hr12.mono (fun k hk => by first | omega | exact hk.elim | (dsimp only at hk ⊢; omega))
        exact wp_some ⟨mr12, (muU_le c1)⟩
    · unfold F_Pair_fillDoubt_j153
      refine wp_bind (T_Pair_chanceOf ((b2i false)) z.2) (fun r8 hr8 => ?_)
      refine wp_if (fun c4 => ?_) (fun c4 => ?_)
      · unfold F_Pair_fillDoubt_j169
        refine wp_bind (T_Pair_chanceOf ((b2i true)) z.2) (fun r9 hr9 => ?_)
        refine wp_bind (T_Well_nextOf (z.2.1 34 2) x2 z.1 z.2) (fun r10 hr10 => ?_)
        refine wp_bind (T_Well_nextOf (z.2.1 34 3) x3 x8 z.2) (fun r11 hr11 => ?_)
        refine wp_bind (T_Row_add 49 16 ((4 * x1) + ((2 * r10) + r11)) (((-(z.2.1 1 1)).toInt64) * (r8 * r9)) z.2) (fun r12 hr12 => ?_)
        have mr12 : Same (fun k => k = 49) z.2 r12 := hr12.mono (fun k hk => by first | omega | exact hk.elim | (dsimp only at hk ⊢; omega))
        exact wp_some ⟨mr12, (muU_le c1)⟩
      · unfold F_Pair_fillDoubt_j169
        refine wp_bind (T_Pair_chanceOf ((b2i false)) z.2) (fun r9 hr9 => ?_)
        refine wp_bind (T_Well_nextOf (z.2.1 34 2) x2 z.1 z.2) (fun r10 hr10 => ?_)
        refine wp_bind (T_Well_nextOf (z.2.1 34 3) x3 x8 z.2) (fun r11 hr11 => ?_)
        refine wp_bind (T_Row_add 49 16 ((4 * x1) + ((2 * r10) + r11)) (((-(z.2.1 1 1)).toInt64) * (r8 * r9)) z.2) (fun r12 hr12 => ?_)
        have mr12 : Same (fun k => k = 49) z.2 r12 := hr12.mono (fun k hk => by first | omega | exact hk.elim | (dsimp only at hk ⊢; omega))
        exact wp_some ⟨mr12, (muU_le c1)⟩
theorem T_Pair_fillDoubt_b125 (x1 : Int32) (x2 : Int32) (x3 : Int32) (x4 : Int32) (x5 : Int32) (z : Int32 × Mem) : wpO (F_Pair_fillDoubt_b125 x1 x2 x3 x4 x5 z) (fun r => (match r with | .inl s => Same (fun k => k = 49) z.2 s.2 ∧ muU s.1 < muU z.1 | .inr r => Same (fun k => k = 49) z.2 r)) := by
  unfold F_Pair_fillDoubt_b125
  refine wp_if (fun c1 => ?_) (fun c1 => ?_)
  · exact wp_some Same.rfl'
  · unfold F_Pair_fillDoubt_l134
    refine wp_bind (Ψ := fun r => Same (fun k => k = 49) z.2 r) (wp_while (P := fun z => Same (fun k => k = 49) z.2 z.2) (μ := fun z => muU z.1) (fun z hz => wp_mono (T_Pair_fillDoubt_b134 x1 x2 x3 x4 x5 z.1 z) (fun x hx => ?_)) FUEL (0, z.2) Same.rfl' (mu_fuel _)) ?_
    · rcases x with x | x
      · exact ⟨hz.trans (hx.1.mono (fun k hk => by first | omega | exact hk.elim | (dsimp only at hk ⊢; omega))), hx.2⟩
      · exact hz.trans (hx.mono (fun k hk => by first | omega | exact hk.elim | (dsimp only at hk ⊢; omega)))
    intro r hr
    exact wp_some ⟨hr, (muU_le c1)⟩
theorem T_Pair_fillDoubt (x1 : Int32) (x2 : Int32) (x3 : Int32) (M : Mem) : wpO (F_Pair_fillDoubt x1 x2 x3 M) (fun r => Same (fun k => (49 ≤ k ∧ k ≤ 51)) M r) := by
  unfold F_Pair_fillDoubt
  refine wp_bind (T_Well_actOf (M.1 34 2) x2 M) (fun r1 hr1 => ?_)
  refine wp_bind (T_Well_actOf (M.1 34 3) x3 M) (fun r2 hr2 => ?_)
  refine wp_bind (T_Row_add 49 16 (5 * x1) ((((M.1 1 2).toInt64) * ((M.1 1 4).toInt64)) * ((M.1 1 4).toInt64)) M) (fun r3 hr3 => ?_)
  have mr3 : Same (fun k => (49 ≤ k ∧ k ≤ 51)) M r3 := hr3.mono (fun k hk => by first | omega | exact hk.elim | (dsimp only at hk ⊢; omega))
  refine wp_bind (T_Well_bringsTo 0 r1 r2 r3) (fun r4 hr4 => ?_)
  refine wp_bind (T_Row_put 51 8 (2 * x1) (((((M.1 1 2).toInt64) * ((M.1 1 4).toInt64)) * ((M.1 1 4).toInt64)) * r4.toInt64) r3) (fun r5 hr5 => ?_)
  have mr5 := (mr3).trans (hr5.mono (fun k hk => by first | omega | exact hk.elim | (dsimp only at hk ⊢; omega)))
  refine wp_bind (T_Well_bringsTo 1 r1 r2 r5) (fun r6 hr6 => ?_)
  refine wp_bind (T_Row_put 51 8 ((2 * x1) + 1) (((((M.1 1 2).toInt64) * ((M.1 1 4).toInt64)) * ((M.1 1 4).toInt64)) * r6.toInt64) r5) (fun r7 hr7 => ?_)
  have mr7 := (mr5).trans (hr7.mono (fun k hk => by first | omega | exact hk.elim | (dsimp only at hk ⊢; omega)))
  unfold F_Pair_fillDoubt_l125
  refine wp_bind (Ψ := fun r => Same (fun k => (49 ≤ k ∧ k ≤ 51)) M r) (wp_while (P := fun z => Same (fun k => (49 ≤ k ∧ k ≤ 51)) M z.2) (μ := fun z => muU z.1) (fun z hz => wp_mono (T_Pair_fillDoubt_b125 x1 x2 x3 r1 r2 z) (fun x hx => ?_)) FUEL (0, r7) mr7 (mu_fuel _)) ?_
  · rcases x with x | x
    · exact ⟨hz.trans (hx.1.mono (fun k hk => by first | omega | exact hk.elim | (dsimp only at hk ⊢; omega))), hx.2⟩
    · exact hz.trans (hx.mono (fun k hk => by first | omega | exact hk.elim | (dsimp only at hk ⊢; omega)))
  intro r hr
  exact wp_some hr
theorem T_Pair_fillDoubts_b18 (z : Int32 × Mem) : wpO (F_Pair_fillDoubts_b18 z) (fun r => (match r with | .inl s => Same (fun k => (49 ≤ k ∧ k ≤ 51)) z.2 s.2 ∧ muU s.1 < muU z.1 | .inr r => Same (fun k => (49 ≤ k ∧ k ≤ 51)) z.2 r)) := by
  unfold F_Pair_fillDoubts_b18
  refine wp_if (fun c1 => ?_) (fun c1 => ?_)
  · exact wp_some Same.rfl'
  · refine wp_if (fun c2 => ?_) (fun c2 => ?_)
    · unfold F_Pair_fillDoubts_j57
      refine wp_bind (T_Row_put 49 16 (5 * z.1) 1 z.2) (fun r3 hr3 => ?_)
      have mr3 : Same (fun k => (49 ≤ k ∧ k ≤ 51)) z.2 r3 := hr3.mono (fun k hk => by first | omega | exact hk.elim | (dsimp only at hk ⊢; omega))
      exact wp_some ⟨mr3, (muU_le c1)⟩
    · refine wp_if (fun c3 => ?_) (fun c3 => ?_)
      · unfold F_Pair_fillDoubts_j57
        refine wp_bind (T_Row_put 49 16 (5 * z.1) 1 z.2) (fun r3 hr3 => ?_)
        have mr3 : Same (fun k => (49 ≤ k ∧ k ≤ 51)) z.2 r3 := hr3.mono (fun k hk => by first | omega | exact hk.elim | (dsimp only at hk ⊢; omega))
        exact wp_some ⟨mr3, (muU_le c1)⟩
      · refine wp_bind (T_Pair_fillDoubt z.1 (z.1 / 2) (irm z.1 2) z.2) (fun r4 hr4 => ?_)
        have mr4 : Same (fun k => (49 ≤ k ∧ k ≤ 51)) z.2 r4 := hr4.mono (fun k hk => by first | omega | exact hk.elim | (dsimp only at hk ⊢; omega))
        exact wp_some ⟨mr4, (muU_le c1)⟩
theorem T_Pair_fillDoubts (M : Mem) : wpO (F_Pair_fillDoubts M) (fun r => Same (fun k => (49 ≤ k ∧ k ≤ 51)) M r) := by
  unfold F_Pair_fillDoubts
  refine wp_bind (T_Row_setAll 49 16 0 M) (fun r1 hr1 => ?_)
  have mr1 : Same (fun k => (49 ≤ k ∧ k ≤ 51)) M r1 := hr1.mono (fun k hk => by first | omega | exact hk.elim | (dsimp only at hk ⊢; omega))
  refine wp_bind (T_Row_setAll 51 8 0 r1) (fun r2 hr2 => ?_)
  have mr2 := (mr1).trans (hr2.mono (fun k hk => by first | omega | exact hk.elim | (dsimp only at hk ⊢; omega)))
  unfold F_Pair_fillDoubts_l18
  refine wp_bind (Ψ := fun r => Same (fun k => (49 ≤ k ∧ k ≤ 51)) M r) (wp_while (P := fun z => Same (fun k => (49 ≤ k ∧ k ≤ 51)) M z.2) (μ := fun z => muU z.1) (fun z hz => wp_mono (T_Pair_fillDoubts_b18  z) (fun x hx => ?_)) FUEL (0, r2) mr2 (mu_fuel _)) ?_
  · rcases x with x | x
    · exact ⟨hz.trans (hx.1.mono (fun k hk => by first | omega | exact hk.elim | (dsimp only at hk ⊢; omega))), hx.2⟩
    · exact hz.trans (hx.mono (fun k hk => by first | omega | exact hk.elim | (dsimp only at hk ⊢; omega)))
  intro r hr
  exact wp_some hr
theorem T_Pair_cofactorOf (x1 : Int32) (M : Mem) : wpO (F_Pair_cofactorOf x1 M) (fun r => True) := by
  unfold F_Pair_cofactorOf
  refine wp_if (fun c1 => ?_) (fun c1 => ?_)
  · unfold F_Pair_cofactorOf_j10
    refine wp_if (fun c2 => ?_) (fun c2 => ?_)
    · unfold F_Pair_cofactorOf_j23
      refine wp_if (fun c3 => ?_) (fun c3 => ?_)
      · unfold F_Pair_cofactorOf_j36
        refine wp_bind (T_Row_at 49 16 ((4 * ((b2i true))) + 1) M) (fun r1 hr1 => ?_)
        refine wp_bind (T_Row_at 49 16 ((4 * 1) + 2) M) (fun r2 hr2 => ?_)
        refine wp_bind (T_Row_at 49 16 ((4 * 2) + 3) M) (fun r3 hr3 => ?_)
        refine wp_bind (T_Row_at 49 16 ((4 * 1) + 3) M) (fun r4 hr4 => ?_)
        refine wp_bind (T_Row_at 49 16 ((4 * 2) + 2) M) (fun r5 hr5 => ?_)
        refine wp_bind (T_Row_at 49 16 ((4 * ((b2i true))) + 2) M) (fun r6 hr6 => ?_)
        refine wp_bind (T_Row_at 49 16 ((4 * 1) + 1) M) (fun r7 hr7 => ?_)
        refine wp_bind (T_Row_at 49 16 ((4 * 2) + 3) M) (fun r8 hr8 => ?_)
        refine wp_bind (T_Row_at 49 16 ((4 * 1) + 3) M) (fun r9 hr9 => ?_)
        refine wp_bind (T_Row_at 49 16 ((4 * 2) + 1) M) (fun r10 hr10 => ?_)
        refine wp_bind (T_Row_at 49 16 ((4 * ((b2i true))) + 3) M) (fun r11 hr11 => ?_)
        refine wp_bind (T_Row_at 49 16 ((4 * 1) + 1) M) (fun r12 hr12 => ?_)
        refine wp_bind (T_Row_at 49 16 ((4 * 2) + 2) M) (fun r13 hr13 => ?_)
        refine wp_bind (T_Row_at 49 16 ((4 * 1) + 2) M) (fun r14 hr14 => ?_)
        refine wp_bind (T_Row_at 49 16 ((4 * 2) + 1) M) (fun r15 hr15 => ?_)
        refine wp_if (fun c4 => ?_) (fun c4 => ?_)
        · exact wp_some trivial
        · exact wp_some trivial
      · unfold F_Pair_cofactorOf_j36
        refine wp_bind (T_Row_at 49 16 ((4 * ((b2i true))) + 1) M) (fun r1 hr1 => ?_)
        refine wp_bind (T_Row_at 49 16 ((4 * 1) + 2) M) (fun r2 hr2 => ?_)
        refine wp_bind (T_Row_at 49 16 ((4 * 3) + 3) M) (fun r3 hr3 => ?_)
        refine wp_bind (T_Row_at 49 16 ((4 * 1) + 3) M) (fun r4 hr4 => ?_)
        refine wp_bind (T_Row_at 49 16 ((4 * 3) + 2) M) (fun r5 hr5 => ?_)
        refine wp_bind (T_Row_at 49 16 ((4 * ((b2i true))) + 2) M) (fun r6 hr6 => ?_)
        refine wp_bind (T_Row_at 49 16 ((4 * 1) + 1) M) (fun r7 hr7 => ?_)
        refine wp_bind (T_Row_at 49 16 ((4 * 3) + 3) M) (fun r8 hr8 => ?_)
        refine wp_bind (T_Row_at 49 16 ((4 * 1) + 3) M) (fun r9 hr9 => ?_)
        refine wp_bind (T_Row_at 49 16 ((4 * 3) + 1) M) (fun r10 hr10 => ?_)
        refine wp_bind (T_Row_at 49 16 ((4 * ((b2i true))) + 3) M) (fun r11 hr11 => ?_)
        refine wp_bind (T_Row_at 49 16 ((4 * 1) + 1) M) (fun r12 hr12 => ?_)
        refine wp_bind (T_Row_at 49 16 ((4 * 3) + 2) M) (fun r13 hr13 => ?_)
        refine wp_bind (T_Row_at 49 16 ((4 * 1) + 2) M) (fun r14 hr14 => ?_)
        refine wp_bind (T_Row_at 49 16 ((4 * 3) + 1) M) (fun r15 hr15 => ?_)
        refine wp_if (fun c5 => ?_) (fun c5 => ?_)
        · exact wp_some trivial
        · exact wp_some trivial
    · unfold F_Pair_cofactorOf_j23
      refine wp_if (fun c6 => ?_) (fun c6 => ?_)
      · unfold F_Pair_cofactorOf_j36
        refine wp_bind (T_Row_at 49 16 ((4 * ((b2i true))) + 1) M) (fun r1 hr1 => ?_)
        refine wp_bind (T_Row_at 49 16 ((4 * 2) + 2) M) (fun r2 hr2 => ?_)
        refine wp_bind (T_Row_at 49 16 ((4 * 2) + 3) M) (fun r3 hr3 => ?_)
        refine wp_bind (T_Row_at 49 16 ((4 * 2) + 3) M) (fun r4 hr4 => ?_)
        refine wp_bind (T_Row_at 49 16 ((4 * 2) + 2) M) (fun r5 hr5 => ?_)
        refine wp_bind (T_Row_at 49 16 ((4 * ((b2i true))) + 2) M) (fun r6 hr6 => ?_)
        refine wp_bind (T_Row_at 49 16 ((4 * 2) + 1) M) (fun r7 hr7 => ?_)
        refine wp_bind (T_Row_at 49 16 ((4 * 2) + 3) M) (fun r8 hr8 => ?_)
        refine wp_bind (T_Row_at 49 16 ((4 * 2) + 3) M) (fun r9 hr9 => ?_)
        refine wp_bind (T_Row_at 49 16 ((4 * 2) + 1) M) (fun r10 hr10 => ?_)
        refine wp_bind (T_Row_at 49 16 ((4 * ((b2i true))) + 3) M) (fun r11 hr11 => ?_)
        refine wp_bind (T_Row_at 49 16 ((4 * 2) + 1) M) (fun r12 hr12 => ?_)
        refine wp_bind (T_Row_at 49 16 ((4 * 2) + 2) M) (fun r13 hr13 => ?_)
        refine wp_bind (T_Row_at 49 16 ((4 * 2) + 2) M) (fun r14 hr14 => ?_)
        refine wp_bind (T_Row_at 49 16 ((4 * 2) + 1) M) (fun r15 hr15 => ?_)
        refine wp_if (fun c7 => ?_) (fun c7 => ?_)
        · exact wp_some trivial
        · exact wp_some trivial
      · unfold F_Pair_cofactorOf_j36
        refine wp_bind (T_Row_at 49 16 ((4 * ((b2i true))) + 1) M) (fun r1 hr1 => ?_)
        refine wp_bind (T_Row_at 49 16 ((4 * 2) + 2) M) (fun r2 hr2 => ?_)
        refine wp_bind (T_Row_at 49 16 ((4 * 3) + 3) M) (fun r3 hr3 => ?_)
        refine wp_bind (T_Row_at 49 16 ((4 * 2) + 3) M) (fun r4 hr4 => ?_)
        refine wp_bind (T_Row_at 49 16 ((4 * 3) + 2) M) (fun r5 hr5 => ?_)
        refine wp_bind (T_Row_at 49 16 ((4 * ((b2i true))) + 2) M) (fun r6 hr6 => ?_)
        refine wp_bind (T_Row_at 49 16 ((4 * 2) + 1) M) (fun r7 hr7 => ?_)
        refine wp_bind (T_Row_at 49 16 ((4 * 3) + 3) M) (fun r8 hr8 => ?_)
        refine wp_bind (T_Row_at 49 16 ((4 * 2) + 3) M) (fun r9 hr9 => ?_)
        refine wp_bind (T_Row_at 49 16 ((4 * 3) + 1) M) (fun r10 hr10 => ?_)
        refine wp_bind (T_Row_at 49 16 ((4 * ((b2i true))) + 3) M) (fun r11 hr11 => ?_)
        refine wp_bind (T_Row_at 49 16 ((4 * 2) + 1) M) (fun r12 hr12 => ?_)
        refine wp_bind (T_Row_at 49 16 ((4 * 3) + 2) M) (fun r13 hr13 => ?_)
        refine wp_bind (T_Row_at 49 16 ((4 * 2) + 2) M) (fun r14 hr14 => ?_)
        refine wp_bind (T_Row_at 49 16 ((4 * 3) + 1) M) (fun r15 hr15 => ?_)
        refine wp_if (fun c8 => ?_) (fun c8 => ?_)
        · exact wp_some trivial
        · exact wp_some trivial
  · unfold F_Pair_cofactorOf_j10
    refine wp_if (fun c9 => ?_) (fun c9 => ?_)
    · unfold F_Pair_cofactorOf_j23
      refine wp_if (fun c10 => ?_) (fun c10 => ?_)
      · unfold F_Pair_cofactorOf_j36
        refine wp_bind (T_Row_at 49 16 ((4 * ((b2i false))) + 1) M) (fun r1 hr1 => ?_)
        refine wp_bind (T_Row_at 49 16 ((4 * 1) + 2) M) (fun r2 hr2 => ?_)
        refine wp_bind (T_Row_at 49 16 ((4 * 2) + 3) M) (fun r3 hr3 => ?_)
        refine wp_bind (T_Row_at 49 16 ((4 * 1) + 3) M) (fun r4 hr4 => ?_)
        refine wp_bind (T_Row_at 49 16 ((4 * 2) + 2) M) (fun r5 hr5 => ?_)
        refine wp_bind (T_Row_at 49 16 ((4 * ((b2i false))) + 2) M) (fun r6 hr6 => ?_)
        refine wp_bind (T_Row_at 49 16 ((4 * 1) + 1) M) (fun r7 hr7 => ?_)
        refine wp_bind (T_Row_at 49 16 ((4 * 2) + 3) M) (fun r8 hr8 => ?_)
        refine wp_bind (T_Row_at 49 16 ((4 * 1) + 3) M) (fun r9 hr9 => ?_)
        refine wp_bind (T_Row_at 49 16 ((4 * 2) + 1) M) (fun r10 hr10 => ?_)
        refine wp_bind (T_Row_at 49 16 ((4 * ((b2i false))) + 3) M) (fun r11 hr11 => ?_)
        refine wp_bind (T_Row_at 49 16 ((4 * 1) + 1) M) (fun r12 hr12 => ?_)
        refine wp_bind (T_Row_at 49 16 ((4 * 2) + 2) M) (fun r13 hr13 => ?_)
        refine wp_bind (T_Row_at 49 16 ((4 * 1) + 2) M) (fun r14 hr14 => ?_)
        refine wp_bind (T_Row_at 49 16 ((4 * 2) + 1) M) (fun r15 hr15 => ?_)
        refine wp_if (fun c11 => ?_) (fun c11 => ?_)
        · exact wp_some trivial
        · exact wp_some trivial
      · unfold F_Pair_cofactorOf_j36
        refine wp_bind (T_Row_at 49 16 ((4 * ((b2i false))) + 1) M) (fun r1 hr1 => ?_)
        refine wp_bind (T_Row_at 49 16 ((4 * 1) + 2) M) (fun r2 hr2 => ?_)
        refine wp_bind (T_Row_at 49 16 ((4 * 3) + 3) M) (fun r3 hr3 => ?_)
        refine wp_bind (T_Row_at 49 16 ((4 * 1) + 3) M) (fun r4 hr4 => ?_)
        refine wp_bind (T_Row_at 49 16 ((4 * 3) + 2) M) (fun r5 hr5 => ?_)
        refine wp_bind (T_Row_at 49 16 ((4 * ((b2i false))) + 2) M) (fun r6 hr6 => ?_)
        refine wp_bind (T_Row_at 49 16 ((4 * 1) + 1) M) (fun r7 hr7 => ?_)
        refine wp_bind (T_Row_at 49 16 ((4 * 3) + 3) M) (fun r8 hr8 => ?_)
        refine wp_bind (T_Row_at 49 16 ((4 * 1) + 3) M) (fun r9 hr9 => ?_)
        refine wp_bind (T_Row_at 49 16 ((4 * 3) + 1) M) (fun r10 hr10 => ?_)
        refine wp_bind (T_Row_at 49 16 ((4 * ((b2i false))) + 3) M) (fun r11 hr11 => ?_)
        refine wp_bind (T_Row_at 49 16 ((4 * 1) + 1) M) (fun r12 hr12 => ?_)
        refine wp_bind (T_Row_at 49 16 ((4 * 3) + 2) M) (fun r13 hr13 => ?_)
        refine wp_bind (T_Row_at 49 16 ((4 * 1) + 2) M) (fun r14 hr14 => ?_)
        refine wp_bind (T_Row_at 49 16 ((4 * 3) + 1) M) (fun r15 hr15 => ?_)
        refine wp_if (fun c12 => ?_) (fun c12 => ?_)
        · exact wp_some trivial
        · exact wp_some trivial
    · unfold F_Pair_cofactorOf_j23
      refine wp_if (fun c13 => ?_) (fun c13 => ?_)
      · unfold F_Pair_cofactorOf_j36
        refine wp_bind (T_Row_at 49 16 ((4 * ((b2i false))) + 1) M) (fun r1 hr1 => ?_)
        refine wp_bind (T_Row_at 49 16 ((4 * 2) + 2) M) (fun r2 hr2 => ?_)
        refine wp_bind (T_Row_at 49 16 ((4 * 2) + 3) M) (fun r3 hr3 => ?_)
        refine wp_bind (T_Row_at 49 16 ((4 * 2) + 3) M) (fun r4 hr4 => ?_)
        refine wp_bind (T_Row_at 49 16 ((4 * 2) + 2) M) (fun r5 hr5 => ?_)
        refine wp_bind (T_Row_at 49 16 ((4 * ((b2i false))) + 2) M) (fun r6 hr6 => ?_)
        refine wp_bind (T_Row_at 49 16 ((4 * 2) + 1) M) (fun r7 hr7 => ?_)
        refine wp_bind (T_Row_at 49 16 ((4 * 2) + 3) M) (fun r8 hr8 => ?_)
        refine wp_bind (T_Row_at 49 16 ((4 * 2) + 3) M) (fun r9 hr9 => ?_)
        refine wp_bind (T_Row_at 49 16 ((4 * 2) + 1) M) (fun r10 hr10 => ?_)
        refine wp_bind (T_Row_at 49 16 ((4 * ((b2i false))) + 3) M) (fun r11 hr11 => ?_)
        refine wp_bind (T_Row_at 49 16 ((4 * 2) + 1) M) (fun r12 hr12 => ?_)
        refine wp_bind (T_Row_at 49 16 ((4 * 2) + 2) M) (fun r13 hr13 => ?_)
        refine wp_bind (T_Row_at 49 16 ((4 * 2) + 2) M) (fun r14 hr14 => ?_)
        refine wp_bind (T_Row_at 49 16 ((4 * 2) + 1) M) (fun r15 hr15 => ?_)
        refine wp_if (fun c14 => ?_) (fun c14 => ?_)
        · exact wp_some trivial
        · exact wp_some trivial
      · unfold F_Pair_cofactorOf_j36
        refine wp_bind (T_Row_at 49 16 ((4 * ((b2i false))) + 1) M) (fun r1 hr1 => ?_)
        refine wp_bind (T_Row_at 49 16 ((4 * 2) + 2) M) (fun r2 hr2 => ?_)
        refine wp_bind (T_Row_at 49 16 ((4 * 3) + 3) M) (fun r3 hr3 => ?_)
        refine wp_bind (T_Row_at 49 16 ((4 * 2) + 3) M) (fun r4 hr4 => ?_)
        refine wp_bind (T_Row_at 49 16 ((4 * 3) + 2) M) (fun r5 hr5 => ?_)
        refine wp_bind (T_Row_at 49 16 ((4 * ((b2i false))) + 2) M) (fun r6 hr6 => ?_)
        refine wp_bind (T_Row_at 49 16 ((4 * 2) + 1) M) (fun r7 hr7 => ?_)
        refine wp_bind (T_Row_at 49 16 ((4 * 3) + 3) M) (fun r8 hr8 => ?_)
        refine wp_bind (T_Row_at 49 16 ((4 * 2) + 3) M) (fun r9 hr9 => ?_)
        refine wp_bind (T_Row_at 49 16 ((4 * 3) + 1) M) (fun r10 hr10 => ?_)
        refine wp_bind (T_Row_at 49 16 ((4 * ((b2i false))) + 3) M) (fun r11 hr11 => ?_)
        refine wp_bind (T_Row_at 49 16 ((4 * 2) + 1) M) (fun r12 hr12 => ?_)
        refine wp_bind (T_Row_at 49 16 ((4 * 3) + 2) M) (fun r13 hr13 => ?_)
        refine wp_bind (T_Row_at 49 16 ((4 * 2) + 2) M) (fun r14 hr14 => ?_)
        refine wp_bind (T_Row_at 49 16 ((4 * 3) + 1) M) (fun r15 hr15 => ?_)
        refine wp_if (fun c15 => ?_) (fun c15 => ?_)
        · exact wp_some trivial
        · exact wp_some trivial
theorem T_Pair_tellDoubted_b13 (o3 : Nat) (x1 : Int32) (x2 : Int32) (M : Mem) (z : Int64 × Int64 × Int32) : wpO (F_Pair_tellDoubted_b13 o3 x1 x2 M z) (fun r => (match r with | .inl s => muU s.2.2 < muU z.2.2 | .inr r => True)) := by
  unfold F_Pair_tellDoubted_b13
  refine wp_if (fun c1 => ?_) (fun c1 => ?_)
  · exact wp_some trivial
  · refine wp_bind (T_Pair_cofactorOf z.2.2 M) (fun r5 hr5 => ?_)
    refine wp_bind (T_Row_at 51 8 ((2 * z.2.2) + x1) M) (fun r6 hr6 => ?_)
    refine wp_bind (T_Row_at 49 16 (4 * z.2.2) M) (fun r7 hr7 => ?_)
    exact wp_some (muU_le c1)
theorem T_Pair_tellDoubted (o3 : Nat) (x1 : Int32) (x2 : Int32) (M : Mem) : wpO (F_Pair_tellDoubted o3 x1 x2 M) (fun r => Same (fun k => (49 ≤ k ∧ k ≤ 51) ∨ k = o3) M r) := by
  unfold F_Pair_tellDoubted
  refine wp_bind (T_Pair_fillDoubts M) (fun r1 hr1 => ?_)
  have mr1 : Same (fun k => (49 ≤ k ∧ k ≤ 51) ∨ k = o3) M r1 := hr1.mono (fun k hk => by first | omega | exact hk.elim | (dsimp only at hk ⊢; omega))
  unfold F_Pair_tellDoubted_l13
  refine wp_bind (Ψ := fun r => True) (wp_while (P := fun _ => True) (μ := fun z => muU z.2.2) (fun z hz => wp_mono (T_Pair_tellDoubted_b13 o3 x1 x2 r1 z) (fun x hx => ?_)) FUEL (0, 0, 0) trivial (mu_fuel _)) ?_
  · rcases x with x | x
    · exact ⟨trivial, hx⟩
    · trivial
  intro r hr
  unfold F_Pair_tellDoubted_j73
  refine wp_bind (T_Fraction_be o3 r.1 r.2 r1) (fun r2 hr2 => ?_)
  have mr2 := (mr1).trans (hr2.mono (fun k hk => by first | omega | exact hk.elim | (dsimp only at hk ⊢; omega)))
  refine wp_if (fun c1 => ?_) (fun c1 => ?_)
  · exact wp_some mr2
  · refine wp_bind (T_Chain_tellWorth 35 o3 0 x1 r2) (fun r3 hr3 => ?_)
    have mr3 := (mr2).trans (hr3.mono (fun k hk => by first | omega | exact hk.elim | (dsimp only at hk ⊢; omega)))
    refine wp_bind (T_Fraction_be o3 (((r3.2 o3 0) * (r2.2 o3 1)) - ((r2.2 o3 0) * (r3.2 o3 1))) ((r3.2 o3 1) * (r2.2 o3 1)) r3) (fun r4 hr4 => ?_)
    have mr4 := (mr3).trans (hr4.mono (fun k hk => by first | omega | exact hk.elim | (dsimp only at hk ⊢; omega)))
    exact wp_some mr4
