theorem T_Pair_placeAfter (x1 : Int32) (x2 : Int32) (x3 : Int32) (x4 : Int32) (M : Mem) : wpO (F_Pair_placeAfter x1 x2 x3 x4 M) (fun r => True) := by
  unfold F_Pair_placeAfter
  refine wp_bind (T_Well_nextOf (M.1 34 2) x1 x4 M) (fun r1 hr1 => ?_)
  refine wp_bind (T_Well_nextOf (M.1 34 3) x2 x3 M) (fun r2 hr2 => ?_)
  exact wp_some trivial
theorem T_Pair_look_b70 (x3 : Int64) (x5 : Int64) (x7 : Int32) (z : Int32 × Mem) : wpO (F_Pair_look_b70 x3 x5 x7 z) (fun r => (match r with | .inl s => Same (fun k => (37 ≤ k ∧ k ≤ 39)) z.2 s.2 ∧ muU s.1 < muU z.1 | .inr r => Same (fun k => (37 ≤ k ∧ k ≤ 39)) z.2 r)) := by
  unfold F_Pair_look_b70
  refine wp_if (fun c1 => ?_) (fun c1 => ?_)
  · exact wp_some Same.rfl'
  · refine wp_bind (T_Well_actOf (z.2.1 34 2) x7 z.2) (fun r7 hr7 => ?_)
    refine wp_bind (T_Well_actOf (z.2.1 34 3) z.1 z.2) (fun r8 hr8 => ?_)
    refine wp_bind (T_Pair_placeAfter x7 z.1 r7 r8 z.2) (fun r9 hr9 => ?_)
    refine wp_bind (T_Well_bringsTo 0 r7 r8 z.2) (fun r10 hr10 => ?_)
    refine wp_bind (T_Well_bringsTo 1 r7 r8 z.2) (fun r11 hr11 => ?_)
    refine wp_bind (T_Chain_put 35 ((3 * x7) + z.1) r9 r10 r11 z.2) (fun r12 hr12 => ?_)
    have mr12 : Same (fun k => (37 ≤ k ∧ k ≤ 39)) z.2 r12 := hr12.mono (fun k hk => by first | omega | exact hk.elim | (dsimp only at hk ⊢; omega))
    exact wp_some ⟨mr12, (muU_le c1)⟩
theorem T_Pair_look_b58 (x3 : Int64) (x5 : Int64) (z : Int32 × Mem) : wpO (F_Pair_look_b58 x3 x5 z) (fun r => (match r with | .inl s => Same (fun k => (37 ≤ k ∧ k ≤ 39)) z.2 s.2 ∧ muU s.1 < muU z.1 | .inr r => Same (fun k => (37 ≤ k ∧ k ≤ 39)) z.2 r)) := by
  unfold F_Pair_look_b58
  refine wp_if (fun c1 => ?_) (fun c1 => ?_)
  · exact wp_some Same.rfl'
  · unfold F_Pair_look_l70
    refine wp_bind (Ψ := fun r_16 => Same (fun k => (37 ≤ k ∧ k ≤ 39)) z.2 r_16) (wp_while (P := fun w9 => Same (fun k => (37 ≤ k ∧ k ≤ 39)) z.2 w9.2) (μ := fun w9 => muU w9.1) (fun w9 hz => wp_mono (T_Pair_look_b70 x3 x5 z.1 w9) (fun x hx => ?_)) FUEL ((0 : Int32), z.2) Same.rfl' (mu_fuel _)) ?_
    · rcases x with x | x
      · exact ⟨hz.trans (hx.1.mono (fun k hk => by first | omega | exact hk.elim | (dsimp only at hk ⊢; omega))), hx.2⟩
      · exact hz.trans (hx.mono (fun k hk => by first | omega | exact hk.elim | (dsimp only at hk ⊢; omega)))
    intro r_16 hr_16
    exact wp_some ⟨hr_16, (muU_le c1)⟩
theorem T_Pair_look (x1 : Int32) (x2 : Int32) (x3 : Int64) (x5 : Int64) (M : Mem) : wpO (F_Pair_look x1 x2 x3 x5 M) (fun r => Same (fun k => (34 ≤ k ∧ k ≤ 47)) M r) := by
  unfold F_Pair_look
  refine wp_bind (T_Well_moodsOf ((mSI (mSI M 34 2 x1) 34 3 x2).1 34 2) (mSI (mSI M 34 2 x1) 34 3 x2)) (fun r1 hr1 => ?_)
  refine wp_bind (T_Math_min_III r1 3 (mSI (mSI M 34 2 x1) 34 3 x2)) (fun r2 hr2 => ?_)
  refine wp_bind (T_Well_moodsOf ((mSI (mSI (mSI M 34 2 x1) 34 3 x2) 34 4 r2).1 34 3) (mSI (mSI (mSI M 34 2 x1) 34 3 x2) 34 4 r2)) (fun r3 hr3 => ?_)
  refine wp_bind (T_Math_min_III r3 3 (mSI (mSI (mSI M 34 2 x1) 34 3 x2) 34 4 r2)) (fun r4 hr4 => ?_)
  refine wp_bind (T_Chain_clear 35 (mSI (mSI (mSI (mSI M 34 2 x1) 34 3 x2) 34 4 r2) 34 5 r4)) (fun r5 hr5 => ?_)
  have mr5 : Same (fun k => (34 ≤ k ∧ k ≤ 47)) M r5 := (((((((((Same.rfl').sI (by first | omega | (dsimp only; omega)))).sI (by first | omega | (dsimp only; omega)))).sI (by first | omega | (dsimp only; omega)))).sI (by first | omega | (dsimp only; omega)))).trans (hr5.mono (fun k hk => by first | omega | exact hk.elim | (dsimp only at hk ⊢; omega)))
  unfold F_Pair_look_l58
  refine wp_bind (Ψ := fun r_17 => Same (fun k => (34 ≤ k ∧ k ≤ 47)) M r_17) (wp_while (P := fun w9 => Same (fun k => (34 ≤ k ∧ k ≤ 47)) M w9.2) (μ := fun w9 => muU w9.1) (fun w9 hz => wp_mono (T_Pair_look_b58 x3 x5 w9) (fun x hx => ?_)) FUEL ((0 : Int32), r5) mr5 (mu_fuel _)) ?_
  · rcases x with x | x
    · exact ⟨hz.trans (hx.1.mono (fun k hk => by first | omega | exact hk.elim | (dsimp only at hk ⊢; omega))), hx.2⟩
    · exact hz.trans (hx.mono (fun k hk => by first | omega | exact hk.elim | (dsimp only at hk ⊢; omega)))
  intro r_17 hr_17
  unfold F_Pair_look_j171
  refine wp_bind (T_Chain_reckon 35 x3 x5 r_17) (fun r6_18 hr6_18 => ?_)
  have mr6_18 : Same (fun k => (34 ≤ k ∧ k ≤ 47)) M r6_18 := (hr_17).trans (hr6_18.mono (fun k hk => by first | omega | exact hk.elim | (dsimp only at hk ⊢; omega)))
  exact wp_some mr6_18
theorem T_Pair_tellWorth (o4 : Nat) (x1 : Int32) (x2 : Int32) (x3 : Int32) (M : Mem) : wpO (F_Pair_tellWorth o4 x1 x2 x3 M) (fun r => Same (fun k => k = o4) M r) := by
  unfold F_Pair_tellWorth
  refine wp_bind (T_Chain_tellWorth 35 o4 ((3 * x1) + x2) x3 M) (fun r1 hr1 => ?_)
  have mr1 : Same (fun k => k = o4) M r1 := hr1.mono (fun k hk => by first | omega | exact hk.elim | (dsimp only at hk ⊢; omega))
  exact wp_some mr1
theorem T_Pair_gainsOtherwise_b3 (x1 : Int32) (x2 : Int32) (x3 : Int32) (M : Mem) (z : Int32) : wpO (F_Pair_gainsOtherwise_b3 x1 x2 x3 M z) (fun r => (match r with | .inl s => muU s < muU z | .inr r => (match r with | .inl s => True | .inr r => True))) := by
  unfold F_Pair_gainsOtherwise_b3
  refine wp_if (fun c1 => ?_) (fun c1 => ?_)
  · exact wp_some trivial
  · refine wp_if (fun c2 => ?_) (fun c2 => ?_)
    · unfold F_Pair_gainsOtherwise_j36
      refine wp_if (fun c3 => ?_) (fun c3 => ?_)
      · unfold F_Pair_gainsOtherwise_j60
        refine wp_bind (T_Pair_placeAfter x1 x2 z z M) (fun r3_34 hr3_34 => ?_)
        refine wp_bind (T_Well_bringsTo x3 z z M) (fun r4_35 hr4_35 => ?_)
        refine wp_bind (T_Chain_orderOf 35 r4_35 r3_34 x3 ((3 * x1) + x2) M) (fun r5_36 hr5_36 => ?_)
        refine wp_if (fun c4 => ?_) (fun c4 => ?_)
        · exact wp_some (muU_le c1)
        · exact wp_some trivial
      · refine wp_bind (T_Well_actOf (M.1 34 3) x2 M) (fun r2_33 hr2_33 => ?_)
        unfold F_Pair_gainsOtherwise_j60
        refine wp_bind (T_Pair_placeAfter x1 x2 z r2_33 M) (fun r3_37 hr3_37 => ?_)
        refine wp_bind (T_Well_bringsTo x3 z r2_33 M) (fun r4_38 hr4_38 => ?_)
        refine wp_bind (T_Chain_orderOf 35 r4_38 r3_37 x3 ((3 * x1) + x2) M) (fun r5_39 hr5_39 => ?_)
        refine wp_if (fun c5 => ?_) (fun c5 => ?_)
        · exact wp_some (muU_le c1)
        · exact wp_some trivial
    · refine wp_bind (T_Well_actOf (M.1 34 2) x1 M) (fun r1 hr1 => ?_)
      unfold F_Pair_gainsOtherwise_j36
      refine wp_if (fun c6 => ?_) (fun c6 => ?_)
      · unfold F_Pair_gainsOtherwise_j60
        refine wp_bind (T_Pair_placeAfter x1 x2 r1 z M) (fun r3_41 hr3_41 => ?_)
        refine wp_bind (T_Well_bringsTo x3 r1 z M) (fun r4_42 hr4_42 => ?_)
        refine wp_bind (T_Chain_orderOf 35 r4_42 r3_41 x3 ((3 * x1) + x2) M) (fun r5_43 hr5_43 => ?_)
        refine wp_if (fun c7 => ?_) (fun c7 => ?_)
        · exact wp_some (muU_le c1)
        · exact wp_some trivial
      · refine wp_bind (T_Well_actOf (M.1 34 3) x2 M) (fun r2_40 hr2_40 => ?_)
        unfold F_Pair_gainsOtherwise_j60
        refine wp_bind (T_Pair_placeAfter x1 x2 r1 r2_40 M) (fun r3_44 hr3_44 => ?_)
        refine wp_bind (T_Well_bringsTo x3 r1 r2_40 M) (fun r4_45 hr4_45 => ?_)
        refine wp_bind (T_Chain_orderOf 35 r4_45 r3_44 x3 ((3 * x1) + x2) M) (fun r5_46 hr5_46 => ?_)
        refine wp_if (fun c8 => ?_) (fun c8 => ?_)
        · exact wp_some (muU_le c1)
        · exact wp_some trivial
theorem T_Pair_gainsOtherwise (x1 : Int32) (x2 : Int32) (x3 : Int32) (M : Mem) : wpO (F_Pair_gainsOtherwise x1 x2 x3 M) (fun r => True) := by
  unfold F_Pair_gainsOtherwise
  unfold F_Pair_gainsOtherwise_l3
  refine wp_bind (Ψ := fun q_47 => (match q_47 with | .inl s => True | .inr r => True)) (wp_while (P := fun _ => True) (μ := fun w9 => muU w9) (fun w9 hz => wp_mono (T_Pair_gainsOtherwise_b3 x1 x2 x3 M w9) (fun x hx => ?_)) FUEL (0 : Int32) trivial (mu_fuel _)) ?_
  · rcases x with x | x
    · exact ⟨trivial, hx⟩
    · rcases x with x | x
      · trivial
      · trivial
  intro q_47 hq_47
  rcases q_47 with y1 | y1
  · exact wp_some trivial
  · exact wp_some trivial
theorem T_Pair_firstGain_b22 (x1 : Int32) (x2 : Int32) (M : Mem) (z : Int32) : wpO (F_Pair_firstGain_b22 x1 x2 M z) (fun r => (match r with | .inl s => muU s < muU z | .inr r => (match r with | .inl s => True | .inr r => True))) := by
  unfold F_Pair_firstGain_b22
  refine wp_if (fun c1 => ?_) (fun c1 => ?_)
  · exact wp_some trivial
  · refine wp_bind (T_Pair_gainsOtherwise x1 x2 z M) (fun r1 hr1 => ?_)
    refine wp_if (fun c2 => ?_) (fun c2 => ?_)
    · exact wp_some trivial
    · exact wp_some (muU_le c1)
theorem T_Pair_firstGain_b12 (x1 : Int32) (M : Mem) (z : Int32) : wpO (F_Pair_firstGain_b12 x1 M z) (fun r => (match r with | .inl s => muU s < muU z | .inr r => (match r with | .inl s => True | .inr r => True))) := by
  unfold F_Pair_firstGain_b12
  refine wp_if (fun c1 => ?_) (fun c1 => ?_)
  · exact wp_some trivial
  · unfold F_Pair_firstGain_l22
    refine wp_bind (Ψ := fun q_49 => (match q_49 with | .inl s => True | .inr r => True)) (wp_while (P := fun _ => True) (μ := fun w9 => muU w9) (fun w9 hz => wp_mono (T_Pair_firstGain_b22 x1 z M w9) (fun x hx => ?_)) FUEL (0 : Int32) trivial (mu_fuel _)) ?_
    · rcases x with x | x
      · exact ⟨trivial, hx⟩
      · rcases x with x | x
        · trivial
        · trivial
    intro q_49 hq_49
    rcases q_49 with y2 | y2
    · exact wp_some trivial
    · exact wp_some (muU_le c1)
theorem T_Pair_firstGain_b2 (M : Mem) (z : Int32) : wpO (F_Pair_firstGain_b2 M z) (fun r => (match r with | .inl s => muU s < muU z | .inr r => (match r with | .inl s => True | .inr r => True))) := by
  unfold F_Pair_firstGain_b2
  refine wp_if (fun c1 => ?_) (fun c1 => ?_)
  · exact wp_some trivial
  · unfold F_Pair_firstGain_l12
    refine wp_bind (Ψ := fun q_51 => (match q_51 with | .inl s => True | .inr r => True)) (wp_while (P := fun _ => True) (μ := fun w9 => muU w9) (fun w9 hz => wp_mono (T_Pair_firstGain_b12 z M w9) (fun x hx => ?_)) FUEL (0 : Int32) trivial (mu_fuel _)) ?_
    · rcases x with x | x
      · exact ⟨trivial, hx⟩
      · rcases x with x | x
        · trivial
        · trivial
    intro q_51 hq_51
    rcases q_51 with y2 | y2
    · exact wp_some trivial
    · exact wp_some (muU_le c1)
theorem T_Pair_firstGain (M : Mem) : wpO (F_Pair_firstGain M) (fun r => True) := by
  unfold F_Pair_firstGain
  unfold F_Pair_firstGain_l2
  refine wp_bind (Ψ := fun q_52 => (match q_52 with | .inl s => True | .inr r => True)) (wp_while (P := fun _ => True) (μ := fun w9 => muU w9) (fun w9 hz => wp_mono (T_Pair_firstGain_b2 M w9) (fun x hx => ?_)) FUEL (0 : Int32) trivial (mu_fuel _)) ?_
  · rcases x with x | x
    · exact ⟨trivial, hx⟩
    · rcases x with x | x
      · trivial
      · trivial
  intro q_52 hq_52
  rcases q_52 with y1 | y1
  · unfold F_Pair_firstGain_j37
    exact wp_some trivial
  · exact wp_some trivial
theorem T_Pair_leastToHold_b18 (x1 : Int32) (x2 : Int32) (x3 : Int32) (x6 : Int32) (z : Int32 × Int32 × Int32 × Mem) : wpO (F_Pair_leastToHold_b18 x1 x2 x3 x6 z) (fun r => (match r with | .inl s => Same (fun k => (34 ≤ k ∧ k ≤ 47)) z.2.2.2 s.2.2.2 ∧ muU s.2.2.1 < muU z.2.2.1 | .inr r => Same (fun k => (34 ≤ k ∧ k ≤ 47)) z.2.2.2 r.2.2)) := by
  unfold F_Pair_leastToHold_b18
  refine wp_if (fun c1 => ?_) (fun c1 => ?_)
  · exact wp_some Same.rfl'
  · refine wp_if (fun c2 => ?_) (fun c2 => ?_)
    · exact wp_some ⟨Same.rfl', (muU_le c1)⟩
    · refine wp_bind (T_Fraction_commonPart z.2.2.1.toInt64 x6.toInt64 z.2.2.2) (fun r1 hr1 => ?_)
      refine wp_if (fun c3 => ?_) (fun c3 => ?_)
      · refine wp_bind (T_Pair_look x1 x2 z.2.2.1.toInt64 x6.toInt64 z.2.2.2) (fun r2 hr2 => ?_)
        have mr2 : Same (fun k => (34 ≤ k ∧ k ≤ 47)) z.2.2.2 r2 := hr2.mono (fun k hk => by first | omega | exact hk.elim | (dsimp only at hk ⊢; omega))
        refine wp_bind (T_Pair_firstGain r2) (fun r3 hr3 => ?_)
        refine wp_if (fun c4 => ?_) (fun c4 => ?_)
        · unfold F_Pair_leastToHold_j77
          refine wp_if (fun c5 => ?_) (fun c5 => ?_)
          · unfold F_Pair_leastToHold_j91
            refine wp_if (fun c6 => ?_) (fun c6 => ?_)
            · exact wp_some ⟨mr2, (muU_le c1)⟩
            · exact wp_some ⟨mr2, (muU_le c1)⟩
          · unfold F_Pair_leastToHold_j91
            refine wp_if (fun c7 => ?_) (fun c7 => ?_)
            · exact wp_some ⟨mr2, (muU_le c1)⟩
            · exact wp_some ⟨mr2, (muU_le c1)⟩
        · unfold F_Pair_leastToHold_j77
          refine wp_if (fun c8 => ?_) (fun c8 => ?_)
          · unfold F_Pair_leastToHold_j91
            refine wp_if (fun c9 => ?_) (fun c9 => ?_)
            · exact wp_some ⟨mr2, (muU_le c1)⟩
            · exact wp_some ⟨mr2, (muU_le c1)⟩
          · unfold F_Pair_leastToHold_j91
            refine wp_if (fun c10 => ?_) (fun c10 => ?_)
            · exact wp_some ⟨mr2, (muU_le c1)⟩
            · exact wp_some ⟨mr2, (muU_le c1)⟩
      · exact wp_some ⟨Same.rfl', (muU_le c1)⟩
theorem T_Pair_leastToHold_b9 (x1 : Int32) (x2 : Int32) (x3 : Int32) (z : Int32 × Int32 × Int32 × Mem) (hp0 : x3 ≤ 12) : wpO (F_Pair_leastToHold_b9 x1 x2 x3 z) (fun r => (match r with | .inl s => Same (fun k => (34 ≤ k ∧ k ≤ 47)) z.2.2.2 s.2.2.2 ∧ muU s.2.2.1 < muU z.2.2.1 | .inr r => Same (fun k => (34 ≤ k ∧ k ≤ 47)) z.2.2.2 r.2.2)) := by
  unfold F_Pair_leastToHold_b9
  refine wp_if (fun c1 => ?_) (fun c1 => ?_)
  · exact wp_some Same.rfl'
  · unfold F_Pair_leastToHold_l18
    refine wp_bind (Ψ := fun r_54 => Same (fun k => (34 ≤ k ∧ k ≤ 47)) z.2.2.2 r_54.2.2) (wp_while (P := fun w9 => Same (fun k => (34 ≤ k ∧ k ≤ 47)) z.2.2.2 w9.2.2.2) (μ := fun w9 => muU w9.2.2.1) (fun w9 hz => wp_mono (T_Pair_leastToHold_b18 x1 x2 x3 z.2.2.1 w9) (fun x hx => ?_)) FUEL (z.1, z.2.1, (1 : Int32), z.2.2.2) Same.rfl' (mu_fuel _)) ?_
    · rcases x with x | x
      · exact ⟨hz.trans (hx.1.mono (fun k hk => by first | omega | exact hk.elim | (dsimp only at hk ⊢; omega))), hx.2⟩
      · exact hz.trans (hx.mono (fun k hk => by first | omega | exact hk.elim | (dsimp only at hk ⊢; omega)))
    intro r_54 hr_54
    exact wp_some ⟨hr_54, (muU_nl c1 (Int32.le_trans hp0 (by decide)))⟩
theorem T_Pair_leastToHold (x1 : Int32) (x2 : Int32) (x3 : Int32) (M : Mem) (hp0 : x3 ≤ 12) : wpO (F_Pair_leastToHold x1 x2 x3 M) (fun r => Same (fun k => (34 ≤ k ∧ k ≤ 47)) M r.2) := by
  unfold F_Pair_leastToHold
  unfold F_Pair_leastToHold_l9
  refine wp_bind (Ψ := fun r_55 => Same (fun k => (34 ≤ k ∧ k ≤ 47)) M r_55.2.2) (wp_while (P := fun w9 => Same (fun k => (34 ≤ k ∧ k ≤ 47)) M w9.2.2.2) (μ := fun w9 => muU w9.2.2.1) (fun w9 hz => wp_mono (T_Pair_leastToHold_b9 x1 x2 x3 w9 (by first | decide | assumption | exact n32.mp (by assumption))) (fun x hx => ?_)) FUEL ((1 : Int32), (1 : Int32), (2 : Int32), M) Same.rfl' (mu_fuel _)) ?_
  · rcases x with x | x
    · exact ⟨hz.trans (hx.1.mono (fun k hk => by first | omega | exact hk.elim | (dsimp only at hk ⊢; omega))), hx.2⟩
    · exact hz.trans (hx.mono (fun k hk => by first | omega | exact hk.elim | (dsimp only at hk ⊢; omega)))
  intro r_55 hr_55
  unfold F_Pair_leastToHold_j119
  refine wp_if (fun c1 => ?_) (fun c1 => ?_)
  · exact wp_some hr_55
  · exact wp_some hr_55
theorem T_Pair_bestTogether_b32 (x6 : Int32) (z : Int32 × Int64 × Int64 × Int32 × Mem) : wpO (F_Pair_bestTogether_b32 x6 z) (fun r => (match r with | .inl s => Same (fun k => (34 ≤ k ∧ k ≤ 47)) z.2.2.2.2 s.2.2.2.2 ∧ muU s.2.2.2.1 < muU z.2.2.2.1 | .inr r => Same (fun k => (34 ≤ k ∧ k ≤ 47)) z.2.2.2.2 r.2.2.2)) := by
  unfold F_Pair_bestTogether_b32
  refine wp_if (fun c1 => ?_) (fun c1 => ?_)
  · exact wp_some Same.rfl'
  · refine wp_if (fun c2 => ?_) (fun c2 => ?_)
    · exact wp_some Same.rfl'
    · refine wp_bind (T_Well_isBarred x6 z.2.2.2.2) (fun r1 hr1 => ?_)
      refine wp_if (fun c3 => ?_) (fun c3 => ?_)
      · exact wp_some ⟨Same.rfl', (muU_le c1)⟩
      · refine wp_bind (T_Well_isBarred z.2.2.2.1 z.2.2.2.2) (fun r2 hr2 => ?_)
        refine wp_if (fun c4 => ?_) (fun c4 => ?_)
        · exact wp_some ⟨Same.rfl', (muU_le c1)⟩
        · refine wp_bind (T_Pair_look x6 z.2.2.2.1 ((z.2.2.2.2.1 1 1).toInt64) ((z.2.2.2.2.1 1 2).toInt64) z.2.2.2.2) (fun r3 hr3 => ?_)
          have mr3 : Same (fun k => (34 ≤ k ∧ k ≤ 47)) z.2.2.2.2 r3 := hr3.mono (fun k hk => by first | omega | exact hk.elim | (dsimp only at hk ⊢; omega))
          refine wp_bind (T_Pair_firstGain r3) (fun r4 hr4 => ?_)
          refine wp_if (fun c5 => ?_) (fun c5 => ?_)
          · refine wp_bind (T_Row_at 41 18 0 r3) (fun r5 hr5 => ?_)
            refine wp_bind (T_Row_at 41 18 1 r3) (fun r6 hr6 => ?_)
            refine wp_bind (T_Row_at 43 9 0 r3) (fun r7 hr7 => ?_)
            refine wp_if (fun c6 => ?_) (fun c6 => ?_)
            · unfold F_Pair_bestTogether_j169
              exact wp_some ⟨mr3, (muU_le c1)⟩
            · refine wp_bind (T_Fraction_order (r5 + r6) r7 z.2.1 z.2.2.1 r3) (fun r8 hr8 => ?_)
              refine wp_if (fun c7 => ?_) (fun c7 => ?_)
              · exact wp_some ⟨mr3, (muU_le c1)⟩
              · unfold F_Pair_bestTogether_j169
                exact wp_some ⟨mr3, (muU_le c1)⟩
          · exact wp_some ⟨mr3, (muU_le c1)⟩
theorem T_Pair_bestTogether_b10 (z : Int32 × Int64 × Int64 × Int32 × Mem) : wpO (F_Pair_bestTogether_b10 z) (fun r => (match r with | .inl s => Same (fun k => (34 ≤ k ∧ k ≤ 47)) z.2.2.2.2 s.2.2.2.2 ∧ muU s.2.2.2.1 < muU z.2.2.2.1 | .inr r => Same (fun k => (34 ≤ k ∧ k ≤ 47)) z.2.2.2.2 r.2)) := by
  unfold F_Pair_bestTogether_b10
  refine wp_if (fun c1 => ?_) (fun c1 => ?_)
  · exact wp_some Same.rfl'
  · refine wp_if (fun c2 => ?_) (fun c2 => ?_)
    · exact wp_some Same.rfl'
    · unfold F_Pair_bestTogether_l32
      refine wp_bind (Ψ := fun r_57 => Same (fun k => (34 ≤ k ∧ k ≤ 47)) z.2.2.2.2 r_57.2.2.2) (wp_while (P := fun w9 => Same (fun k => (34 ≤ k ∧ k ≤ 47)) z.2.2.2.2 w9.2.2.2.2) (μ := fun w9 => muU w9.2.2.2.1) (fun w9 hz => wp_mono (T_Pair_bestTogether_b32 z.2.2.2.1 w9) (fun x hx => ?_)) FUEL (z.1, z.2.1, z.2.2.1, (0 : Int32), z.2.2.2.2) Same.rfl' (mu_fuel _)) ?_
      · rcases x with x | x
        · exact ⟨hz.trans (hx.1.mono (fun k hk => by first | omega | exact hk.elim | (dsimp only at hk ⊢; omega))), hx.2⟩
        · exact hz.trans (hx.mono (fun k hk => by first | omega | exact hk.elim | (dsimp only at hk ⊢; omega)))
      intro r_57 hr_57
      exact wp_some ⟨hr_57, (muU_le c1)⟩
theorem T_Pair_bestTogether (M : Mem) : wpO (F_Pair_bestTogether M) (fun r => Same (fun k => (34 ≤ k ∧ k ≤ 47)) M r.2) := by
  unfold F_Pair_bestTogether
  unfold F_Pair_bestTogether_l10
  refine wp_bind (Ψ := fun r_58 => Same (fun k => (34 ≤ k ∧ k ≤ 47)) M r_58.2) (wp_while (P := fun w9 => Same (fun k => (34 ≤ k ∧ k ≤ 47)) M w9.2.2.2.2) (μ := fun w9 => muU w9.2.2.2.1) (fun w9 hz => wp_mono (T_Pair_bestTogether_b10  w9) (fun x hx => ?_)) FUEL ((-1 : Int32), (0 : Int64), (1 : Int64), (0 : Int32), M) Same.rfl' (mu_fuel _)) ?_
  · rcases x with x | x
    · exact ⟨hz.trans (hx.1.mono (fun k hk => by first | omega | exact hk.elim | (dsimp only at hk ⊢; omega))), hx.2⟩
    · exact hz.trans (hx.mono (fun k hk => by first | omega | exact hk.elim | (dsimp only at hk ⊢; omega)))
  intro r_58 hr_58
  exact wp_some hr_58
theorem T_Pair_lossTo (x1 : Int32) (x2 : Int32) (M : Mem) : wpO (F_Pair_lossTo x1 x2 M) (fun r => True) := by
  unfold F_Pair_lossTo
  refine wp_bind (T_Row_at 43 9 0 M) (fun r1 hr1 => ?_)
  refine wp_bind (T_Row_at 43 9 x1 M) (fun r2 hr2 => ?_)
  refine wp_if (fun c1 => ?_) (fun c1 => ?_)
  · exact wp_some trivial
  · refine wp_if (fun c2 => ?_) (fun c2 => ?_)
    · refine wp_bind (T_Row_at 41 18 x2 M) (fun r3 hr3 => ?_)
      refine wp_bind (T_Row_at 41 18 ((2 * x1) + x2) M) (fun r4 hr4 => ?_)
      refine wp_t (by intro q; rw [q] at c2; exact absurd c2 (by decide)) ?_
      refine wp_bind (T_Math_floorDiv (-(r3 - (r4 * (r1 / r2)))) r1 M (by intro q; rw [q] at c1; exact c1 (by decide))) (fun r5 hr5 => ?_)
      exact wp_some trivial
    · exact wp_some trivial
theorem T_Math_max_JJJ (x0 : Int64) (x2 : Int64) (M : Mem) : wpO (F_Math_max_JJJ x0 x2 M) (fun r => True) := by
  unfold F_Math_max_JJJ
  refine wp_if (fun c1 => ?_) (fun c1 => ?_)
  · exact wp_some trivial
  · exact wp_some trivial
theorem T_Pair_costToLeave_b7 (M : Mem) (z : Int64 × Int32 × Int32) : wpO (F_Pair_costToLeave_b7 M z) (fun r => (match r with | .inl s => muU s.2.2 < muU z.2.2 | .inr r => True)) := by
  unfold F_Pair_costToLeave_b7
  refine wp_if (fun c1 => ?_) (fun c1 => ?_)
  · exact wp_some trivial
  · refine wp_bind (T_Pair_lossTo z.2.1 0 M) (fun r1 hr1 => ?_)
    refine wp_bind (T_Pair_lossTo z.2.1 1 M) (fun r2 hr2 => ?_)
    refine wp_bind (T_Math_max_JJJ r1 r2 M) (fun r3 hr3 => ?_)
    refine wp_bind (T_Math_max_JJJ z.1 r3 M) (fun r4 hr4 => ?_)
    refine wp_bind (T_Row_small 37 9 z.2.1 M) (fun r5 hr5 => ?_)
    exact wp_some (muU_le c1)
theorem T_Pair_costToLeave (M : Mem) : wpO (F_Pair_costToLeave M) (fun r => True) := by
  unfold F_Pair_costToLeave
  unfold F_Pair_costToLeave_l7
  refine wp_bind (Ψ := fun r_59 => True) (wp_while (P := fun _ => True) (μ := fun w9 => muU w9.2.2) (fun w9 hz => wp_mono (T_Pair_costToLeave_b7 M w9) (fun x hx => ?_)) FUEL ((0 : Int64), (0 : Int32), (0 : Int32)) trivial (mu_fuel _)) ?_
  · rcases x with x | x
    · exact ⟨trivial, hx⟩
    · trivial
  intro r_59 hr_59
  exact wp_some trivial
theorem T_Pair_chanceOf (x1 : Int32) (M : Mem) : wpO (F_Pair_chanceOf x1 M) (fun r => True) := by
  unfold F_Pair_chanceOf
  refine wp_if (fun c1 => ?_) (fun c1 => ?_)
  · exact wp_some trivial
  · exact wp_some trivial
theorem T_Pair_fillDoubt_b134 (x1 : Int32) (x2 : Int32) (x3 : Int32) (x4 : Int32) (x5 : Int32) (x8 : Int32) (z : Int32 × Mem) : wpO (F_Pair_fillDoubt_b134 x1 x2 x3 x4 x5 x8 z) (fun r => (match r with | .inl s => Same (fun k => k = 49) z.2 s.2 ∧ muU s.1 < muU z.1 | .inr r => Same (fun k => k = 49) z.2 r)) := by
  unfold F_Pair_fillDoubt_b134
  refine wp_if (fun c1 => ?_) (fun c1 => ?_)
  · exact wp_some Same.rfl'
  · refine wp_if (fun c2 => ?_) (fun c2 => ?_)
    · unfold F_Pair_fillDoubt_j153
      refine wp_bind (T_Pair_chanceOf ((b2i true)) z.2) (fun r8_78 hr8_78 => ?_)
      refine wp_if (fun c3 => ?_) (fun c3 => ?_)
      · unfold F_Pair_fillDoubt_j169
        refine wp_bind (T_Pair_chanceOf ((b2i true)) z.2) (fun r9_79 hr9_79 => ?_)
        refine wp_bind (T_Well_nextOf (z.2.1 34 2) x2 z.1 z.2) (fun r10_80 hr10_80 => ?_)
        refine wp_bind (T_Well_nextOf (z.2.1 34 3) x3 x8 z.2) (fun r11_81 hr11_81 => ?_)
        refine wp_bind (T_Row_add 49 16 ((4 * x1) + ((2 * r10_80) + r11_81)) (((-(z.2.1 1 1)).toInt64) * (r8_78 * r9_79)) z.2) (fun r12_82 hr12_82 => ?_)
        have mr12_82 : Same (fun k => k = 49) z.2 r12_82 := hr12_82.mono (fun k hk => by first | omega | exact hk.elim | (dsimp only at hk ⊢; omega))
        exact wp_some ⟨mr12_82, (muU_le c1)⟩
      · unfold F_Pair_fillDoubt_j169
        refine wp_bind (T_Pair_chanceOf ((b2i false)) z.2) (fun r9_83 hr9_83 => ?_)
        refine wp_bind (T_Well_nextOf (z.2.1 34 2) x2 z.1 z.2) (fun r10_84 hr10_84 => ?_)
        refine wp_bind (T_Well_nextOf (z.2.1 34 3) x3 x8 z.2) (fun r11_85 hr11_85 => ?_)
        refine wp_bind (T_Row_add 49 16 ((4 * x1) + ((2 * r10_84) + r11_85)) (((-(z.2.1 1 1)).toInt64) * (r8_78 * r9_83)) z.2) (fun r12_86 hr12_86 => ?_)
        have mr12_86 : Same (fun k => k = 49) z.2 r12_86 := hr12_86.mono (fun k hk => by first | omega | exact hk.elim | (dsimp only at hk ⊢; omega))
        exact wp_some ⟨mr12_86, (muU_le c1)⟩
    · unfold F_Pair_fillDoubt_j153
      refine wp_bind (T_Pair_chanceOf ((b2i false)) z.2) (fun r8_87 hr8_87 => ?_)
      refine wp_if (fun c4 => ?_) (fun c4 => ?_)
      · unfold F_Pair_fillDoubt_j169
        refine wp_bind (T_Pair_chanceOf ((b2i true)) z.2) (fun r9_88 hr9_88 => ?_)
        refine wp_bind (T_Well_nextOf (z.2.1 34 2) x2 z.1 z.2) (fun r10_89 hr10_89 => ?_)
        refine wp_bind (T_Well_nextOf (z.2.1 34 3) x3 x8 z.2) (fun r11_90 hr11_90 => ?_)
        refine wp_bind (T_Row_add 49 16 ((4 * x1) + ((2 * r10_89) + r11_90)) (((-(z.2.1 1 1)).toInt64) * (r8_87 * r9_88)) z.2) (fun r12_91 hr12_91 => ?_)
        have mr12_91 : Same (fun k => k = 49) z.2 r12_91 := hr12_91.mono (fun k hk => by first | omega | exact hk.elim | (dsimp only at hk ⊢; omega))
        exact wp_some ⟨mr12_91, (muU_le c1)⟩
      · unfold F_Pair_fillDoubt_j169
        refine wp_bind (T_Pair_chanceOf ((b2i false)) z.2) (fun r9_92 hr9_92 => ?_)
        refine wp_bind (T_Well_nextOf (z.2.1 34 2) x2 z.1 z.2) (fun r10_93 hr10_93 => ?_)
        refine wp_bind (T_Well_nextOf (z.2.1 34 3) x3 x8 z.2) (fun r11_94 hr11_94 => ?_)
        refine wp_bind (T_Row_add 49 16 ((4 * x1) + ((2 * r10_93) + r11_94)) (((-(z.2.1 1 1)).toInt64) * (r8_87 * r9_92)) z.2) (fun r12_95 hr12_95 => ?_)
        have mr12_95 : Same (fun k => k = 49) z.2 r12_95 := hr12_95.mono (fun k hk => by first | omega | exact hk.elim | (dsimp only at hk ⊢; omega))
        exact wp_some ⟨mr12_95, (muU_le c1)⟩
theorem T_Pair_fillDoubt_b125 (x1 : Int32) (x2 : Int32) (x3 : Int32) (x4 : Int32) (x5 : Int32) (z : Int32 × Mem) : wpO (F_Pair_fillDoubt_b125 x1 x2 x3 x4 x5 z) (fun r => (match r with | .inl s => Same (fun k => k = 49) z.2 s.2 ∧ muU s.1 < muU z.1 | .inr r => Same (fun k => k = 49) z.2 r)) := by
  unfold F_Pair_fillDoubt_b125
  refine wp_if (fun c1 => ?_) (fun c1 => ?_)
  · exact wp_some Same.rfl'
  · unfold F_Pair_fillDoubt_l134
    refine wp_bind (Ψ := fun r_97 => Same (fun k => k = 49) z.2 r_97) (wp_while (P := fun w9 => Same (fun k => k = 49) z.2 w9.2) (μ := fun w9 => muU w9.1) (fun w9 hz => wp_mono (T_Pair_fillDoubt_b134 x1 x2 x3 x4 x5 z.1 w9) (fun x hx => ?_)) FUEL ((0 : Int32), z.2) Same.rfl' (mu_fuel _)) ?_
    · rcases x with x | x
      · exact ⟨hz.trans (hx.1.mono (fun k hk => by first | omega | exact hk.elim | (dsimp only at hk ⊢; omega))), hx.2⟩
      · exact hz.trans (hx.mono (fun k hk => by first | omega | exact hk.elim | (dsimp only at hk ⊢; omega)))
    intro r_97 hr_97
    exact wp_some ⟨hr_97, (muU_le c1)⟩
theorem T_Pair_fillDoubt (x1 : Int32) (x2 : Int32) (x3 : Int32) (M : Mem) : wpO (F_Pair_fillDoubt x1 x2 x3 M) (fun r => Same (fun k => (49 ≤ k ∧ k ≤ 51)) M r) := by
  unfold F_Pair_fillDoubt
  refine wp_bind (T_Well_actOf (M.1 34 2) x2 M) (fun r1 hr1 => ?_)
  refine wp_bind (T_Well_actOf (M.1 34 3) x3 M) (fun r2 hr2 => ?_)
  refine wp_bind (T_Row_add 49 16 (5 * x1) ((((M.1 1 2).toInt64) * ((M.1 1 4).toInt64)) * ((M.1 1 4).toInt64)) M) (fun r3 hr3 => ?_)
  have mr3 : Same (fun k => (49 ≤ k ∧ k ≤ 51)) M r3 := hr3.mono (fun k hk => by first | omega | exact hk.elim | (dsimp only at hk ⊢; omega))
  refine wp_bind (T_Well_bringsTo 0 r1 r2 r3) (fun r4 hr4 => ?_)
  refine wp_bind (T_Row_put 51 8 (2 * x1) (((((M.1 1 2).toInt64) * ((M.1 1 4).toInt64)) * ((M.1 1 4).toInt64)) * r4.toInt64) r3) (fun r5 hr5 => ?_)
  have mr5 : Same (fun k => (49 ≤ k ∧ k ≤ 51)) M r5 := (mr3).trans (hr5.mono (fun k hk => by first | omega | exact hk.elim | (dsimp only at hk ⊢; omega)))
  refine wp_bind (T_Well_bringsTo 1 r1 r2 r5) (fun r6 hr6 => ?_)
  refine wp_bind (T_Row_put 51 8 ((2 * x1) + 1) (((((M.1 1 2).toInt64) * ((M.1 1 4).toInt64)) * ((M.1 1 4).toInt64)) * r6.toInt64) r5) (fun r7 hr7 => ?_)
  have mr7 : Same (fun k => (49 ≤ k ∧ k ≤ 51)) M r7 := (mr5).trans (hr7.mono (fun k hk => by first | omega | exact hk.elim | (dsimp only at hk ⊢; omega)))
  unfold F_Pair_fillDoubt_l125
  refine wp_bind (Ψ := fun r_98 => Same (fun k => (49 ≤ k ∧ k ≤ 51)) M r_98) (wp_while (P := fun w9 => Same (fun k => (49 ≤ k ∧ k ≤ 51)) M w9.2) (μ := fun w9 => muU w9.1) (fun w9 hz => wp_mono (T_Pair_fillDoubt_b125 x1 x2 x3 r1 r2 w9) (fun x hx => ?_)) FUEL ((0 : Int32), r7) mr7 (mu_fuel _)) ?_
  · rcases x with x | x
    · exact ⟨hz.trans (hx.1.mono (fun k hk => by first | omega | exact hk.elim | (dsimp only at hk ⊢; omega))), hx.2⟩
    · exact hz.trans (hx.mono (fun k hk => by first | omega | exact hk.elim | (dsimp only at hk ⊢; omega)))
  intro r_98 hr_98
  exact wp_some hr_98
theorem T_Pair_fillDoubts_b18 (z : Int32 × Mem) : wpO (F_Pair_fillDoubts_b18 z) (fun r => (match r with | .inl s => Same (fun k => (49 ≤ k ∧ k ≤ 51)) z.2 s.2 ∧ muU s.1 < muU z.1 | .inr r => Same (fun k => (49 ≤ k ∧ k ≤ 51)) z.2 r)) := by
  unfold F_Pair_fillDoubts_b18
  refine wp_if (fun c1 => ?_) (fun c1 => ?_)
  · exact wp_some Same.rfl'
  · refine wp_if (fun c2 => ?_) (fun c2 => ?_)
    · unfold F_Pair_fillDoubts_j57
      refine wp_bind (T_Row_put 49 16 (5 * z.1) 1 z.2) (fun r3_101 hr3_101 => ?_)
      have mr3_101 : Same (fun k => (49 ≤ k ∧ k ≤ 51)) z.2 r3_101 := hr3_101.mono (fun k hk => by first | omega | exact hk.elim | (dsimp only at hk ⊢; omega))
      exact wp_some ⟨mr3_101, (muU_le c1)⟩
    · refine wp_if (fun c3 => ?_) (fun c3 => ?_)
      · unfold F_Pair_fillDoubts_j57
        refine wp_bind (T_Row_put 49 16 (5 * z.1) 1 z.2) (fun r3_102 hr3_102 => ?_)
        have mr3_102 : Same (fun k => (49 ≤ k ∧ k ≤ 51)) z.2 r3_102 := hr3_102.mono (fun k hk => by first | omega | exact hk.elim | (dsimp only at hk ⊢; omega))
        exact wp_some ⟨mr3_102, (muU_le c1)⟩
      · refine wp_bind (T_Pair_fillDoubt z.1 (z.1 / 2) (irm z.1 2) z.2) (fun r4 hr4 => ?_)
        have mr4 : Same (fun k => (49 ≤ k ∧ k ≤ 51)) z.2 r4 := hr4.mono (fun k hk => by first | omega | exact hk.elim | (dsimp only at hk ⊢; omega))
        exact wp_some ⟨mr4, (muU_le c1)⟩
theorem T_Pair_fillDoubts (M : Mem) : wpO (F_Pair_fillDoubts M) (fun r => Same (fun k => (49 ≤ k ∧ k ≤ 51)) M r) := by
  unfold F_Pair_fillDoubts
  refine wp_bind (T_Row_setAll 49 16 0 M) (fun r1 hr1 => ?_)
  have mr1 : Same (fun k => (49 ≤ k ∧ k ≤ 51)) M r1 := hr1.mono (fun k hk => by first | omega | exact hk.elim | (dsimp only at hk ⊢; omega))
  refine wp_bind (T_Row_setAll 51 8 0 r1) (fun r2 hr2 => ?_)
  have mr2 : Same (fun k => (49 ≤ k ∧ k ≤ 51)) M r2 := (mr1).trans (hr2.mono (fun k hk => by first | omega | exact hk.elim | (dsimp only at hk ⊢; omega)))
  unfold F_Pair_fillDoubts_l18
  refine wp_bind (Ψ := fun r_103 => Same (fun k => (49 ≤ k ∧ k ≤ 51)) M r_103) (wp_while (P := fun w9 => Same (fun k => (49 ≤ k ∧ k ≤ 51)) M w9.2) (μ := fun w9 => muU w9.1) (fun w9 hz => wp_mono (T_Pair_fillDoubts_b18  w9) (fun x hx => ?_)) FUEL ((0 : Int32), r2) mr2 (mu_fuel _)) ?_
  · rcases x with x | x
    · exact ⟨hz.trans (hx.1.mono (fun k hk => by first | omega | exact hk.elim | (dsimp only at hk ⊢; omega))), hx.2⟩
    · exact hz.trans (hx.mono (fun k hk => by first | omega | exact hk.elim | (dsimp only at hk ⊢; omega)))
  intro r_103 hr_103
  exact wp_some hr_103
theorem T_Pair_cofactorOf (x1 : Int32) (M : Mem) : wpO (F_Pair_cofactorOf x1 M) (fun r => True) := by
  unfold F_Pair_cofactorOf
  refine wp_if (fun c1 => ?_) (fun c1 => ?_)
  · unfold F_Pair_cofactorOf_j10
    refine wp_if (fun c2 => ?_) (fun c2 => ?_)
    · unfold F_Pair_cofactorOf_j23
      refine wp_if (fun c3 => ?_) (fun c3 => ?_)
      · unfold F_Pair_cofactorOf_j36
        refine wp_bind (T_Row_at 49 16 (((4 : Int32) * ((b2i true))) + 1) M) (fun r1_104 hr1_104 => ?_)
        refine wp_bind (T_Row_at 49 16 (((4 : Int32) * (1 : Int32)) + 2) M) (fun r2_105 hr2_105 => ?_)
        refine wp_bind (T_Row_at 49 16 (((4 : Int32) * (2 : Int32)) + 3) M) (fun r3_106 hr3_106 => ?_)
        refine wp_bind (T_Row_at 49 16 (((4 : Int32) * (1 : Int32)) + 3) M) (fun r4_107 hr4_107 => ?_)
        refine wp_bind (T_Row_at 49 16 (((4 : Int32) * (2 : Int32)) + 2) M) (fun r5_108 hr5_108 => ?_)
        refine wp_bind (T_Row_at 49 16 (((4 : Int32) * ((b2i true))) + 2) M) (fun r6_109 hr6_109 => ?_)
        refine wp_bind (T_Row_at 49 16 (((4 : Int32) * (1 : Int32)) + 1) M) (fun r7_110 hr7_110 => ?_)
        refine wp_bind (T_Row_at 49 16 (((4 : Int32) * (2 : Int32)) + 3) M) (fun r8_111 hr8_111 => ?_)
        refine wp_bind (T_Row_at 49 16 (((4 : Int32) * (1 : Int32)) + 3) M) (fun r9_112 hr9_112 => ?_)
        refine wp_bind (T_Row_at 49 16 (((4 : Int32) * (2 : Int32)) + 1) M) (fun r10_113 hr10_113 => ?_)
        refine wp_bind (T_Row_at 49 16 (((4 : Int32) * ((b2i true))) + 3) M) (fun r11_114 hr11_114 => ?_)
        refine wp_bind (T_Row_at 49 16 (((4 : Int32) * (1 : Int32)) + 1) M) (fun r12_115 hr12_115 => ?_)
        refine wp_bind (T_Row_at 49 16 (((4 : Int32) * (2 : Int32)) + 2) M) (fun r13_116 hr13_116 => ?_)
        refine wp_bind (T_Row_at 49 16 (((4 : Int32) * (1 : Int32)) + 2) M) (fun r14_117 hr14_117 => ?_)
        refine wp_bind (T_Row_at 49 16 (((4 : Int32) * (2 : Int32)) + 1) M) (fun r15_118 hr15_118 => ?_)
        refine wp_if (fun c4 => ?_) (fun c4 => ?_)
        · exact wp_some trivial
        · exact wp_some trivial
      · unfold F_Pair_cofactorOf_j36
        refine wp_bind (T_Row_at 49 16 (((4 : Int32) * ((b2i true))) + 1) M) (fun r1_119 hr1_119 => ?_)
        refine wp_bind (T_Row_at 49 16 (((4 : Int32) * (1 : Int32)) + 2) M) (fun r2_120 hr2_120 => ?_)
        refine wp_bind (T_Row_at 49 16 (((4 : Int32) * (3 : Int32)) + 3) M) (fun r3_121 hr3_121 => ?_)
        refine wp_bind (T_Row_at 49 16 (((4 : Int32) * (1 : Int32)) + 3) M) (fun r4_122 hr4_122 => ?_)
        refine wp_bind (T_Row_at 49 16 (((4 : Int32) * (3 : Int32)) + 2) M) (fun r5_123 hr5_123 => ?_)
        refine wp_bind (T_Row_at 49 16 (((4 : Int32) * ((b2i true))) + 2) M) (fun r6_124 hr6_124 => ?_)
        refine wp_bind (T_Row_at 49 16 (((4 : Int32) * (1 : Int32)) + 1) M) (fun r7_125 hr7_125 => ?_)
        refine wp_bind (T_Row_at 49 16 (((4 : Int32) * (3 : Int32)) + 3) M) (fun r8_126 hr8_126 => ?_)
        refine wp_bind (T_Row_at 49 16 (((4 : Int32) * (1 : Int32)) + 3) M) (fun r9_127 hr9_127 => ?_)
        refine wp_bind (T_Row_at 49 16 (((4 : Int32) * (3 : Int32)) + 1) M) (fun r10_128 hr10_128 => ?_)
        refine wp_bind (T_Row_at 49 16 (((4 : Int32) * ((b2i true))) + 3) M) (fun r11_129 hr11_129 => ?_)
        refine wp_bind (T_Row_at 49 16 (((4 : Int32) * (1 : Int32)) + 1) M) (fun r12_130 hr12_130 => ?_)
        refine wp_bind (T_Row_at 49 16 (((4 : Int32) * (3 : Int32)) + 2) M) (fun r13_131 hr13_131 => ?_)
        refine wp_bind (T_Row_at 49 16 (((4 : Int32) * (1 : Int32)) + 2) M) (fun r14_132 hr14_132 => ?_)
        refine wp_bind (T_Row_at 49 16 (((4 : Int32) * (3 : Int32)) + 1) M) (fun r15_133 hr15_133 => ?_)
        refine wp_if (fun c5 => ?_) (fun c5 => ?_)
        · exact wp_some trivial
        · exact wp_some trivial
    · unfold F_Pair_cofactorOf_j23
      refine wp_if (fun c6 => ?_) (fun c6 => ?_)
      · unfold F_Pair_cofactorOf_j36
        refine wp_bind (T_Row_at 49 16 (((4 : Int32) * ((b2i true))) + 1) M) (fun r1_134 hr1_134 => ?_)
        refine wp_bind (T_Row_at 49 16 (((4 : Int32) * (2 : Int32)) + 2) M) (fun r2_135 hr2_135 => ?_)
        refine wp_bind (T_Row_at 49 16 (((4 : Int32) * (2 : Int32)) + 3) M) (fun r3_136 hr3_136 => ?_)
        refine wp_bind (T_Row_at 49 16 (((4 : Int32) * (2 : Int32)) + 3) M) (fun r4_137 hr4_137 => ?_)
        refine wp_bind (T_Row_at 49 16 (((4 : Int32) * (2 : Int32)) + 2) M) (fun r5_138 hr5_138 => ?_)
        refine wp_bind (T_Row_at 49 16 (((4 : Int32) * ((b2i true))) + 2) M) (fun r6_139 hr6_139 => ?_)
        refine wp_bind (T_Row_at 49 16 (((4 : Int32) * (2 : Int32)) + 1) M) (fun r7_140 hr7_140 => ?_)
        refine wp_bind (T_Row_at 49 16 (((4 : Int32) * (2 : Int32)) + 3) M) (fun r8_141 hr8_141 => ?_)
        refine wp_bind (T_Row_at 49 16 (((4 : Int32) * (2 : Int32)) + 3) M) (fun r9_142 hr9_142 => ?_)
        refine wp_bind (T_Row_at 49 16 (((4 : Int32) * (2 : Int32)) + 1) M) (fun r10_143 hr10_143 => ?_)
        refine wp_bind (T_Row_at 49 16 (((4 : Int32) * ((b2i true))) + 3) M) (fun r11_144 hr11_144 => ?_)
        refine wp_bind (T_Row_at 49 16 (((4 : Int32) * (2 : Int32)) + 1) M) (fun r12_145 hr12_145 => ?_)
        refine wp_bind (T_Row_at 49 16 (((4 : Int32) * (2 : Int32)) + 2) M) (fun r13_146 hr13_146 => ?_)
        refine wp_bind (T_Row_at 49 16 (((4 : Int32) * (2 : Int32)) + 2) M) (fun r14_147 hr14_147 => ?_)
        refine wp_bind (T_Row_at 49 16 (((4 : Int32) * (2 : Int32)) + 1) M) (fun r15_148 hr15_148 => ?_)
        refine wp_if (fun c7 => ?_) (fun c7 => ?_)
        · exact wp_some trivial
        · exact wp_some trivial
      · unfold F_Pair_cofactorOf_j36
        refine wp_bind (T_Row_at 49 16 (((4 : Int32) * ((b2i true))) + 1) M) (fun r1_149 hr1_149 => ?_)
        refine wp_bind (T_Row_at 49 16 (((4 : Int32) * (2 : Int32)) + 2) M) (fun r2_150 hr2_150 => ?_)
        refine wp_bind (T_Row_at 49 16 (((4 : Int32) * (3 : Int32)) + 3) M) (fun r3_151 hr3_151 => ?_)
        refine wp_bind (T_Row_at 49 16 (((4 : Int32) * (2 : Int32)) + 3) M) (fun r4_152 hr4_152 => ?_)
        refine wp_bind (T_Row_at 49 16 (((4 : Int32) * (3 : Int32)) + 2) M) (fun r5_153 hr5_153 => ?_)
        refine wp_bind (T_Row_at 49 16 (((4 : Int32) * ((b2i true))) + 2) M) (fun r6_154 hr6_154 => ?_)
        refine wp_bind (T_Row_at 49 16 (((4 : Int32) * (2 : Int32)) + 1) M) (fun r7_155 hr7_155 => ?_)
        refine wp_bind (T_Row_at 49 16 (((4 : Int32) * (3 : Int32)) + 3) M) (fun r8_156 hr8_156 => ?_)
        refine wp_bind (T_Row_at 49 16 (((4 : Int32) * (2 : Int32)) + 3) M) (fun r9_157 hr9_157 => ?_)
        refine wp_bind (T_Row_at 49 16 (((4 : Int32) * (3 : Int32)) + 1) M) (fun r10_158 hr10_158 => ?_)
        refine wp_bind (T_Row_at 49 16 (((4 : Int32) * ((b2i true))) + 3) M) (fun r11_159 hr11_159 => ?_)
        refine wp_bind (T_Row_at 49 16 (((4 : Int32) * (2 : Int32)) + 1) M) (fun r12_160 hr12_160 => ?_)
        refine wp_bind (T_Row_at 49 16 (((4 : Int32) * (3 : Int32)) + 2) M) (fun r13_161 hr13_161 => ?_)
        refine wp_bind (T_Row_at 49 16 (((4 : Int32) * (2 : Int32)) + 2) M) (fun r14_162 hr14_162 => ?_)
        refine wp_bind (T_Row_at 49 16 (((4 : Int32) * (3 : Int32)) + 1) M) (fun r15_163 hr15_163 => ?_)
        refine wp_if (fun c8 => ?_) (fun c8 => ?_)
        · exact wp_some trivial
        · exact wp_some trivial
  · unfold F_Pair_cofactorOf_j10
    refine wp_if (fun c9 => ?_) (fun c9 => ?_)
    · unfold F_Pair_cofactorOf_j23
      refine wp_if (fun c10 => ?_) (fun c10 => ?_)
      · unfold F_Pair_cofactorOf_j36
        refine wp_bind (T_Row_at 49 16 (((4 : Int32) * ((b2i false))) + 1) M) (fun r1_164 hr1_164 => ?_)
        refine wp_bind (T_Row_at 49 16 (((4 : Int32) * (1 : Int32)) + 2) M) (fun r2_165 hr2_165 => ?_)
        refine wp_bind (T_Row_at 49 16 (((4 : Int32) * (2 : Int32)) + 3) M) (fun r3_166 hr3_166 => ?_)
        refine wp_bind (T_Row_at 49 16 (((4 : Int32) * (1 : Int32)) + 3) M) (fun r4_167 hr4_167 => ?_)
        refine wp_bind (T_Row_at 49 16 (((4 : Int32) * (2 : Int32)) + 2) M) (fun r5_168 hr5_168 => ?_)
        refine wp_bind (T_Row_at 49 16 (((4 : Int32) * ((b2i false))) + 2) M) (fun r6_169 hr6_169 => ?_)
        refine wp_bind (T_Row_at 49 16 (((4 : Int32) * (1 : Int32)) + 1) M) (fun r7_170 hr7_170 => ?_)
        refine wp_bind (T_Row_at 49 16 (((4 : Int32) * (2 : Int32)) + 3) M) (fun r8_171 hr8_171 => ?_)
        refine wp_bind (T_Row_at 49 16 (((4 : Int32) * (1 : Int32)) + 3) M) (fun r9_172 hr9_172 => ?_)
        refine wp_bind (T_Row_at 49 16 (((4 : Int32) * (2 : Int32)) + 1) M) (fun r10_173 hr10_173 => ?_)
        refine wp_bind (T_Row_at 49 16 (((4 : Int32) * ((b2i false))) + 3) M) (fun r11_174 hr11_174 => ?_)
        refine wp_bind (T_Row_at 49 16 (((4 : Int32) * (1 : Int32)) + 1) M) (fun r12_175 hr12_175 => ?_)
        refine wp_bind (T_Row_at 49 16 (((4 : Int32) * (2 : Int32)) + 2) M) (fun r13_176 hr13_176 => ?_)
        refine wp_bind (T_Row_at 49 16 (((4 : Int32) * (1 : Int32)) + 2) M) (fun r14_177 hr14_177 => ?_)
        refine wp_bind (T_Row_at 49 16 (((4 : Int32) * (2 : Int32)) + 1) M) (fun r15_178 hr15_178 => ?_)
        refine wp_if (fun c11 => ?_) (fun c11 => ?_)
        · exact wp_some trivial
        · exact wp_some trivial
      · unfold F_Pair_cofactorOf_j36
        refine wp_bind (T_Row_at 49 16 (((4 : Int32) * ((b2i false))) + 1) M) (fun r1_179 hr1_179 => ?_)
        refine wp_bind (T_Row_at 49 16 (((4 : Int32) * (1 : Int32)) + 2) M) (fun r2_180 hr2_180 => ?_)
        refine wp_bind (T_Row_at 49 16 (((4 : Int32) * (3 : Int32)) + 3) M) (fun r3_181 hr3_181 => ?_)
        refine wp_bind (T_Row_at 49 16 (((4 : Int32) * (1 : Int32)) + 3) M) (fun r4_182 hr4_182 => ?_)
        refine wp_bind (T_Row_at 49 16 (((4 : Int32) * (3 : Int32)) + 2) M) (fun r5_183 hr5_183 => ?_)
        refine wp_bind (T_Row_at 49 16 (((4 : Int32) * ((b2i false))) + 2) M) (fun r6_184 hr6_184 => ?_)
        refine wp_bind (T_Row_at 49 16 (((4 : Int32) * (1 : Int32)) + 1) M) (fun r7_185 hr7_185 => ?_)
        refine wp_bind (T_Row_at 49 16 (((4 : Int32) * (3 : Int32)) + 3) M) (fun r8_186 hr8_186 => ?_)
        refine wp_bind (T_Row_at 49 16 (((4 : Int32) * (1 : Int32)) + 3) M) (fun r9_187 hr9_187 => ?_)
        refine wp_bind (T_Row_at 49 16 (((4 : Int32) * (3 : Int32)) + 1) M) (fun r10_188 hr10_188 => ?_)
        refine wp_bind (T_Row_at 49 16 (((4 : Int32) * ((b2i false))) + 3) M) (fun r11_189 hr11_189 => ?_)
        refine wp_bind (T_Row_at 49 16 (((4 : Int32) * (1 : Int32)) + 1) M) (fun r12_190 hr12_190 => ?_)
        refine wp_bind (T_Row_at 49 16 (((4 : Int32) * (3 : Int32)) + 2) M) (fun r13_191 hr13_191 => ?_)
        refine wp_bind (T_Row_at 49 16 (((4 : Int32) * (1 : Int32)) + 2) M) (fun r14_192 hr14_192 => ?_)
        refine wp_bind (T_Row_at 49 16 (((4 : Int32) * (3 : Int32)) + 1) M) (fun r15_193 hr15_193 => ?_)
        refine wp_if (fun c12 => ?_) (fun c12 => ?_)
        · exact wp_some trivial
        · exact wp_some trivial
    · unfold F_Pair_cofactorOf_j23
      refine wp_if (fun c13 => ?_) (fun c13 => ?_)
      · unfold F_Pair_cofactorOf_j36
        refine wp_bind (T_Row_at 49 16 (((4 : Int32) * ((b2i false))) + 1) M) (fun r1_194 hr1_194 => ?_)
        refine wp_bind (T_Row_at 49 16 (((4 : Int32) * (2 : Int32)) + 2) M) (fun r2_195 hr2_195 => ?_)
        refine wp_bind (T_Row_at 49 16 (((4 : Int32) * (2 : Int32)) + 3) M) (fun r3_196 hr3_196 => ?_)
        refine wp_bind (T_Row_at 49 16 (((4 : Int32) * (2 : Int32)) + 3) M) (fun r4_197 hr4_197 => ?_)
        refine wp_bind (T_Row_at 49 16 (((4 : Int32) * (2 : Int32)) + 2) M) (fun r5_198 hr5_198 => ?_)
        refine wp_bind (T_Row_at 49 16 (((4 : Int32) * ((b2i false))) + 2) M) (fun r6_199 hr6_199 => ?_)
        refine wp_bind (T_Row_at 49 16 (((4 : Int32) * (2 : Int32)) + 1) M) (fun r7_200 hr7_200 => ?_)
        refine wp_bind (T_Row_at 49 16 (((4 : Int32) * (2 : Int32)) + 3) M) (fun r8_201 hr8_201 => ?_)
        refine wp_bind (T_Row_at 49 16 (((4 : Int32) * (2 : Int32)) + 3) M) (fun r9_202 hr9_202 => ?_)
        refine wp_bind (T_Row_at 49 16 (((4 : Int32) * (2 : Int32)) + 1) M) (fun r10_203 hr10_203 => ?_)
        refine wp_bind (T_Row_at 49 16 (((4 : Int32) * ((b2i false))) + 3) M) (fun r11_204 hr11_204 => ?_)
        refine wp_bind (T_Row_at 49 16 (((4 : Int32) * (2 : Int32)) + 1) M) (fun r12_205 hr12_205 => ?_)
        refine wp_bind (T_Row_at 49 16 (((4 : Int32) * (2 : Int32)) + 2) M) (fun r13_206 hr13_206 => ?_)
        refine wp_bind (T_Row_at 49 16 (((4 : Int32) * (2 : Int32)) + 2) M) (fun r14_207 hr14_207 => ?_)
        refine wp_bind (T_Row_at 49 16 (((4 : Int32) * (2 : Int32)) + 1) M) (fun r15_208 hr15_208 => ?_)
        refine wp_if (fun c14 => ?_) (fun c14 => ?_)
        · exact wp_some trivial
        · exact wp_some trivial
      · unfold F_Pair_cofactorOf_j36
        refine wp_bind (T_Row_at 49 16 (((4 : Int32) * ((b2i false))) + 1) M) (fun r1_209 hr1_209 => ?_)
        refine wp_bind (T_Row_at 49 16 (((4 : Int32) * (2 : Int32)) + 2) M) (fun r2_210 hr2_210 => ?_)
        refine wp_bind (T_Row_at 49 16 (((4 : Int32) * (3 : Int32)) + 3) M) (fun r3_211 hr3_211 => ?_)
        refine wp_bind (T_Row_at 49 16 (((4 : Int32) * (2 : Int32)) + 3) M) (fun r4_212 hr4_212 => ?_)
        refine wp_bind (T_Row_at 49 16 (((4 : Int32) * (3 : Int32)) + 2) M) (fun r5_213 hr5_213 => ?_)
        refine wp_bind (T_Row_at 49 16 (((4 : Int32) * ((b2i false))) + 2) M) (fun r6_214 hr6_214 => ?_)
        refine wp_bind (T_Row_at 49 16 (((4 : Int32) * (2 : Int32)) + 1) M) (fun r7_215 hr7_215 => ?_)
        refine wp_bind (T_Row_at 49 16 (((4 : Int32) * (3 : Int32)) + 3) M) (fun r8_216 hr8_216 => ?_)
        refine wp_bind (T_Row_at 49 16 (((4 : Int32) * (2 : Int32)) + 3) M) (fun r9_217 hr9_217 => ?_)
        refine wp_bind (T_Row_at 49 16 (((4 : Int32) * (3 : Int32)) + 1) M) (fun r10_218 hr10_218 => ?_)
        refine wp_bind (T_Row_at 49 16 (((4 : Int32) * ((b2i false))) + 3) M) (fun r11_219 hr11_219 => ?_)
        refine wp_bind (T_Row_at 49 16 (((4 : Int32) * (2 : Int32)) + 1) M) (fun r12_220 hr12_220 => ?_)
        refine wp_bind (T_Row_at 49 16 (((4 : Int32) * (3 : Int32)) + 2) M) (fun r13_221 hr13_221 => ?_)
        refine wp_bind (T_Row_at 49 16 (((4 : Int32) * (2 : Int32)) + 2) M) (fun r14_222 hr14_222 => ?_)
        refine wp_bind (T_Row_at 49 16 (((4 : Int32) * (3 : Int32)) + 1) M) (fun r15_223 hr15_223 => ?_)
        refine wp_if (fun c15 => ?_) (fun c15 => ?_)
        · exact wp_some trivial
        · exact wp_some trivial
theorem T_Pair_tellDoubted_b13 (o3 : Nat) (x1 : Int32) (x2 : Int32) (M : Mem) (z : Int64 × Int64 × Int32) : wpO (F_Pair_tellDoubted_b13 o3 x1 x2 M z) (fun r => (match r with | .inl s => muU s.2.2 < muU z.2.2 | .inr r => True)) := by
  unfold F_Pair_tellDoubted_b13
  refine wp_if (fun c1 => ?_) (fun c1 => ?_)
  · exact wp_some trivial
  · refine wp_bind (T_Pair_cofactorOf z.2.2 M) (fun r5 hr5 => ?_)
    refine wp_bind (T_Row_at 51 8 ((2 * z.2.2) + x1) M) (fun r6 hr6 => ?_)
    refine wp_bind (T_Row_at 49 16 (4 * z.2.2) M) (fun r7 hr7 => ?_)
    exact wp_some (muU_le c1)
theorem T_Pair_tellDoubted (o3 : Nat) (x1 : Int32) (x2 : Int32) (M : Mem) : wpO (F_Pair_tellDoubted o3 x1 x2 M) (fun r => Same (fun k => (49 ≤ k ∧ k ≤ 51) ∨ k = o3) M r) := by
  unfold F_Pair_tellDoubted
  refine wp_bind (T_Pair_fillDoubts M) (fun r1 hr1 => ?_)
  have mr1 : Same (fun k => (49 ≤ k ∧ k ≤ 51) ∨ k = o3) M r1 := hr1.mono (fun k hk => by first | omega | exact hk.elim | (dsimp only at hk ⊢; omega))
  unfold F_Pair_tellDoubted_l13
  refine wp_bind (Ψ := fun r_224 => True) (wp_while (P := fun _ => True) (μ := fun w9 => muU w9.2.2) (fun w9 hz => wp_mono (T_Pair_tellDoubted_b13 o3 x1 x2 r1 w9) (fun x hx => ?_)) FUEL ((0 : Int64), (0 : Int64), (0 : Int32)) trivial (mu_fuel _)) ?_
  · rcases x with x | x
    · exact ⟨trivial, hx⟩
    · trivial
  intro r_224 hr_224
  unfold F_Pair_tellDoubted_j73
  refine wp_bind (T_Fraction_be o3 r_224.1 r_224.2 r1) (fun r2_225 hr2_225 => ?_)
  have mr2_225 : Same (fun k => (49 ≤ k ∧ k ≤ 51) ∨ k = o3) M r2_225 := (mr1).trans (hr2_225.mono (fun k hk => by first | omega | exact hk.elim | (dsimp only at hk ⊢; omega)))
  refine wp_if (fun c1 => ?_) (fun c1 => ?_)
  · exact wp_some mr2_225
  · refine wp_bind (T_Chain_tellWorth 35 o3 0 x1 r2_225) (fun r3_226 hr3_226 => ?_)
    have mr3_226 : Same (fun k => (49 ≤ k ∧ k ≤ 51) ∨ k = o3) M r3_226 := (mr2_225).trans (hr3_226.mono (fun k hk => by first | omega | exact hk.elim | (dsimp only at hk ⊢; omega)))
    refine wp_bind (T_Fraction_be o3 (((r3_226.2 o3 0) * (r2_225.2 o3 1)) - ((r2_225.2 o3 0) * (r3_226.2 o3 1))) ((r3_226.2 o3 1) * (r2_225.2 o3 1)) r3_226) (fun r4_227 hr4_227 => ?_)
    have mr4_227 : Same (fun k => (49 ≤ k ∧ k ≤ 51) ∨ k = o3) M r4_227 := (mr3_226).trans (hr4_227.mono (fun k hk => by first | omega | exact hk.elim | (dsimp only at hk ⊢; omega)))
    exact wp_some mr4_227
