theorem T_Day_mostAgainst_b14 (x1 : Int32) (x2 : Int32) (M : Mem) (z : Int32 × Int32) : wpO (F_Day_mostAgainst_b14 x1 x2 M z) (fun r => (match r with | .inl s => muU s.2 < muU z.2 | .inr r => True)) := by
  unfold F_Day_mostAgainst_b14
  refine wp_if (fun c1 => ?_) (fun c1 => ?_)
  · exact wp_some trivial
  · refine wp_bind (T_Well_bringsOwn x1 z.2 x2 M) (fun r2 hr2 => ?_)
    refine wp_bind (T_Math_max_III z.1 r2 M) (fun r3 hr3 => ?_)
    exact wp_some (muU_le c1)
theorem T_Day_mostAgainst (x1 : Int32) (x2 : Int32) (M : Mem) : wpO (F_Day_mostAgainst x1 x2 M) (fun r => True) := by
  unfold F_Day_mostAgainst
  refine wp_bind (T_Well_bringsOwn x1 0 x2 M) (fun r1 hr1 => ?_)
  unfold F_Day_mostAgainst_l14
  refine wp_bind (Ψ := fun r_236 => True) (wp_while (P := fun _ => True) (μ := fun w9 => muU w9.2) (fun w9 hz => wp_mono (T_Day_mostAgainst_b14 x1 x2 M w9) (fun x hx => ?_)) FUEL (r1, (1 : Int32)) trivial (mu_fuel _)) ?_
  · rcases x with x | x
    · exact ⟨trivial, hx⟩
    · trivial
  intro r_236 hr_236
  exact wp_some trivial
theorem T_Day_threatTo_b4 (x1 : Int32) (M : Mem) (z : Int32 × Int32) : wpO (F_Day_threatTo_b4 x1 M z) (fun r => (match r with | .inl s => muU s.2 < muU z.2 | .inr r => True)) := by
  unfold F_Day_threatTo_b4
  refine wp_if (fun c1 => ?_) (fun c1 => ?_)
  · exact wp_some trivial
  · refine wp_bind (T_Day_mostAgainst x1 z.2 M) (fun r1 hr1 => ?_)
    refine wp_bind (T_Day_mostAgainst x1 z.1 M) (fun r2 hr2 => ?_)
    refine wp_if (fun c2 => ?_) (fun c2 => ?_)
    · exact wp_some (muU_le c1)
    · exact wp_some (muU_le c1)
theorem T_Day_threatTo (x1 : Int32) (M : Mem) : wpO (F_Day_threatTo x1 M) (fun r => True) := by
  unfold F_Day_threatTo
  unfold F_Day_threatTo_l4
  refine wp_bind (Ψ := fun r_237 => True) (wp_while (P := fun _ => True) (μ := fun w9 => muU w9.2) (fun w9 hz => wp_mono (T_Day_threatTo_b4 x1 M w9) (fun x hx => ?_)) FUEL ((0 : Int32), (1 : Int32)) trivial (mu_fuel _)) ?_
  · rcases x with x | x
    · exact ⟨trivial, hx⟩
    · trivial
  intro r_237 hr_237
  exact wp_some trivial
theorem T_Day_leastOf (x1 : Int32) (M : Mem) : wpO (F_Day_leastOf x1 M) (fun r => True) := by
  unfold F_Day_leastOf
  refine wp_bind (T_Day_threatTo x1 M) (fun r1 hr1 => ?_)
  refine wp_bind (T_Day_mostAgainst x1 r1 M) (fun r2 hr2 => ?_)
  exact wp_some trivial
theorem T_Day_steadyPairs_b17 (x2 : Int32) (M : Mem) (z : Int32 × Int32) : wpO (F_Day_steadyPairs_b17 x2 M z) (fun r => (match r with | .inl s => muU s.2 < muU z.2 | .inr r => True)) := by
  unfold F_Day_steadyPairs_b17
  refine wp_if (fun c1 => ?_) (fun c1 => ?_)
  · exact wp_some trivial
  · refine wp_bind (T_Well_bringsTo 0 x2 z.2 M) (fun r1 hr1 => ?_)
    refine wp_bind (T_Day_mostAgainst 0 z.2 M) (fun r2 hr2 => ?_)
    refine wp_if (fun c2 => ?_) (fun c2 => ?_)
    · exact wp_some (muU_le c1)
    · refine wp_bind (T_Well_bringsTo 1 x2 z.2 M) (fun r3 hr3 => ?_)
      refine wp_bind (T_Day_mostAgainst 1 x2 M) (fun r4 hr4 => ?_)
      refine wp_if (fun c3 => ?_) (fun c3 => ?_)
      · exact wp_some (muU_le c1)
      · exact wp_some (muU_le c1)
theorem T_Day_steadyPairs_b4 (M : Mem) (z : Int32 × Int32) : wpO (F_Day_steadyPairs_b4 M z) (fun r => (match r with | .inl s => muU s.2 < muU z.2 | .inr r => True)) := by
  unfold F_Day_steadyPairs_b4
  refine wp_if (fun c1 => ?_) (fun c1 => ?_)
  · exact wp_some trivial
  · unfold F_Day_steadyPairs_l17
    refine wp_bind (Ψ := fun r_239 => True) (wp_while (P := fun _ => True) (μ := fun w9 => muU w9.2) (fun w9 hz => wp_mono (T_Day_steadyPairs_b17 z.2 M w9) (fun x hx => ?_)) FUEL (z.1, (0 : Int32)) trivial (mu_fuel _)) ?_
    · rcases x with x | x
      · exact ⟨trivial, hx⟩
      · trivial
    intro r_239 hr_239
    exact wp_some (muU_le c1)
theorem T_Day_steadyPairs (M : Mem) : wpO (F_Day_steadyPairs M) (fun r => True) := by
  unfold F_Day_steadyPairs
  unfold F_Day_steadyPairs_l4
  refine wp_bind (Ψ := fun r_240 => True) (wp_while (P := fun _ => True) (μ := fun w9 => muU w9.2) (fun w9 hz => wp_mono (T_Day_steadyPairs_b4 M w9) (fun x hx => ?_)) FUEL ((0 : Int32), (0 : Int32)) trivial (mu_fuel _)) ?_
  · rcases x with x | x
    · exact ⟨trivial, hx⟩
    · trivial
  intro r_240 hr_240
  exact wp_some trivial
theorem T_Day_setWeights (x1 : Int32) (x2 : Int64) (x4 : Int32) (x5 : Int64) (M : Mem) : wpO (F_Day_setWeights x1 x2 x4 x5 M) (fun r => Same (fun k => k = 72) M r) := by
  unfold F_Day_setWeights
  refine wp_bind (T_Row_setAll 72 3 0 M) (fun r1 hr1 => ?_)
  have mr1 : Same (fun k => k = 72) M r1 := hr1.mono (fun k hk => by first | omega | exact hk.elim | (dsimp only at hk ⊢; omega))
  refine wp_bind (T_Row_add 72 3 x1 x2 r1) (fun r2 hr2 => ?_)
  have mr2 : Same (fun k => k = 72) M r2 := (mr1).trans (hr2.mono (fun k hk => by first | omega | exact hk.elim | (dsimp only at hk ⊢; omega)))
  refine wp_bind (T_Row_add 72 3 x4 x5 r2) (fun r3 hr3 => ?_)
  have mr3 : Same (fun k => k = 72) M r3 := (mr2).trans (hr3.mono (fun k hk => by first | omega | exact hk.elim | (dsimp only at hk ⊢; omega)))
  exact wp_some mr3
theorem T_Day_mixBrings_b5 (x1 : Int32) (M : Mem) (z : Int64 × Int32) : wpO (F_Day_mixBrings_b5 x1 M z) (fun r => (match r with | .inl s => muU s.2 < muU z.2 | .inr r => True)) := by
  unfold F_Day_mixBrings_b5
  refine wp_if (fun c1 => ?_) (fun c1 => ?_)
  · exact wp_some trivial
  · refine wp_bind (T_Row_at 72 3 z.2 M) (fun r1 hr1 => ?_)
    refine wp_bind (T_Row_at 70 9 ((3 * z.2) + x1) M) (fun r2 hr2 => ?_)
    exact wp_some (muU_le c1)
theorem T_Day_mixBrings (x1 : Int32) (M : Mem) : wpO (F_Day_mixBrings x1 M) (fun r => True) := by
  unfold F_Day_mixBrings
  unfold F_Day_mixBrings_l5
  refine wp_bind (Ψ := fun r_241 => True) (wp_while (P := fun _ => True) (μ := fun w9 => muU w9.2) (fun w9 hz => wp_mono (T_Day_mixBrings_b5 x1 M w9) (fun x hx => ?_)) FUEL ((0 : Int64), (0 : Int32)) trivial (mu_fuel _)) ?_
  · rcases x with x | x
    · exact ⟨trivial, hx⟩
    · trivial
  intro r_241 hr_241
  exact wp_some trivial
theorem T_Math_min_JJJ (x0 : Int64) (x2 : Int64) (M : Mem) : wpO (F_Math_min_JJJ x0 x2 M) (fun r => True) := by
  unfold F_Math_min_JJJ
  refine wp_if (fun c1 => ?_) (fun c1 => ?_)
  · exact wp_some trivial
  · exact wp_some trivial
theorem T_Day_tryMix_b113 (x3 : Int32) (x4 : Int64) (M : Mem) (z : Int64 × Int32) : wpO (F_Day_tryMix_b113 x3 x4 M z) (fun r => (match r with | .inl s => muU s.2 < muU z.2 | .inr r => True)) := by
  unfold F_Day_tryMix_b113
  refine wp_if (fun c1 => ?_) (fun c1 => ?_)
  · exact wp_some trivial
  · refine wp_bind (T_Day_mixBrings z.2 M) (fun r8 hr8 => ?_)
    refine wp_bind (T_Math_min_JJJ z.1 (x3.toInt64 * r8) M) (fun r9 hr9 => ?_)
    exact wp_some (muU_le c1)
theorem T_Day_tryMix (M : Mem) : wpO (F_Day_tryMix M) (fun r => Same (fun k => k = 68) M r) := by
  unfold F_Day_tryMix
  refine wp_bind (T_Row_at 72 3 0 M) (fun r1 hr1 => ?_)
  refine wp_bind (T_Row_at 72 3 1 M) (fun r2 hr2 => ?_)
  refine wp_bind (T_Row_at 72 3 2 M) (fun r3 hr3 => ?_)
  refine wp_if (fun c1 => ?_) (fun c1 => ?_)
  · unfold F_Day_tryMix_j38
    refine wp_if (fun c2 => ?_) (fun c2 => ?_)
    · exact wp_some Same.rfl'
    · refine wp_bind (T_Row_at 72 3 0 M) (fun r4_242 hr4_242 => ?_)
      refine wp_if (fun c3 => ?_) (fun c3 => ?_)
      · exact wp_some Same.rfl'
      · refine wp_bind (T_Row_at 72 3 1 M) (fun r5_243 hr5_243 => ?_)
        refine wp_if (fun c4 => ?_) (fun c4 => ?_)
        · exact wp_some Same.rfl'
        · refine wp_bind (T_Row_at 72 3 2 M) (fun r6_244 hr6_244 => ?_)
          refine wp_if (fun c5 => ?_) (fun c5 => ?_)
          · refine wp_bind (T_Day_mixBrings 0 M) (fun r7_245 hr7_245 => ?_)
            unfold F_Day_tryMix_l113
            refine wp_bind (Ψ := fun r_246 => True) (wp_while (P := fun _ => True) (μ := fun w9 => muU w9.2) (fun w9 hz => wp_mono (T_Day_tryMix_b113 (1 : Int32) ((1 : Int32).toInt64 * ((r1 + r2) + r3)) M w9) (fun x hx => ?_)) FUEL (((1 : Int32).toInt64 * r7_245), (1 : Int32)) trivial (mu_fuel _)) ?_
            · rcases x with x | x
              · exact ⟨trivial, hx⟩
              · trivial
            intro r_246 hr_246
            unfold F_Day_tryMix_j147
            refine wp_if (fun c6 => ?_) (fun c6 => ?_)
            · exact wp_some ((((Same.rfl').sL (by first | omega | (dsimp only; omega)))).sL (by first | omega | (dsimp only; omega)))
            · refine wp_if (fun c7 => ?_) (fun c7 => ?_)
              · exact wp_some Same.rfl'
              · exact wp_some ((((Same.rfl').sL (by first | omega | (dsimp only; omega)))).sL (by first | omega | (dsimp only; omega)))
          · exact wp_some Same.rfl'
  · unfold F_Day_tryMix_j38
    refine wp_if (fun c8 => ?_) (fun c8 => ?_)
    · exact wp_some Same.rfl'
    · refine wp_bind (T_Row_at 72 3 0 M) (fun r4_247 hr4_247 => ?_)
      refine wp_if (fun c9 => ?_) (fun c9 => ?_)
      · exact wp_some Same.rfl'
      · refine wp_bind (T_Row_at 72 3 1 M) (fun r5_248 hr5_248 => ?_)
        refine wp_if (fun c10 => ?_) (fun c10 => ?_)
        · exact wp_some Same.rfl'
        · refine wp_bind (T_Row_at 72 3 2 M) (fun r6_249 hr6_249 => ?_)
          refine wp_if (fun c11 => ?_) (fun c11 => ?_)
          · refine wp_bind (T_Day_mixBrings 0 M) (fun r7_250 hr7_250 => ?_)
            unfold F_Day_tryMix_l113
            refine wp_bind (Ψ := fun r_251 => True) (wp_while (P := fun _ => True) (μ := fun w9 => muU w9.2) (fun w9 hz => wp_mono (T_Day_tryMix_b113 (-1 : Int32) ((-1 : Int32).toInt64 * ((r1 + r2) + r3)) M w9) (fun x hx => ?_)) FUEL (((-1 : Int32).toInt64 * r7_250), (1 : Int32)) trivial (mu_fuel _)) ?_
            · rcases x with x | x
              · exact ⟨trivial, hx⟩
              · trivial
            intro r_251 hr_251
            unfold F_Day_tryMix_j147
            refine wp_if (fun c12 => ?_) (fun c12 => ?_)
            · exact wp_some ((((Same.rfl').sL (by first | omega | (dsimp only; omega)))).sL (by first | omega | (dsimp only; omega)))
            · refine wp_if (fun c13 => ?_) (fun c13 => ?_)
              · exact wp_some Same.rfl'
              · exact wp_some ((((Same.rfl').sL (by first | omega | (dsimp only; omega)))).sL (by first | omega | (dsimp only; omega)))
          · exact wp_some Same.rfl'
theorem T_Day_tryMixesOfTwo_b18 (x1 : Int32) (x2 : Int32) (x3 : Int32) (z : Int32 × Mem) : wpO (F_Day_tryMixesOfTwo_b18 x1 x2 x3 z) (fun r => (match r with | .inl s => Same (fun k => k = 68 ∨ k = 72) z.2 s.2 ∧ muU s.1 < muU z.1 | .inr r => Same (fun k => k = 68 ∨ k = 72) z.2 r)) := by
  unfold F_Day_tryMixesOfTwo_b18
  refine wp_if (fun c1 => ?_) (fun c1 => ?_)
  · exact wp_some Same.rfl'
  · refine wp_bind (T_Row_at 70 9 ((3 * x2) + z.1) z.2) (fun r1 hr1 => ?_)
    refine wp_bind (T_Row_at 70 9 ((3 * x2) + x3) z.2) (fun r2 hr2 => ?_)
    refine wp_bind (T_Row_at 70 9 ((3 * x1) + x3) z.2) (fun r3 hr3 => ?_)
    refine wp_bind (T_Row_at 70 9 ((3 * x1) + z.1) z.2) (fun r4 hr4 => ?_)
    refine wp_bind (T_Day_setWeights x1 (r1 - r2) x2 (r3 - r4) z.2) (fun r5 hr5 => ?_)
    have mr5 : Same (fun k => k = 68 ∨ k = 72) z.2 r5 := hr5.mono (fun k hk => by first | omega | exact hk.elim | (dsimp only at hk ⊢; omega))
    refine wp_bind (T_Day_tryMix r5) (fun r6 hr6 => ?_)
    have mr6 : Same (fun k => k = 68 ∨ k = 72) z.2 r6 := (mr5).trans (hr6.mono (fun k hk => by first | omega | exact hk.elim | (dsimp only at hk ⊢; omega)))
    exact wp_some ⟨mr6, (muU_le c1)⟩
theorem T_Day_tryMixesOfTwo_b2 (x1 : Int32) (x2 : Int32) (z : Int32 × Mem) : wpO (F_Day_tryMixesOfTwo_b2 x1 x2 z) (fun r => (match r with | .inl s => Same (fun k => k = 68 ∨ k = 72) z.2 s.2 ∧ muU s.1 < muU z.1 | .inr r => Same (fun k => k = 68 ∨ k = 72) z.2 r)) := by
  unfold F_Day_tryMixesOfTwo_b2
  refine wp_if (fun c1 => ?_) (fun c1 => ?_)
  · exact wp_some Same.rfl'
  · unfold F_Day_tryMixesOfTwo_l18
    refine wp_bind (Ψ := fun r_253 => Same (fun k => k = 68 ∨ k = 72) z.2 r_253) (wp_while (P := fun w9 => Same (fun k => k = 68 ∨ k = 72) z.2 w9.2) (μ := fun w9 => muU w9.1) (fun w9 hz => wp_mono (T_Day_tryMixesOfTwo_b18 x1 x2 z.1 w9) (fun x hx => ?_)) FUEL ((z.1 + 1), z.2) Same.rfl' (mu_fuel _)) ?_
    · rcases x with x | x
      · exact ⟨hz.trans (hx.1.mono (fun k hk => by first | omega | exact hk.elim | (dsimp only at hk ⊢; omega))), hx.2⟩
      · exact hz.trans (hx.mono (fun k hk => by first | omega | exact hk.elim | (dsimp only at hk ⊢; omega)))
    intro r_253 hr_253
    exact wp_some ⟨hr_253, (muU_le c1)⟩
theorem T_Day_tryMixesOfTwo (x1 : Int32) (x2 : Int32) (M : Mem) : wpO (F_Day_tryMixesOfTwo x1 x2 M) (fun r => Same (fun k => k = 68 ∨ k = 72) M r) := by
  unfold F_Day_tryMixesOfTwo
  unfold F_Day_tryMixesOfTwo_l2
  refine wp_bind (Ψ := fun r_254 => Same (fun k => k = 68 ∨ k = 72) M r_254) (wp_while (P := fun w9 => Same (fun k => k = 68 ∨ k = 72) M w9.2) (μ := fun w9 => muU w9.1) (fun w9 hz => wp_mono (T_Day_tryMixesOfTwo_b2 x1 x2 w9) (fun x hx => ?_)) FUEL ((0 : Int32), M) Same.rfl' (mu_fuel _)) ?_
  · rcases x with x | x
    · exact ⟨hz.trans (hx.1.mono (fun k hk => by first | omega | exact hk.elim | (dsimp only at hk ⊢; omega))), hx.2⟩
    · exact hz.trans (hx.mono (fun k hk => by first | omega | exact hk.elim | (dsimp only at hk ⊢; omega)))
  intro r_254 hr_254
  exact wp_some hr_254
theorem T_Day_tryMixOfThree_b29 (x1 : Int32) (x2 : Int32) (x3 : Int32) (M : Mem) (z : Int64 × Int32) : wpO (F_Day_tryMixOfThree_b29 x1 x2 x3 M z) (fun r => (match r with | .inl s => muU s.2 < muU z.2 | .inr r => True)) := by
  unfold F_Day_tryMixOfThree_b29
  refine wp_if (fun c1 => ?_) (fun c1 => ?_)
  · exact wp_some trivial
  · refine wp_bind (T_Row_at 70 9 (x2 + (irm (z.2 + 1) 3)) M) (fun r3 hr3 => ?_)
    refine wp_bind (T_Row_at 70 9 (x3 + (irm (z.2 + 2) 3)) M) (fun r4 hr4 => ?_)
    refine wp_bind (T_Row_at 70 9 (x2 + (irm (z.2 + 2) 3)) M) (fun r5 hr5 => ?_)
    refine wp_bind (T_Row_at 70 9 (x3 + (irm (z.2 + 1) 3)) M) (fun r6 hr6 => ?_)
    exact wp_some (muU_le c1)
theorem T_Day_tryMixOfThree_b2 (z : Int32 × Mem) : wpO (F_Day_tryMixOfThree_b2 z) (fun r => (match r with | .inl s => Same (fun k => k = 72) z.2 s.2 ∧ muU s.1 < muU z.1 | .inr r => Same (fun k => k = 72) z.2 r)) := by
  unfold F_Day_tryMixOfThree_b2
  refine wp_if (fun c1 => ?_) (fun c1 => ?_)
  · exact wp_some Same.rfl'
  · unfold F_Day_tryMixOfThree_l29
    refine wp_bind (Ψ := fun r_257 => True) (wp_while (P := fun _ => True) (μ := fun w9 => muU w9.2) (fun w9 hz => wp_mono (T_Day_tryMixOfThree_b29 z.1 (3 * (irm (z.1 + 1) 3)) (3 * (irm (z.1 + 2) 3)) z.2 w9) (fun x hx => ?_)) FUEL ((0 : Int64), (0 : Int32)) trivial (mu_fuel _)) ?_
    · rcases x with x | x
      · exact ⟨trivial, hx⟩
      · trivial
    intro r_257 hr_257
    unfold F_Day_tryMixOfThree_j109
    refine wp_bind (T_Row_put 72 3 z.1 r_257 z.2) (fun r2_258 hr2_258 => ?_)
    have mr2_258 : Same (fun k => k = 72) z.2 r2_258 := hr2_258.mono (fun k hk => by first | omega | exact hk.elim | (dsimp only at hk ⊢; omega))
    exact wp_some ⟨mr2_258, (muU_le c1)⟩
theorem T_Day_tryMixOfThree (M : Mem) : wpO (F_Day_tryMixOfThree M) (fun r => Same (fun k => k = 68 ∨ k = 72) M r) := by
  unfold F_Day_tryMixOfThree
  unfold F_Day_tryMixOfThree_l2
  refine wp_bind (Ψ := fun r_259 => Same (fun k => k = 68 ∨ k = 72) M r_259) (wp_while (P := fun w9 => Same (fun k => k = 68 ∨ k = 72) M w9.2) (μ := fun w9 => muU w9.1) (fun w9 hz => wp_mono (T_Day_tryMixOfThree_b2  w9) (fun x hx => ?_)) FUEL ((0 : Int32), M) Same.rfl' (mu_fuel _)) ?_
  · rcases x with x | x
    · exact ⟨hz.trans (hx.1.mono (fun k hk => by first | omega | exact hk.elim | (dsimp only at hk ⊢; omega))), hx.2⟩
    · exact hz.trans (hx.mono (fun k hk => by first | omega | exact hk.elim | (dsimp only at hk ⊢; omega)))
  intro r_259 hr_259
  unfold F_Day_tryMixOfThree_j125
  refine wp_bind (T_Day_tryMix r_259) (fun r1_260 hr1_260 => ?_)
  have mr1_260 : Same (fun k => k = 68 ∨ k = 72) M r1_260 := (hr_259).trans (hr1_260.mono (fun k hk => by first | omega | exact hk.elim | (dsimp only at hk ⊢; omega)))
  exact wp_some mr1_260
theorem T_Day_tellLots_b72 (o2 : Nat) (x3 : Int32) (z : Int32 × Mem) : wpO (F_Day_tellLots_b72 o2 x3 z) (fun r => (match r with | .inl s => Same (fun k => k = 68 ∨ k = 72) z.2 s.2 ∧ muU s.1 < muU z.1 | .inr r => Same (fun k => k = 68 ∨ k = 72) z.2 r)) := by
  unfold F_Day_tellLots_b72
  refine wp_if (fun c1 => ?_) (fun c1 => ?_)
  · exact wp_some Same.rfl'
  · refine wp_bind (T_Day_tryMixesOfTwo x3 z.1 z.2) (fun r5 hr5 => ?_)
    have mr5 : Same (fun k => k = 68 ∨ k = 72) z.2 r5 := hr5.mono (fun k hk => by first | omega | exact hk.elim | (dsimp only at hk ⊢; omega))
    exact wp_some ⟨mr5, (muU_le c1)⟩
theorem T_Day_tellLots_b44 (o2 : Nat) (z : Int32 × Mem) : wpO (F_Day_tellLots_b44 o2 z) (fun r => (match r with | .inl s => Same (fun k => k = 68 ∨ k = 72) z.2 s.2 ∧ muU s.1 < muU z.1 | .inr r => Same (fun k => k = 68 ∨ k = 72) z.2 r)) := by
  unfold F_Day_tellLots_b44
  refine wp_if (fun c1 => ?_) (fun c1 => ?_)
  · exact wp_some Same.rfl'
  · refine wp_bind (T_Day_setWeights z.1 1 z.1 0 z.2) (fun r3 hr3 => ?_)
    have mr3 : Same (fun k => k = 68 ∨ k = 72) z.2 r3 := hr3.mono (fun k hk => by first | omega | exact hk.elim | (dsimp only at hk ⊢; omega))
    refine wp_bind (T_Day_tryMix r3) (fun r4 hr4 => ?_)
    have mr4 : Same (fun k => k = 68 ∨ k = 72) z.2 r4 := (mr3).trans (hr4.mono (fun k hk => by first | omega | exact hk.elim | (dsimp only at hk ⊢; omega)))
    unfold F_Day_tellLots_l72
    refine wp_bind (Ψ := fun r_262 => Same (fun k => k = 68 ∨ k = 72) z.2 r_262) (wp_while (P := fun w9 => Same (fun k => k = 68 ∨ k = 72) z.2 w9.2) (μ := fun w9 => muU w9.1) (fun w9 hz => wp_mono (T_Day_tellLots_b72 o2 z.1 w9) (fun x hx => ?_)) FUEL ((z.1 + 1), r4) mr4 (mu_fuel _)) ?_
    · rcases x with x | x
      · exact ⟨hz.trans (hx.1.mono (fun k hk => by first | omega | exact hk.elim | (dsimp only at hk ⊢; omega))), hx.2⟩
      · exact hz.trans (hx.mono (fun k hk => by first | omega | exact hk.elim | (dsimp only at hk ⊢; omega)))
    intro r_262 hr_262
    exact wp_some ⟨hr_262, (muU_le c1)⟩
theorem T_Day_tellLots_b2 (o2 : Nat) (x1 : Int32) (z : Int32 × Mem) : wpO (F_Day_tellLots_b2 o2 x1 z) (fun r => (match r with | .inl s => Same (fun k => k = 70) z.2 s.2 ∧ muU s.1 < muU z.1 | .inr r => Same (fun k => k = 70) z.2 r)) := by
  unfold F_Day_tellLots_b2
  refine wp_if (fun c1 => ?_) (fun c1 => ?_)
  · exact wp_some Same.rfl'
  · refine wp_bind (T_Well_bringsOwn x1 (z.1 / 3) (irm z.1 3) z.2) (fun r6 hr6 => ?_)
    refine wp_bind (T_Row_put 70 9 z.1 r6.toInt64 z.2) (fun r7 hr7 => ?_)
    have mr7 : Same (fun k => k = 70) z.2 r7 := hr7.mono (fun k hk => by first | omega | exact hk.elim | (dsimp only at hk ⊢; omega))
    exact wp_some ⟨mr7, (muU_le c1)⟩
theorem T_Day_tellLots (o2 : Nat) (x1 : Int32) (M : Mem) : wpO (F_Day_tellLots o2 x1 M) (fun r => Same (fun k => (68 ≤ k ∧ k ≤ 72) ∨ k = o2) M r) := by
  unfold F_Day_tellLots
  unfold F_Day_tellLots_l2
  refine wp_bind (Ψ := fun r_263 => Same (fun k => (68 ≤ k ∧ k ≤ 72) ∨ k = o2) M r_263) (wp_while (P := fun w9 => Same (fun k => (68 ≤ k ∧ k ≤ 72) ∨ k = o2) M w9.2) (μ := fun w9 => muU w9.1) (fun w9 hz => wp_mono (T_Day_tellLots_b2 o2 x1 w9) (fun x hx => ?_)) FUEL ((0 : Int32), M) Same.rfl' (mu_fuel _)) ?_
  · rcases x with x | x
    · exact ⟨hz.trans (hx.1.mono (fun k hk => by first | omega | exact hk.elim | (dsimp only at hk ⊢; omega))), hx.2⟩
    · exact hz.trans (hx.mono (fun k hk => by first | omega | exact hk.elim | (dsimp only at hk ⊢; omega)))
  intro r_263 hr_263
  unfold F_Day_tellLots_l44
  refine wp_bind (Ψ := fun r_264 => Same (fun k => (68 ≤ k ∧ k ≤ 72) ∨ k = o2) M r_264) (wp_while (P := fun w9 => Same (fun k => (68 ≤ k ∧ k ≤ 72) ∨ k = o2) M w9.2) (μ := fun w9 => muU w9.1) (fun w9 hz => wp_mono (T_Day_tellLots_b44 o2 w9) (fun x hx => ?_)) FUEL ((0 : Int32), (mSL r_263 68 4 0)) ((hr_263).sL (by first | omega | (dsimp only; omega))) (mu_fuel _)) ?_
  · rcases x with x | x
    · exact ⟨hz.trans (hx.1.mono (fun k hk => by first | omega | exact hk.elim | (dsimp only at hk ⊢; omega))), hx.2⟩
    · exact hz.trans (hx.mono (fun k hk => by first | omega | exact hk.elim | (dsimp only at hk ⊢; omega)))
  intro r_264 hr_264
  unfold F_Day_tellLots_j103
  refine wp_if (fun c1 => ?_) (fun c1 => ?_)
  · refine wp_bind (T_Day_tryMixOfThree r_264) (fun r2_265 hr2_265 => ?_)
    have mr2_265 : Same (fun k => (68 ≤ k ∧ k ≤ 72) ∨ k = o2) M r2_265 := (hr_264).trans (hr2_265.mono (fun k hk => by first | omega | exact hk.elim | (dsimp only at hk ⊢; omega)))
    unfold F_Day_tellLots_j118
    refine wp_bind (T_Fraction_be o2 (r2_265.2 68 3) (r2_265.2 68 4) r2_265) (fun r1_266 hr1_266 => ?_)
    have mr1_266 : Same (fun k => (68 ≤ k ∧ k ≤ 72) ∨ k = o2) M r1_266 := (mr2_265).trans (hr1_266.mono (fun k hk => by first | omega | exact hk.elim | (dsimp only at hk ⊢; omega)))
    exact wp_some mr1_266
  · unfold F_Day_tellLots_j118
    refine wp_bind (T_Fraction_be o2 (r_264.2 68 3) (r_264.2 68 4) r_264) (fun r1_267 hr1_267 => ?_)
    have mr1_267 : Same (fun k => (68 ≤ k ∧ k ≤ 72) ∨ k = o2) M r1_267 := (hr_264).trans (hr1_267.mono (fun k hk => by first | omega | exact hk.elim | (dsimp only at hk ⊢; omega)))
    exact wp_some mr1_267
theorem T_Day_isPoint (x1 : Int32) (M : Mem) : wpO (F_Day_isPoint x1 M) (fun r => True) := by
  unfold F_Day_isPoint
  refine wp_if (fun c1 => ?_) (fun c1 => ?_)
  · exact wp_some trivial
  · refine wp_if (fun c2 => ?_) (fun c2 => ?_)
    · exact wp_some trivial
    · exact wp_some trivial
theorem T_Day_across (x1 : Int32) (M : Mem) : wpO (F_Day_across x1 M) (fun r => True) := by
  unfold F_Day_across
  refine wp_bind (T_Well_bringsTo 0 (x1 / 3) (irm x1 3) M) (fun r1 hr1 => ?_)
  exact wp_some trivial
theorem T_Day_up (x1 : Int32) (M : Mem) : wpO (F_Day_up x1 M) (fun r => True) := by
  unfold F_Day_up
  refine wp_bind (T_Well_bringsTo 1 (x1 / 3) (irm x1 3) M) (fun r1 hr1 => ?_)
  exact wp_some trivial
theorem T_Day_firstCorner_b4 (M : Mem) (z : Int32 × Int32) : wpO (F_Day_firstCorner_b4 M z) (fun r => (match r with | .inl s => muU s.2 < muU z.2 | .inr r => True)) := by
  unfold F_Day_firstCorner_b4
  refine wp_if (fun c1 => ?_) (fun c1 => ?_)
  · exact wp_some trivial
  · refine wp_bind (T_Day_isPoint z.2 M) (fun r1 hr1 => ?_)
    refine wp_if (fun c2 => ?_) (fun c2 => ?_)
    · refine wp_bind (T_Day_across z.2 M) (fun r2 hr2 => ?_)
      refine wp_bind (T_Day_across z.1 M) (fun r3 hr3 => ?_)
      refine wp_if (fun c3 => ?_) (fun c3 => ?_)
      · exact wp_some (muU_le c1)
      · refine wp_bind (T_Day_across z.2 M) (fun r4 hr4 => ?_)
        refine wp_bind (T_Day_across z.1 M) (fun r5 hr5 => ?_)
        refine wp_if (fun c4 => ?_) (fun c4 => ?_)
        · refine wp_bind (T_Day_up z.2 M) (fun r6 hr6 => ?_)
          refine wp_bind (T_Day_up z.1 M) (fun r7 hr7 => ?_)
          refine wp_if (fun c5 => ?_) (fun c5 => ?_)
          · exact wp_some (muU_le c1)
          · exact wp_some (muU_le c1)
        · exact wp_some (muU_le c1)
    · exact wp_some (muU_le c1)
theorem T_Day_firstCorner (M : Mem) : wpO (F_Day_firstCorner M) (fun r => True) := by
  unfold F_Day_firstCorner
  unfold F_Day_firstCorner_l4
  refine wp_bind (Ψ := fun r_268 => True) (wp_while (P := fun _ => True) (μ := fun w9 => muU w9.2) (fun w9 hz => wp_mono (T_Day_firstCorner_b4 M w9) (fun x hx => ?_)) FUEL ((0 : Int32), (1 : Int32)) trivial (mu_fuel _)) ?_
  · rcases x with x | x
    · exact ⟨trivial, hx⟩
    · trivial
  intro r_268 hr_268
  exact wp_some trivial
theorem T_Day_isFurtherRight (x1 : Int32) (x2 : Int32) (x3 : Int32) (M : Mem) : wpO (F_Day_isFurtherRight x1 x2 x3 M) (fun r => True) := by
  unfold F_Day_isFurtherRight
  refine wp_bind (T_Day_across x2 M) (fun r1 hr1 => ?_)
  refine wp_bind (T_Day_across x1 M) (fun r2 hr2 => ?_)
  refine wp_bind (T_Day_up x2 M) (fun r3 hr3 => ?_)
  refine wp_bind (T_Day_up x1 M) (fun r4 hr4 => ?_)
  refine wp_bind (T_Day_across x3 M) (fun r5 hr5 => ?_)
  refine wp_bind (T_Day_across x1 M) (fun r6 hr6 => ?_)
  refine wp_bind (T_Day_up x3 M) (fun r7 hr7 => ?_)
  refine wp_bind (T_Day_up x1 M) (fun r8 hr8 => ?_)
  refine wp_if (fun c1 => ?_) (fun c1 => ?_)
  · exact wp_some trivial
  · refine wp_if (fun c2 => ?_) (fun c2 => ?_)
    · refine wp_if (fun c3 => ?_) (fun c3 => ?_)
      · exact wp_some trivial
      · exact wp_some trivial
    · exact wp_some trivial
theorem T_Day_cornerAfter_b4 (x1 : Int32) (M : Mem) (z : Int32 × Int32) : wpO (F_Day_cornerAfter_b4 x1 M z) (fun r => (match r with | .inl s => muU s.2 < muU z.2 | .inr r => True)) := by
  unfold F_Day_cornerAfter_b4
  refine wp_if (fun c1 => ?_) (fun c1 => ?_)
  · exact wp_some trivial
  · refine wp_bind (T_Day_isPoint z.2 M) (fun r1 hr1 => ?_)
    refine wp_if (fun c2 => ?_) (fun c2 => ?_)
    · refine wp_bind (T_Day_isFurtherRight x1 z.1 z.2 M) (fun r2 hr2 => ?_)
      refine wp_if (fun c3 => ?_) (fun c3 => ?_)
      · exact wp_some (muU_le c1)
      · exact wp_some (muU_le c1)
    · exact wp_some (muU_le c1)
theorem T_Day_cornerAfter (x1 : Int32) (M : Mem) : wpO (F_Day_cornerAfter x1 M) (fun r => True) := by
  unfold F_Day_cornerAfter
  unfold F_Day_cornerAfter_l4
  refine wp_bind (Ψ := fun r_269 => True) (wp_while (P := fun _ => True) (μ := fun w9 => muU w9.2) (fun w9 hz => wp_mono (T_Day_cornerAfter_b4 x1 M w9) (fun x hx => ?_)) FUEL (x1, (0 : Int32)) trivial (mu_fuel _)) ?_
  · rcases x with x | x
    · exact ⟨trivial, hx⟩
    · trivial
  intro r_269 hr_269
  exact wp_some trivial
theorem T_Day_findCorners_b12 (x1 : Int32) (z : Int32 × Mem) (h0 : 0 ≤ (z.2.1 68 5).toInt) (h8 : (z.2.1 68 5).toInt ≤ 8) : wpO (F_Day_findCorners_b12 x1 z) (fun x => match x with | .inl s => (0 ≤ (s.2.1 68 5).toInt ∧ (s.2.1 68 5).toInt ≤ 8 ∧ Same (fun k => (68 ≤ k ∧ k ≤ 76)) z.2 s.2) ∧ (9 - (s.2.1 68 5).toInt).toNat < (9 - (z.2.1 68 5).toInt).toNat | .inr r => Same (fun k => (68 ≤ k ∧ k ≤ 76)) z.2 r ∧ (r.1 68 5).toInt = (z.2.1 68 5).toInt + 1) := by
  unfold F_Day_findCorners_b12
  refine wp_bind (T_Day_across _ _) (fun r2 _ => ?_)
  refine wp_bind (T_Row_put 74 9 (z.2.1 68 5) r2.toInt64 z.2) (fun r3 h3 => ?_)
  refine wp_bind (T_Day_up _ _) (fun r4 _ => ?_)
  refine wp_bind (T_Row_put 76 9 (r3.1 68 5) r4.toInt64 r3) (fun r5 h5 => ?_)
  have e5 : r5.1 68 5 = z.2.1 68 5 := ((h5 68 (by decide)).1 5).trans ((h3 68 (by decide)).1 5)
  have s5 : Same (fun k => (68 ≤ k ∧ k ≤ 76)) z.2 r5 := (h3.mono (fun k hk => by first | omega | exact hk.elim | (dsimp only at hk ⊢; omega))).trans (h5.mono (fun k hk => by first | omega | exact hk.elim | (dsimp only at hk ⊢; omega)))
  have e6 : (mSI r5 68 5 (r5.1 68 5 + 1)).1 68 5 = z.2.1 68 5 + 1 := by rw [mI_hit, e5]
  have e7 : (z.2.1 68 5 + 1).toInt = (z.2.1 68 5).toInt + 1 := up1 (by omega)
  have s6 : Same (fun k => (68 ≤ k ∧ k ≤ 76)) z.2 (mSI r5 68 5 (r5.1 68 5 + 1)) := s5.sI (by first | omega | (dsimp only; omega))
  have stop : Same (fun k => (68 ≤ k ∧ k ≤ 76)) z.2 (mSI r5 68 5 (r5.1 68 5 + 1)) ∧ ((mSI r5 68 5 (r5.1 68 5 + 1)).1 68 5).toInt = (z.2.1 68 5).toInt + 1 := ⟨s6, by rw [e6, e7]⟩
  refine wp_bind (T_Day_cornerAfter _ _) (fun r6 _ => wp_if (fun c1 => wp_some stop) (fun c1 => ?_))
  have go : (0 ≤ ((mSI r5 68 5 (r5.1 68 5 + 1)).1 68 5).toInt ∧ ((mSI r5 68 5 (r5.1 68 5 + 1)).1 68 5).toInt ≤ 8 ∧ Same (fun k => (68 ≤ k ∧ k ≤ 76)) z.2 (mSI r5 68 5 (r5.1 68 5 + 1))) ∧ (9 - ((mSI r5 68 5 (r5.1 68 5 + 1)).1 68 5).toInt).toNat < (9 - (z.2.1 68 5).toInt).toNat := by
    rw [le_i, li9, e6, e7] at c1
    rw [e6, e7]
    exact ⟨⟨by omega, by omega, s6⟩, by omega⟩
  refine wp_bind (T_Day_across _ _) (fun r7 _ => wp_bind (T_Day_across _ _) (fun r8 _ => wp_if (fun c2 => ?_) (fun c2 => wp_some go)))
  refine wp_bind (T_Day_up _ _) (fun r9 _ => wp_bind (T_Day_up _ _) (fun r10 _ => wp_if (fun c3 => wp_some stop) (fun c3 => wp_some go)))
theorem T_Day_findCorners (M : Mem) : wpO (F_Day_findCorners M) (fun r => Same (fun k => (68 ≤ k ∧ k ≤ 76)) M r) := by
  unfold F_Day_findCorners
  refine wp_bind (T_Day_firstCorner _) (fun r1 _ => ?_)
  unfold F_Day_findCorners_l12
  have e0 : ((mSI M 68 5 0).1 68 5).toInt = 0 := by rw [mI_hit]; rfl
  refine wp_bind (Ψ := fun r => Same (fun k => (68 ≤ k ∧ k ≤ 76)) M r) (wp_while (P := fun z => 0 ≤ (z.2.1 68 5).toInt ∧ (z.2.1 68 5).toInt ≤ 8 ∧ Same (fun k => (68 ≤ k ∧ k ≤ 76)) M z.2) (μ := fun z => (9 - (z.2.1 68 5).toInt).toNat) (fun z hz => wp_mono (T_Day_findCorners_b12 r1 z hz.1 hz.2.1) (fun x hx => ?_)) FUEL (r1, mSI M 68 5 0) ⟨by show 0 ≤ ((mSI M 68 5 0).1 68 5).toInt; rw [mI_hit]; decide, by show ((mSI M 68 5 0).1 68 5).toInt ≤ 8; rw [mI_hit]; decide, Same.rfl'.sI (by first | omega | (dsimp only; omega))⟩ (FUEL_big (by first | omega | (dsimp only; omega)))) (fun r hr => wp_some hr)
  rcases x with x | x
  · exact ⟨⟨hx.1.1, hx.1.2.1, hz.2.2.trans hx.1.2.2⟩, hx.2⟩
  · exact hz.2.2.trans hx.1

theorem T_Day_isBetweenEnds (x1 : Int32) (x2 : Int32) (x3 : Int32) (M : Mem) : wpO (F_Day_isBetweenEnds x1 x2 x3 M) (fun r => True) := by
  unfold F_Day_isBetweenEnds
  refine wp_bind (T_Row_at 76 9 0 M) (fun r1 hr1 => ?_)
  refine wp_bind (T_Row_at 76 9 ((M.1 68 5) - 1) M) (fun r2 hr2 => ?_)
  refine wp_bind (T_Math_max_JJJ r1 r2 M) (fun r3 hr3 => ?_)
  refine wp_bind (T_Row_at 76 9 0 M) (fun r4 hr4 => ?_)
  refine wp_bind (T_Row_at 76 9 ((M.1 68 5) - 1) M) (fun r5 hr5 => ?_)
  refine wp_bind (T_Math_min_JJJ r4 r5 M) (fun r6 hr6 => ?_)
  refine wp_bind (T_Row_at 74 9 0 M) (fun r7 hr7 => ?_)
  refine wp_if (fun c1 => ?_) (fun c1 => ?_)
  · exact wp_some trivial
  · refine wp_bind (T_Row_at 74 9 ((M.1 68 5) - 1) M) (fun r8 hr8 => ?_)
    refine wp_if (fun c2 => ?_) (fun c2 => ?_)
    · exact wp_some trivial
    · refine wp_if (fun c3 => ?_) (fun c3 => ?_)
      · exact wp_some trivial
      · refine wp_if (fun c4 => ?_) (fun c4 => ?_)
        · exact wp_some trivial
        · exact wp_some trivial
theorem T_Day_bodyHas_b3 (x1 : Int32) (x2 : Int32) (x3 : Int32) (M : Mem) (z : Int32) : wpO (F_Day_bodyHas_b3 x1 x2 x3 M z) (fun r => (match r with | .inl s => muU s < muU z | .inr r => (match r with | .inl s => True | .inr r => True))) := by
  unfold F_Day_bodyHas_b3
  refine wp_if (fun c1 => ?_) (fun c1 => ?_)
  · exact wp_some trivial
  · refine wp_if (fun c2 => ?_) (fun c2 => ?_)
    · exact wp_some trivial
    · refine wp_if (fun c3 => ?_) (fun c3 => ?_)
      · unfold F_Day_bodyHas_j38
        refine wp_bind (T_Row_at 74 9 (0 : Int32) M) (fun r2_282 hr2_282 => ?_)
        refine wp_bind (T_Row_at 74 9 z M) (fun r3_283 hr3_283 => ?_)
        refine wp_bind (T_Row_at 76 9 (0 : Int32) M) (fun r4_284 hr4_284 => ?_)
        refine wp_bind (T_Row_at 76 9 z M) (fun r5_285 hr5_285 => ?_)
        refine wp_bind (T_Row_at 74 9 z M) (fun r6_286 hr6_286 => ?_)
        refine wp_bind (T_Row_at 76 9 z M) (fun r7_287 hr7_287 => ?_)
        refine wp_if (fun c4 => ?_) (fun c4 => ?_)
        · exact wp_some (muU_le c1)
        · exact wp_some trivial
      · unfold F_Day_bodyHas_j38
        refine wp_bind (T_Row_at 74 9 (z + 1) M) (fun r2_288 hr2_288 => ?_)
        refine wp_bind (T_Row_at 74 9 z M) (fun r3_289 hr3_289 => ?_)
        refine wp_bind (T_Row_at 76 9 (z + 1) M) (fun r4_290 hr4_290 => ?_)
        refine wp_bind (T_Row_at 76 9 z M) (fun r5_291 hr5_291 => ?_)
        refine wp_bind (T_Row_at 74 9 z M) (fun r6_292 hr6_292 => ?_)
        refine wp_bind (T_Row_at 76 9 z M) (fun r7_293 hr7_293 => ?_)
        refine wp_if (fun c5 => ?_) (fun c5 => ?_)
        · exact wp_some (muU_le c1)
        · exact wp_some trivial
theorem T_Day_bodyHas (x1 : Int32) (x2 : Int32) (x3 : Int32) (M : Mem) : wpO (F_Day_bodyHas x1 x2 x3 M) (fun r => True) := by
  unfold F_Day_bodyHas
  unfold F_Day_bodyHas_l3
  refine wp_bind (Ψ := fun q_294 => (match q_294 with | .inl s => True | .inr r => True)) (wp_while (P := fun _ => True) (μ := fun w9 => muU w9) (fun w9 hz => wp_mono (T_Day_bodyHas_b3 x1 x2 x3 M w9) (fun x hx => ?_)) FUEL (0 : Int32) trivial (mu_fuel _)) ?_
  · rcases x with x | x
    · exact ⟨trivial, hx⟩
    · rcases x with x | x
      · trivial
      · trivial
  intro q_294 hq_294
  rcases q_294 with y1 | y1
  · exact wp_some trivial
  · unfold F_Day_bodyHas_j140
    refine wp_if (fun c2 => ?_) (fun c2 => ?_)
    · exact wp_some trivial
    · refine wp_bind (T_Day_isBetweenEnds x1 x2 x3 M) (fun r1_295 hr1_295 => ?_)
      refine wp_if (fun c3 => ?_) (fun c3 => ?_)
      · exact wp_some trivial
      · exact wp_some trivial
theorem T_Day_mustBeKept (x1 : Int32) (x2 : Int32) (x3 : Int32) (M : Mem) : wpO (F_Day_mustBeKept x1 x2 x3 M) (fun r => True) := by
  unfold F_Day_mustBeKept
  refine wp_bind (T_Day_leastOf 0 M) (fun r1 hr1 => ?_)
  refine wp_if (fun c1 => ?_) (fun c1 => ?_)
  · exact wp_some trivial
  · refine wp_bind (T_Day_leastOf 1 M) (fun r2 hr2 => ?_)
    refine wp_if (fun c2 => ?_) (fun c2 => ?_)
    · exact wp_some trivial
    · exact wp_some trivial
theorem T_Day_laterWorth (x1 : Int32) (M : Mem) : wpO (F_Day_laterWorth x1 M) (fun r => True) := by
  unfold F_Day_laterWorth
  refine wp_if (fun c1 => ?_) (fun c1 => ?_)
  · exact wp_some trivial
  · refine wp_bind (T_Row_at 78 10 x1 M) (fun r1 hr1 => ?_)
    refine wp_t (ne_toL c1) ?_
    exact wp_some trivial
theorem T_Day_mostOtherwise_b23 (x1 : Int32) (x2 : Int32) (x3 : Int32) (M : Mem) (z : Int32 × Int32) : wpO (F_Day_mostOtherwise_b23 x1 x2 x3 M z) (fun r => (match r with | .inl s => muU s.2 < muU z.2 | .inr r => True)) := by
  unfold F_Day_mostOtherwise_b23
  refine wp_if (fun c1 => ?_) (fun c1 => ?_)
  · exact wp_some trivial
  · refine wp_if (fun c2 => ?_) (fun c2 => ?_)
    · exact wp_some (muU_le c1)
    · refine wp_bind (T_Well_bringsOwn x1 z.2 x3 M) (fun r2 hr2 => ?_)
      refine wp_bind (T_Math_max_III z.1 r2 M) (fun r3 hr3 => ?_)
      exact wp_some (muU_le c1)
theorem T_Day_mostOtherwise (x1 : Int32) (x2 : Int32) (x3 : Int32) (M : Mem) : wpO (F_Day_mostOtherwise x1 x2 x3 M) (fun r => True) := by
  unfold F_Day_mostOtherwise
  refine wp_if (fun c1 => ?_) (fun c1 => ?_)
  · unfold F_Day_mostOtherwise_j14
    refine wp_bind (T_Well_bringsOwn x1 ((b2i true)) x3 M) (fun r1_296 hr1_296 => ?_)
    unfold F_Day_mostOtherwise_l23
    refine wp_bind (Ψ := fun r_297 => True) (wp_while (P := fun _ => True) (μ := fun w9 => muU w9.2) (fun w9 hz => wp_mono (T_Day_mostOtherwise_b23 x1 x2 x3 M w9) (fun x hx => ?_)) FUEL (r1_296, (0 : Int32)) trivial (mu_fuel _)) ?_
    · rcases x with x | x
      · exact ⟨trivial, hx⟩
      · trivial
    intro r_297 hr_297
    exact wp_some trivial
  · unfold F_Day_mostOtherwise_j14
    refine wp_bind (T_Well_bringsOwn x1 ((b2i false)) x3 M) (fun r1_298 hr1_298 => ?_)
    unfold F_Day_mostOtherwise_l23
    refine wp_bind (Ψ := fun r_299 => True) (wp_while (P := fun _ => True) (μ := fun w9 => muU w9.2) (fun w9 hz => wp_mono (T_Day_mostOtherwise_b23 x1 x2 x3 M w9) (fun x hx => ?_)) FUEL (r1_298, (0 : Int32)) trivial (mu_fuel _)) ?_
    · rcases x with x | x
      · exact ⟨trivial, hx⟩
      · trivial
    intro r_299 hr_299
    exact wp_some trivial
theorem T_Day_isThreatEnough_b215 (x1 : Int32) (x4 : Int32) (x5 : Int32) (x6 : Int32) (x7 : Int64) (x11 : Int64) (M : Mem) (z : Bool × Int32) (hp0 : x6 ≤ 9) : wpO (F_Day_isThreatEnough_b215 x1 x4 x5 x6 x7 x11 M z) (fun r => (match r with | .inl s => muU s.2 < muU z.2 | .inr r => True)) := by
  unfold F_Day_isThreatEnough_b215
  refine wp_if (fun c1 => ?_) (fun c1 => ?_)
  · exact wp_some trivial
  · refine wp_if (fun c2 => ?_) (fun c2 => ?_)
    · exact wp_some (muU_nl c1 (Int32.le_trans hp0 (by decide)))
    · refine wp_bind (T_Row_at 78 10 z.2 M) (fun r6 hr6 => ?_)
      refine wp_bind (T_Day_mostOtherwise x1 x4 x5 M) (fun r7 hr7 => ?_)
      refine wp_if (fun c3 => ?_) (fun c3 => ?_)
      · exact wp_some (muU_nl c1 (Int32.le_trans hp0 (by decide)))
      · exact wp_some (muU_nl c1 (Int32.le_trans hp0 (by decide)))
theorem T_Day_isThreatEnough_b124 (x1 : Int32) (x2 : Int32) (x3 : Int32) (x4 : Int32) (x5 : Int32) (x6 : Int32) (x7 : Int64) (z : Int32 × Mem) (hp0 : x6 ≤ 9) : wpO (F_Day_isThreatEnough_b124 x1 x2 x3 x4 x5 x6 x7 z) (fun r => (match r with | .inl s => Same (fun k => k = 78) z.2 s.2 ∧ muU s.1 < muU z.1 | .inr r => Same (fun k => k = 78) z.2 r)) := by
  unfold F_Day_isThreatEnough_b124
  refine wp_if (fun c1 => ?_) (fun c1 => ?_)
  · exact wp_some Same.rfl'
  · refine wp_bind (T_Well_bringsOwn x1 x4 x5 z.2) (fun r8 hr8 => ?_)
    refine wp_bind (T_Day_laterWorth (z.1 - 1) z.2) (fun r9 hr9 => ?_)
    refine wp_bind (T_Row_put 78 10 z.1 ((x7 * r8.toInt64) + r9) z.2) (fun r10 hr10 => ?_)
    have mr10 : Same (fun k => k = 78) z.2 r10 := hr10.mono (fun k hk => by first | omega | exact hk.elim | (dsimp only at hk ⊢; omega))
    exact wp_some ⟨mr10, (muU_nl c1 (Int32.le_trans hp0 (by decide)))⟩
theorem T_Day_isThreatEnough_b21 (x1 : Int32) (x2 : Int32) (x3 : Int32) (x4 : Int32) (x5 : Int32) (x6 : Int32) (M : Mem) (z : Int64 × Int32) : wpO (F_Day_isThreatEnough_b21 x1 x2 x3 x4 x5 x6 M z) (fun r => (match r with | .inl s => muU s.2 < muU z.2 | .inr r => True)) := by
  unfold F_Day_isThreatEnough_b21
  refine wp_if (fun c1 => ?_) (fun c1 => ?_)
  · exact wp_some trivial
  · exact wp_some (muU_nl c1 (by decide))
theorem T_Day_isThreatEnough (x1 : Int32) (x2 : Int32) (x3 : Int32) (x4 : Int32) (x5 : Int32) (x6 : Int32) (M : Mem) (hp0 : x6 ≤ 9) : wpO (F_Day_isThreatEnough x1 x2 x3 x4 x5 x6 M) (fun r => Same (fun k => k = 78) M r.2) := by
  unfold F_Day_isThreatEnough
  unfold F_Day_isThreatEnough_l21
  refine wp_bind (Ψ := fun r_300 => True) (wp_while (P := fun _ => True) (μ := fun w9 => muU w9.2) (fun w9 hz => wp_mono (T_Day_isThreatEnough_b21 x1 x2 x3 x4 x5 x6 M w9) (fun x hx => ?_)) FUEL ((((M.1 1 2) - (M.1 1 1)).toInt64), (0 : Int32)) trivial (mu_fuel _)) ?_
  · rcases x with x | x
    · exact ⟨trivial, hx⟩
    · trivial
  intro r_300 hr_300
  unfold F_Day_isThreatEnough_j47
  refine wp_if (fun c1 => ?_) (fun c1 => ?_)
  · refine wp_t (ne_toL (by intro q; rw [q] at c1; exact absurd c1 (by decide))) ?_
    unfold F_Day_isThreatEnough_j97
    refine wp_bind (T_Well_bringsOwn x1 x2 x3 M) (fun r1_301 hr1_301 => ?_)
    refine wp_bind (T_Row_put 78 10 0 (((r_300 / (((M.1 1 2) - (M.1 1 1)).toInt64)) * ((M.1 1 2).toInt64)) * r1_301.toInt64) M) (fun r2_302 hr2_302 => ?_)
    have mr2_302 : Same (fun k => k = 78) M r2_302 := hr2_302.mono (fun k hk => by first | omega | exact hk.elim | (dsimp only at hk ⊢; omega))
    unfold F_Day_isThreatEnough_l124
    refine wp_bind (Ψ := fun r_303 => Same (fun k => k = 78) M r_303) (wp_while (P := fun w9 => Same (fun k => k = 78) M w9.2) (μ := fun w9 => muU w9.1) (fun w9 hz => wp_mono (T_Day_isThreatEnough_b124 x1 x2 x3 x4 x5 x6 r_300 w9 (by first | decide | assumption | exact n32.mp (by assumption))) (fun x hx => ?_)) FUEL ((1 : Int32), r2_302) mr2_302 (mu_fuel _)) ?_
    · rcases x with x | x
      · exact ⟨hz.trans (hx.1.mono (fun k hk => by first | omega | exact hk.elim | (dsimp only at hk ⊢; omega))), hx.2⟩
      · exact hz.trans (hx.mono (fun k hk => by first | omega | exact hk.elim | (dsimp only at hk ⊢; omega)))
    intro r_303 hr_303
    unfold F_Day_isThreatEnough_j171
    refine wp_bind (T_Day_laterWorth x6 r_303) (fun r3_304 hr3_304 => ?_)
    refine wp_bind (T_Row_at 78 10 0 r_303) (fun r4_305 hr4_305 => ?_)
    refine wp_bind (T_Day_mostOtherwise x1 x2 x3 r_303) (fun r5_306 hr5_306 => ?_)
    refine wp_if (fun c2 => ?_) (fun c2 => ?_)
    · unfold F_Day_isThreatEnough_l215
      refine wp_bind (Ψ := fun r_307 => True) (wp_while (P := fun _ => True) (μ := fun w9 => muU w9.2) (fun w9 hz => wp_mono (T_Day_isThreatEnough_b215 x1 x4 x5 x6 r_300 r3_304 r_303 w9 (by first | decide | assumption | exact n32.mp (by assumption))) (fun x hx => ?_)) FUEL (false, (1 : Int32)) trivial (mu_fuel _)) ?_
      · rcases x with x | x
        · exact ⟨trivial, hx⟩
        · trivial
      intro r_307 hr_307
      unfold F_Day_isThreatEnough_j269
      refine wp_if (fun c3 => ?_) (fun c3 => ?_)
      · exact wp_some hr_303
      · exact wp_some hr_303
    · unfold F_Day_isThreatEnough_l215
      refine wp_bind (Ψ := fun r_308 => True) (wp_while (P := fun _ => True) (μ := fun w9 => muU w9.2) (fun w9 hz => wp_mono (T_Day_isThreatEnough_b215 x1 x4 x5 x6 r_300 r3_304 r_303 w9 (by first | decide | assumption | exact n32.mp (by assumption))) (fun x hx => ?_)) FUEL (true, (1 : Int32)) trivial (mu_fuel _)) ?_
      · rcases x with x | x
        · exact ⟨trivial, hx⟩
        · trivial
      intro r_308 hr_308
      unfold F_Day_isThreatEnough_j269
      refine wp_if (fun c4 => ?_) (fun c4 => ?_)
      · exact wp_some hr_303
      · exact wp_some hr_303
  · unfold F_Day_isThreatEnough_j97
    refine wp_bind (T_Well_bringsOwn x1 x2 x3 M) (fun r1_309 hr1_309 => ?_)
    refine wp_bind (T_Row_put 78 10 0 ((0 : Int64) * r1_309.toInt64) M) (fun r2_310 hr2_310 => ?_)
    have mr2_310 : Same (fun k => k = 78) M r2_310 := hr2_310.mono (fun k hk => by first | omega | exact hk.elim | (dsimp only at hk ⊢; omega))
    unfold F_Day_isThreatEnough_l124
    refine wp_bind (Ψ := fun r_311 => Same (fun k => k = 78) M r_311) (wp_while (P := fun w9 => Same (fun k => k = 78) M w9.2) (μ := fun w9 => muU w9.1) (fun w9 hz => wp_mono (T_Day_isThreatEnough_b124 x1 x2 x3 x4 x5 x6 r_300 w9 (by first | decide | assumption | exact n32.mp (by assumption))) (fun x hx => ?_)) FUEL ((1 : Int32), r2_310) mr2_310 (mu_fuel _)) ?_
    · rcases x with x | x
      · exact ⟨hz.trans (hx.1.mono (fun k hk => by first | omega | exact hk.elim | (dsimp only at hk ⊢; omega))), hx.2⟩
      · exact hz.trans (hx.mono (fun k hk => by first | omega | exact hk.elim | (dsimp only at hk ⊢; omega)))
    intro r_311 hr_311
    unfold F_Day_isThreatEnough_j171
    refine wp_bind (T_Day_laterWorth x6 r_311) (fun r3_312 hr3_312 => ?_)
    refine wp_bind (T_Row_at 78 10 0 r_311) (fun r4_313 hr4_313 => ?_)
    refine wp_bind (T_Day_mostOtherwise x1 x2 x3 r_311) (fun r5_314 hr5_314 => ?_)
    refine wp_if (fun c5 => ?_) (fun c5 => ?_)
    · unfold F_Day_isThreatEnough_l215
      refine wp_bind (Ψ := fun r_315 => True) (wp_while (P := fun _ => True) (μ := fun w9 => muU w9.2) (fun w9 hz => wp_mono (T_Day_isThreatEnough_b215 x1 x4 x5 x6 r_300 r3_312 r_311 w9 (by first | decide | assumption | exact n32.mp (by assumption))) (fun x hx => ?_)) FUEL (false, (1 : Int32)) trivial (mu_fuel _)) ?_
      · rcases x with x | x
        · exact ⟨trivial, hx⟩
        · trivial
      intro r_315 hr_315
      unfold F_Day_isThreatEnough_j269
      refine wp_if (fun c6 => ?_) (fun c6 => ?_)
      · exact wp_some hr_311
      · exact wp_some hr_311
    · unfold F_Day_isThreatEnough_l215
      refine wp_bind (Ψ := fun r_316 => True) (wp_while (P := fun _ => True) (μ := fun w9 => muU w9.2) (fun w9 hz => wp_mono (T_Day_isThreatEnough_b215 x1 x4 x5 x6 r_300 r3_312 r_311 w9 (by first | decide | assumption | exact n32.mp (by assumption))) (fun x hx => ?_)) FUEL (true, (1 : Int32)) trivial (mu_fuel _)) ?_
      · rcases x with x | x
        · exact ⟨trivial, hx⟩
        · trivial
      intro r_316 hr_316
      unfold F_Day_isThreatEnough_j269
      refine wp_if (fun c7 => ?_) (fun c7 => ?_)
      · exact wp_some hr_311
      · exact wp_some hr_311
theorem T_Day_fewestThreatDays_b3 (x1 : Int32) (x2 : Int32) (x3 : Int32) (x4 : Int32) (z : Int32 × Mem) : wpO (F_Day_fewestThreatDays_b3 x1 x2 x3 x4 z) (fun r => (match r with | .inl s => Same (fun k => k = 78) z.2 s.2 ∧ muU s.1 < muU z.1 | .inr r => (match r with | .inl s => Same (fun k => k = 78) z.2 s.2 | .inr r => Same (fun k => k = 78) z.2 r))) := by
  unfold F_Day_fewestThreatDays_b3
  refine wp_if (fun c1 => ?_) (fun c1 => ?_)
  · exact wp_some Same.rfl'
  · refine wp_bind (T_Day_isThreatEnough 0 x1 x2 x3 x4 z.1 z.2 (by first | decide | assumption | exact n32.mp (by assumption))) (fun r1 hr1 => ?_)
    have mr1 : Same (fun k => k = 78) z.2 r1.2 := hr1.mono (fun k hk => by first | omega | exact hk.elim | (dsimp only at hk ⊢; omega))
    refine wp_if (fun c2 => ?_) (fun c2 => ?_)
    · refine wp_bind (T_Day_isThreatEnough 1 x2 x1 x4 x3 z.1 r1.2 (by first | decide | assumption | exact n32.mp (by assumption))) (fun r2 hr2 => ?_)
      have mr2 : Same (fun k => k = 78) z.2 r2.2 := (mr1).trans (hr2.mono (fun k hk => by first | omega | exact hk.elim | (dsimp only at hk ⊢; omega)))
      refine wp_if (fun c3 => ?_) (fun c3 => ?_)
      · exact wp_some mr2
      · exact wp_some ⟨mr2, (muU_nl c1 (by decide))⟩
    · exact wp_some ⟨mr1, (muU_nl c1 (by decide))⟩
theorem T_Day_fewestThreatDays (x1 : Int32) (x2 : Int32) (x3 : Int32) (x4 : Int32) (M : Mem) : wpO (F_Day_fewestThreatDays x1 x2 x3 x4 M) (fun r => Same (fun k => k = 78) M r.2) := by
  unfold F_Day_fewestThreatDays
  unfold F_Day_fewestThreatDays_l3
  refine wp_bind (Ψ := fun q_317 => (match q_317 with | .inl s => Same (fun k => k = 78) M s.2 | .inr r => Same (fun k => k = 78) M r)) (wp_while (P := fun w9 => Same (fun k => k = 78) M w9.2) (μ := fun w9 => muU w9.1) (fun w9 hz => wp_mono (T_Day_fewestThreatDays_b3 x1 x2 x3 x4 w9) (fun x hx => ?_)) FUEL ((0 : Int32), M) Same.rfl' (mu_fuel _)) ?_
  · rcases x with x | x
    · exact ⟨hz.trans (hx.1.mono (fun k hk => by first | omega | exact hk.elim | (dsimp only at hk ⊢; omega))), hx.2⟩
    · rcases x with x | x
      · exact hz.trans (hx.mono (fun k hk => by first | omega | exact hk.elim | (dsimp only at hk ⊢; omega)))
      · exact hz.trans (hx.mono (fun k hk => by first | omega | exact hk.elim | (dsimp only at hk ⊢; omega)))
  intro q_317 hq_317
  rcases q_317 with y1 | y1
  · exact wp_some hq_317
  · exact wp_some hq_317
