theorem T_Bridge_tellEdge (o3 : Nat) (x1 : Int32) (x2 : Int32) (M : Mem) : wpO (F_Bridge_tellEdge o3 x1 x2 M) (fun r => Same (fun k => k = o3) M r) := by
  unfold F_Bridge_tellEdge
  refine wp_bind (T_Row_at 11 6 x1 M) (fun r1 hr1 => ?_)
  refine wp_bind (T_Row_at 13 6 x1 M) (fun r2 hr2 => ?_)
  refine wp_bind (T_Row_at 13 6 x1 M) (fun r3 hr3 => ?_)
  refine wp_if (fun c1 => ?_) (fun c1 => ?_)
  · refine wp_if (fun c2 => ?_) (fun c2 => ?_)
    · refine wp_bind (T_Fraction_be o3 (r1 - r2) (((x2 - 1).toInt64) * r3) M) (fun r4 hr4 => ?_)
      have mr4 : Same (fun k => k = o3) M r4 := hr4.mono (fun k hk => by first | omega | exact hk.elim | (dsimp only at hk ⊢; omega))
      exact wp_some mr4
    · refine wp_bind (T_Fraction_be o3 1 1 M) (fun r5 hr5 => ?_)
      have mr5 : Same (fun k => k = o3) M r5 := hr5.mono (fun k hk => by first | omega | exact hk.elim | (dsimp only at hk ⊢; omega))
      exact wp_some mr5
  · refine wp_bind (T_Fraction_be o3 0 1 M) (fun r6 hr6 => ?_)
    have mr6 : Same (fun k => k = o3) M r6 := hr6.mono (fun k hk => by first | omega | exact hk.elim | (dsimp only at hk ⊢; omega))
    exact wp_some mr6
theorem T_Bridge_weakest_b10 (z : Int32 × Int64 × Int64 × Int32 × Mem) : wpO (F_Bridge_weakest_b10 z) (fun r => (match r with | .inl s => Same (fun k => k = 92) z.2.2.2.2 s.2.2.2.2 ∧ muU s.2.2.2.1 < muU z.2.2.2.1 | .inr r => Same (fun k => k = 92) z.2.2.2.2 r.2)) := by
  unfold F_Bridge_weakest_b10
  refine wp_if (fun c1 => ?_) (fun c1 => ?_)
  · exact wp_some Same.rfl'
  · refine wp_bind (T_Bridge_tellEdge 92 z.2.2.2.1 (z.2.2.2.2.1 1 8) z.2.2.2.2) (fun r1 hr1 => ?_)
    have mr1 : Same (fun k => k = 92) z.2.2.2.2 r1 := hr1.mono (fun k hk => by first | omega | exact hk.elim | (dsimp only at hk ⊢; omega))
    refine wp_if (fun c2 => ?_) (fun c2 => ?_)
    · unfold F_Bridge_weakest_j67
      exact wp_some ⟨mr1, (muU_le c1)⟩
    · refine wp_if (fun c3 => ?_) (fun c3 => ?_)
      · exact wp_some ⟨mr1, (muU_le c1)⟩
      · unfold F_Bridge_weakest_j67
        exact wp_some ⟨mr1, (muU_le c1)⟩
theorem T_Bridge_weakest (M : Mem) : wpO (F_Bridge_weakest M) (fun r => Same (fun k => k = 92) M r.2) := by
  unfold F_Bridge_weakest
  unfold F_Bridge_weakest_l10
  refine wp_bind (Ψ := fun r_397 => Same (fun k => k = 92) M r_397.2) (wp_while (P := fun w9 => Same (fun k => k = 92) M w9.2.2.2.2) (μ := fun w9 => muU w9.2.2.2.1) (fun w9 hz => wp_mono (T_Bridge_weakest_b10  w9) (fun x hx => ?_)) FUEL ((-1 : Int32), (0 : Int64), (1 : Int64), (0 : Int32), M) Same.rfl' (mu_fuel _)) ?_
  · rcases x with x | x
    · exact ⟨hz.trans (hx.1.mono (fun k hk => by first | omega | exact hk.elim | (dsimp only at hk ⊢; omega))), hx.2⟩
    · exact hz.trans (hx.mono (fun k hk => by first | omega | exact hk.elim | (dsimp only at hk ⊢; omega)))
  intro r_397 hr_397
  exact wp_some hr_397
theorem T_Integer_bitCount (x0 : Int32) (M : Mem) : wpO (F_Integer_bitCount x0 M) (fun r => True) := by
  unfold F_Integer_bitCount
  exact wp_some trivial
theorem T_Bridge_isHeldWithout_b15 (x1 : Int32) (x2 : Int32) (z : Int32 × Mem) : wpO (F_Bridge_isHeldWithout_b15 x1 x2 z) (fun r => (match r with | .inl s => Same (fun k => k = 92) z.2 s.2 ∧ muU s.1 < muU z.1 | .inr r => (match r with | .inl s => Same (fun k => k = 92) z.2 s | .inr r => Same (fun k => k = 92) z.2 r))) := by
  unfold F_Bridge_isHeldWithout_b15
  refine wp_if (fun c1 => ?_) (fun c1 => ?_)
  · exact wp_some Same.rfl'
  · refine wp_if (fun c2 => ?_) (fun c2 => ?_)
    · refine wp_bind (T_Bridge_tellEdge 92 z.1 x2 z.2) (fun r2 hr2 => ?_)
      have mr2 : Same (fun k => k = 92) z.2 r2 := hr2.mono (fun k hk => by first | omega | exact hk.elim | (dsimp only at hk ⊢; omega))
      refine wp_if (fun c3 => ?_) (fun c3 => ?_)
      · exact wp_some ⟨mr2, (muU_le c1)⟩
      · exact wp_some mr2
    · exact wp_some ⟨Same.rfl', (muU_le c1)⟩
theorem T_Bridge_isHeldWithout (x1 : Int32) (M : Mem) : wpO (F_Bridge_isHeldWithout x1 M) (fun r => Same (fun k => k = 92) M r.2) := by
  unfold F_Bridge_isHeldWithout
  refine wp_bind (T_Integer_bitCount x1 M) (fun r1 hr1 => ?_)
  unfold F_Bridge_isHeldWithout_l15
  refine wp_bind (Ψ := fun q_398 => (match q_398 with | .inl s => Same (fun k => k = 92) M s | .inr r => Same (fun k => k = 92) M r)) (wp_while (P := fun w9 => Same (fun k => k = 92) M w9.2) (μ := fun w9 => muU w9.1) (fun w9 hz => wp_mono (T_Bridge_isHeldWithout_b15 x1 ((M.1 1 8) - r1) w9) (fun x hx => ?_)) FUEL ((0 : Int32), M) Same.rfl' (mu_fuel _)) ?_
  · rcases x with x | x
    · exact ⟨hz.trans (hx.1.mono (fun k hk => by first | omega | exact hk.elim | (dsimp only at hk ⊢; omega))), hx.2⟩
    · rcases x with x | x
      · exact hz.trans (hx.mono (fun k hk => by first | omega | exact hk.elim | (dsimp only at hk ⊢; omega)))
      · exact hz.trans (hx.mono (fun k hk => by first | omega | exact hk.elim | (dsimp only at hk ⊢; omega)))
  intro q_398 hq_398
  rcases q_398 with y1 | y1
  · exact wp_some hq_398
  · exact wp_some hq_398
theorem T_Bridge_fewestOut_b16 (z : Int32 × Int32 × Mem) : wpO (F_Bridge_fewestOut_b16 z) (fun r => (match r with | .inl s => Same (fun k => k = 92) z.2.2 s.2.2 ∧ muD s.2.1 < muD z.2.1 | .inr r => Same (fun k => k = 92) z.2.2 r.2)) := by
  obtain ⟨z_1, z_2, z_3⟩ := z
  unfold F_Bridge_fewestOut_b16
  dsimp only
  refine wp_if (fun c1 => ?_) (fun c1 => ?_)
  · exact wp_some Same.rfl'
  · refine wp_bind (T_Integer_bitCount z_2 z_3) (fun r1 hr1 => ?_)
    refine wp_bind (T_Integer_bitCount z_1 z_3) (fun r2 hr2 => ?_)
    refine wp_if (fun c2 => ?_) (fun c2 => ?_)
    · exact wp_some ⟨Same.rfl', (muD_0 c1)⟩
    · refine wp_bind (T_Bridge_isHeldWithout z_2 z_3) (fun r3 hr3 => ?_)
      have mr3 : Same (fun k => k = 92) z_3 r3.2 := hr3.mono (fun k hk => by first | omega | exact hk.elim | (dsimp only at hk ⊢; omega))
      refine wp_if (fun c3 => ?_) (fun c3 => ?_)
      · exact wp_some ⟨mr3, (muD_0 c1)⟩
      · exact wp_some ⟨mr3, (muD_0 c1)⟩
theorem T_Bridge_fewestOut (M : Mem) : wpO (F_Bridge_fewestOut M) (fun r => Same (fun k => k = 92) M r.2) := by
  unfold F_Bridge_fewestOut
  unfold F_Bridge_fewestOut_l16
  refine wp_bind (Ψ := fun r_399 => Same (fun k => k = 92) M r_399.2) (wp_while (P := fun w9 => Same (fun k => k = 92) M w9.2.2) (μ := fun w9 => muD w9.2.1) (fun w9 hz => wp_mono (T_Bridge_fewestOut_b16  w9) (fun x hx => ?_)) FUEL (((1 <<< ((M.1 1 8) &&& 31)) - 1), ((1 <<< ((M.1 1 8) &&& 31)) - 1), M) Same.rfl' (muD_fuel _)) ?_
  · rcases x with x | x
    · exact ⟨hz.trans (hx.1.mono (fun k hk => by first | omega | exact hk.elim | (dsimp only at hk ⊢; omega))), hx.2⟩
    · exact hz.trans (hx.mono (fun k hk => by first | omega | exact hk.elim | (dsimp only at hk ⊢; omega)))
  intro r_399 hr_399
  exact wp_some hr_399
