theorem T_Answer_bringsIn (x1 : Int32) (x2 : Int32) (M : Mem) : wpO (F_Answer_bringsIn x1 x2 M) (fun r => True) := by
  unfold F_Answer_bringsIn
  refine wp_bind (T_Well_actOf (M.1 52 4) x1 M) (fun r1 hr1 => ?_)
  refine wp_bind (T_Well_bringsOwn (M.1 52 3) x2 r1 M) (fun r2 hr2 => ?_)
  exact wp_some trivial
theorem T_Answer_reckon_b9 (z : Int32 × Mem) : wpO (F_Answer_reckon_b9 z) (fun r => (match r with | .inl s => Same (fun k => (55 ≤ k ∧ k ≤ 57)) z.2 s.2 ∧ muU s.1 < muU z.1 | .inr r => Same (fun k => (55 ≤ k ∧ k ≤ 57)) z.2 r)) := by
  unfold F_Answer_reckon_b9
  refine wp_if (fun c1 => ?_) (fun c1 => ?_)
  · exact wp_some Same.rfl'
  · refine wp_bind (T_Row_small 67 3 z.1 z.2) (fun r3 hr3 => ?_)
    refine wp_bind (T_Well_nextOf (z.2.1 52 4) z.1 r3 z.2) (fun r4 hr4 => ?_)
    refine wp_bind (T_Answer_bringsIn z.1 r3 z.2) (fun r5 hr5 => ?_)
    refine wp_bind (T_Chain_put 53 z.1 r4 r5 0 z.2) (fun r6 hr6 => ?_)
    have mr6 : Same (fun k => (55 ≤ k ∧ k ≤ 57)) z.2 r6 := hr6.mono (fun k hk => by first | omega | exact hk.elim | (dsimp only at hk ⊢; omega))
    exact wp_some ⟨mr6, (muU_le c1)⟩
theorem T_Answer_reckon (M : Mem) : wpO (F_Answer_reckon M) (fun r => Same (fun k => (53 ≤ k ∧ k ≤ 65)) M r) := by
  unfold F_Answer_reckon
  refine wp_bind (T_Chain_clear 53 M) (fun r1 hr1 => ?_)
  have mr1 : Same (fun k => (53 ≤ k ∧ k ≤ 65)) M r1 := hr1.mono (fun k hk => by first | omega | exact hk.elim | (dsimp only at hk ⊢; omega))
  unfold F_Answer_reckon_l9
  refine wp_bind (Ψ := fun r_228 => Same (fun k => (53 ≤ k ∧ k ≤ 65)) M r_228) (wp_while (P := fun w9 => Same (fun k => (53 ≤ k ∧ k ≤ 65)) M w9.2) (μ := fun w9 => muU w9.1) (fun w9 hz => wp_mono (T_Answer_reckon_b9  w9) (fun x hx => ?_)) FUEL ((0 : Int32), r1) mr1 (mu_fuel _)) ?_
  · rcases x with x | x
    · exact ⟨hz.trans (hx.1.mono (fun k hk => by first | omega | exact hk.elim | (dsimp only at hk ⊢; omega))), hx.2⟩
    · exact hz.trans (hx.mono (fun k hk => by first | omega | exact hk.elim | (dsimp only at hk ⊢; omega)))
  intro r_228 hr_228
  unfold F_Answer_reckon_j60
  refine wp_bind (T_Chain_reckon 53 ((r_228.1 1 1).toInt64) ((r_228.1 1 2).toInt64) r_228) (fun r2_229 hr2_229 => ?_)
  have mr2_229 : Same (fun k => (53 ≤ k ∧ k ≤ 65)) M r2_229 := (hr_228).trans (hr2_229.mono (fun k hk => by first | omega | exact hk.elim | (dsimp only at hk ⊢; omega)))
  exact wp_some mr2_229
theorem T_Answer_orderOf (x1 : Int32) (x2 : Int32) (M : Mem) : wpO (F_Answer_orderOf x1 x2 M) (fun r => True) := by
  unfold F_Answer_orderOf
  refine wp_bind (T_Answer_bringsIn x1 x2 M) (fun r1 hr1 => ?_)
  refine wp_bind (T_Well_nextOf (M.1 52 4) x1 x2 M) (fun r2 hr2 => ?_)
  refine wp_bind (T_Chain_orderOf 53 r1 r2 0 x1 M) (fun r3 hr3 => ?_)
  exact wp_some trivial
theorem T_Answer_isBettered_b14 (x2 : Int32) (z : Bool × Int32 × Mem) : wpO (F_Answer_isBettered_b14 x2 z) (fun r => (match r with | .inl s => Same (fun k => k = 67) z.2.2 s.2.2 ∧ muU s.2.1 < muU z.2.1 | .inr r => Same (fun k => k = 67) z.2.2 r.2)) := by
  unfold F_Answer_isBettered_b14
  refine wp_if (fun c1 => ?_) (fun c1 => ?_)
  · exact wp_some Same.rfl'
  · refine wp_bind (T_Answer_orderOf x2 z.2.1 z.2.2) (fun r1 hr1 => ?_)
    refine wp_if (fun c2 => ?_) (fun c2 => ?_)
    · exact wp_some ⟨Same.rfl', (muU_le c1)⟩
    · refine wp_bind (T_Row_put 67 3 x2 z.2.1.toInt64 z.2.2) (fun r2 hr2 => ?_)
      have mr2 : Same (fun k => k = 67) z.2.2 r2 := hr2.mono (fun k hk => by first | omega | exact hk.elim | (dsimp only at hk ⊢; omega))
      exact wp_some ⟨mr2, (muU_le c1)⟩
theorem T_Answer_isBettered_b4 (z : Bool × Int32 × Mem) : wpO (F_Answer_isBettered_b4 z) (fun r => (match r with | .inl s => Same (fun k => k = 67) z.2.2 s.2.2 ∧ muU s.2.1 < muU z.2.1 | .inr r => Same (fun k => k = 67) z.2.2 r.2)) := by
  unfold F_Answer_isBettered_b4
  refine wp_if (fun c1 => ?_) (fun c1 => ?_)
  · exact wp_some Same.rfl'
  · unfold F_Answer_isBettered_l14
    refine wp_bind (Ψ := fun r_231 => Same (fun k => k = 67) z.2.2 r_231.2) (wp_while (P := fun w9 => Same (fun k => k = 67) z.2.2 w9.2.2) (μ := fun w9 => muU w9.2.1) (fun w9 hz => wp_mono (T_Answer_isBettered_b14 z.2.1 w9) (fun x hx => ?_)) FUEL (z.1, (0 : Int32), z.2.2) Same.rfl' (mu_fuel _)) ?_
    · rcases x with x | x
      · exact ⟨hz.trans (hx.1.mono (fun k hk => by first | omega | exact hk.elim | (dsimp only at hk ⊢; omega))), hx.2⟩
      · exact hz.trans (hx.mono (fun k hk => by first | omega | exact hk.elim | (dsimp only at hk ⊢; omega)))
    intro r_231 hr_231
    exact wp_some ⟨hr_231, (muU_le c1)⟩
theorem T_Answer_isBettered (M : Mem) : wpO (F_Answer_isBettered M) (fun r => Same (fun k => k = 67) M r.2) := by
  unfold F_Answer_isBettered
  unfold F_Answer_isBettered_l4
  refine wp_bind (Ψ := fun r_232 => Same (fun k => k = 67) M r_232.2) (wp_while (P := fun w9 => Same (fun k => k = 67) M w9.2.2) (μ := fun w9 => muU w9.2.1) (fun w9 hz => wp_mono (T_Answer_isBettered_b4  w9) (fun x hx => ?_)) FUEL (false, (0 : Int32), M) Same.rfl' (mu_fuel _)) ?_
  · rcases x with x | x
    · exact ⟨hz.trans (hx.1.mono (fun k hk => by first | omega | exact hk.elim | (dsimp only at hk ⊢; omega))), hx.2⟩
    · exact hz.trans (hx.mono (fun k hk => by first | omega | exact hk.elim | (dsimp only at hk ⊢; omega)))
  intro r_232 hr_232
  exact wp_some hr_232
theorem T_Answer_look_b43 (z : Int32 × Mem) : wpO (F_Answer_look_b43 z) (fun r => (match r with | .inl s => Same (fun k => (53 ≤ k ∧ k ≤ 67)) z.2 s.2 ∧ muU s.1 < muU z.1 | .inr r => Same (fun k => (53 ≤ k ∧ k ≤ 67)) z.2 r)) := by
  unfold F_Answer_look_b43
  refine wp_if (fun c1 => ?_) (fun c1 => ?_)
  · exact wp_some Same.rfl'
  · refine wp_bind (T_Answer_isBettered z.2) (fun r5 hr5 => ?_)
    have mr5 : Same (fun k => (53 ≤ k ∧ k ≤ 67)) z.2 r5.2 := hr5.mono (fun k hk => by first | omega | exact hk.elim | (dsimp only at hk ⊢; omega))
    refine wp_if (fun c2 => ?_) (fun c2 => ?_)
    · refine wp_bind (T_Answer_reckon r5.2) (fun r6 hr6 => ?_)
      have mr6 : Same (fun k => (53 ≤ k ∧ k ≤ 67)) z.2 r6 := (mr5).trans (hr6.mono (fun k hk => by first | omega | exact hk.elim | (dsimp only at hk ⊢; omega)))
      exact wp_some ⟨mr6, (muU_le c1)⟩
    · exact wp_some mr5
theorem T_Answer_look (x1 : Int32) (x2 : Int32) (M : Mem) : wpO (F_Answer_look x1 x2 M) (fun r => Same (fun k => (52 ≤ k ∧ k ≤ 67)) M r) := by
  unfold F_Answer_look
  refine wp_bind (T_Well_moodsOf ((mSI (mSI M 52 3 x1) 52 4 x2).1 52 4) (mSI (mSI M 52 3 x1) 52 4 x2)) (fun r1 hr1 => ?_)
  refine wp_bind (T_Math_min_III r1 3 (mSI (mSI M 52 3 x1) 52 4 x2)) (fun r2 hr2 => ?_)
  refine wp_bind (T_Row_setAll 67 3 0 (mSI (mSI (mSI M 52 3 x1) 52 4 x2) 52 5 r2)) (fun r3 hr3 => ?_)
  have mr3 : Same (fun k => (52 ≤ k ∧ k ≤ 67)) M r3 := (((((((Same.rfl').sI (by first | omega | (dsimp only; omega)))).sI (by first | omega | (dsimp only; omega)))).sI (by first | omega | (dsimp only; omega)))).trans (hr3.mono (fun k hk => by first | omega | exact hk.elim | (dsimp only at hk ⊢; omega)))
  refine wp_bind (T_Answer_reckon r3) (fun r4 hr4 => ?_)
  have mr4 : Same (fun k => (52 ≤ k ∧ k ≤ 67)) M r4 := (mr3).trans (hr4.mono (fun k hk => by first | omega | exact hk.elim | (dsimp only at hk ⊢; omega)))
  unfold F_Answer_look_l43
  refine wp_bind (Ψ := fun r_233 => Same (fun k => (52 ≤ k ∧ k ≤ 67)) M r_233) (wp_while (P := fun w9 => Same (fun k => (52 ≤ k ∧ k ≤ 67)) M w9.2) (μ := fun w9 => muU w9.1) (fun w9 hz => wp_mono (T_Answer_look_b43  w9) (fun x hx => ?_)) FUEL ((0 : Int32), r4) mr4 (mu_fuel _)) ?_
  · rcases x with x | x
    · exact ⟨hz.trans (hx.1.mono (fun k hk => by first | omega | exact hk.elim | (dsimp only at hk ⊢; omega))), hx.2⟩
    · exact hz.trans (hx.mono (fun k hk => by first | omega | exact hk.elim | (dsimp only at hk ⊢; omega)))
  intro r_233 hr_233
  exact wp_some hr_233
theorem T_Answer_actIn_b2 (x1 : Int32) (M : Mem) (z : Int32) : wpO (F_Answer_actIn_b2 x1 M z) (fun r => (match r with | .inl s => muU s < muU z | .inr r => (match r with | .inl s => True | .inr r => True))) := by
  unfold F_Answer_actIn_b2
  refine wp_if (fun c1 => ?_) (fun c1 => ?_)
  · exact wp_some trivial
  · refine wp_bind (T_Answer_orderOf x1 z M) (fun r2 hr2 => ?_)
    refine wp_if (fun c2 => ?_) (fun c2 => ?_)
    · exact wp_some trivial
    · exact wp_some (muU_le c1)
theorem T_Answer_actIn (x1 : Int32) (M : Mem) : wpO (F_Answer_actIn x1 M) (fun r => True) := by
  unfold F_Answer_actIn
  unfold F_Answer_actIn_l2
  refine wp_bind (Ψ := fun q_234 => (match q_234 with | .inl s => True | .inr r => True)) (wp_while (P := fun _ => True) (μ := fun w9 => muU w9) (fun w9 hz => wp_mono (T_Answer_actIn_b2 x1 M w9) (fun x hx => ?_)) FUEL (0 : Int32) trivial (mu_fuel _)) ?_
  · rcases x with x | x
    · exact ⟨trivial, hx⟩
    · rcases x with x | x
      · trivial
      · trivial
  intro q_234 hq_234
  rcases q_234 with y1 | y1
  · exact wp_some trivial
  · unfold F_Answer_actIn_j30
    refine wp_bind (T_Row_small 67 3 x1 M) (fun r1_235 hr1_235 => ?_)
    exact wp_some trivial
theorem T_Answer_tellWorth (o2 : Nat) (x1 : Int32) (M : Mem) : wpO (F_Answer_tellWorth o2 x1 M) (fun r => Same (fun k => k = o2) M r) := by
  unfold F_Answer_tellWorth
  refine wp_bind (T_Chain_tellWorth 53 o2 x1 0 M) (fun r1 hr1 => ?_)
  have mr1 : Same (fun k => k = o2) M r1 := hr1.mono (fun k hk => by first | omega | exact hk.elim | (dsimp only at hk ⊢; omega))
  exact wp_some mr1
theorem T_Math_max_III (x0 : Int32) (x1 : Int32) (M : Mem) : wpO (F_Math_max_III x0 x1 M) (fun r => True) := by
  unfold F_Math_max_III
  refine wp_if (fun c1 => ?_) (fun c1 => ?_)
  · exact wp_some trivial
  · exact wp_some trivial
