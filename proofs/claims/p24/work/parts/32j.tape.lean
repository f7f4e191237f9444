theorem T_Tape_hasRoom (M : Mem) : wpO (F_Tape_hasRoom M) (fun r => True) := by
  unfold F_Tape_hasRoom
  refine wp_if (fun c1 => ?_) (fun c1 => ?_)
  · exact wp_some trivial
  · exact wp_some trivial
theorem T_Tape_append_b3 (x1 : Int32) (z : Int32 × Mem) : wpO (F_Tape_append_b3 x1 z) (fun r => (match r with | .inl s => Same (fun k => (27 ≤ k ∧ k ≤ 29)) z.2 s.2 ∧ muD s.1 < muD z.1 | .inr r => Same (fun k => (27 ≤ k ∧ k ≤ 29)) z.2 r)) := by
  obtain ⟨z_1, z_2⟩ := z
  unfold F_Tape_append_b3
  dsimp only
  refine wp_if (fun c1 => ?_) (fun c1 => ?_)
  · exact wp_some Same.rfl'
  · refine wp_bind (T_Row_put 29 400 (z_2.1 27 1) (((ush x1 z_1) &&& 255).toInt64) z_2) (fun r1 hr1 => ?_)
    have mr1 : Same (fun k => (27 ≤ k ∧ k ≤ 29)) z_2 r1 := hr1.mono (fun k hk => by first | omega | exact hk.elim | (dsimp only at hk ⊢; omega))
    exact wp_some ⟨((mr1).sI (by first | omega | (dsimp only; omega))), (muD_08 c1)⟩
theorem T_Tape_append (x1 : Int32) (M : Mem) : wpO (F_Tape_append x1 M) (fun r => Same (fun k => (27 ≤ k ∧ k ≤ 29)) M r) := by
  unfold F_Tape_append
  unfold F_Tape_append_l3
  refine wp_bind (Ψ := fun r_400 => Same (fun k => (27 ≤ k ∧ k ≤ 29)) M r_400) (wp_while (P := fun w9 => Same (fun k => (27 ≤ k ∧ k ≤ 29)) M w9.2) (μ := fun w9 => muD w9.1) (fun w9 hz => wp_mono (T_Tape_append_b3 x1 w9) (fun x hx => ?_)) FUEL ((24 : Int32), M) Same.rfl' (muD_fuel _)) ?_
  · rcases x with x | x
    · exact ⟨hz.trans (hx.1.mono (fun k hk => by first | omega | exact hk.elim | (dsimp only at hk ⊢; omega))), hx.2⟩
    · exact hz.trans (hx.mono (fun k hk => by first | omega | exact hk.elim | (dsimp only at hk ⊢; omega)))
  intro r_400 hr_400
  exact wp_some hr_400
theorem T_Tape_byteAt (x1 : Int32) (M : Mem) : wpO (F_Tape_byteAt x1 M) (fun r => True) := by
  unfold F_Tape_byteAt
  refine wp_if (fun c1 => ?_) (fun c1 => ?_)
  · exact wp_some trivial
  · refine wp_bind (T_Row_small 29 400 x1 M) (fun r1 hr1 => ?_)
    exact wp_some trivial
theorem T_Tape_isRowOfDays_b2 (M : Mem) (z : Int32) : wpO (F_Tape_isRowOfDays_b2 M z) (fun r => (match r with | .inl s => muU s < muU z | .inr r => (match r with | .inl s => True | .inr r => True))) := by
  unfold F_Tape_isRowOfDays_b2
  refine wp_if (fun c1 => ?_) (fun c1 => ?_)
  · exact wp_some trivial
  · refine wp_bind (T_Tape_byteAt z M) (fun r1 hr1 => ?_)
    refine wp_if (fun c2 => ?_) (fun c2 => ?_)
    · exact wp_some (muU_le c1)
    · exact wp_some trivial
theorem T_Tape_isRowOfDays (M : Mem) : wpO (F_Tape_isRowOfDays M) (fun r => True) := by
  unfold F_Tape_isRowOfDays
  unfold F_Tape_isRowOfDays_l2
  refine wp_bind (Ψ := fun q_401 => (match q_401 with | .inl s => True | .inr r => True)) (wp_while (P := fun _ => True) (μ := fun w9 => muU w9) (fun w9 hz => wp_mono (T_Tape_isRowOfDays_b2 M w9) (fun x hx => ?_)) FUEL (0 : Int32) trivial (mu_fuel _)) ?_
  · rcases x with x | x
    · exact ⟨trivial, hx⟩
    · rcases x with x | x
      · trivial
      · trivial
  intro q_401 hq_401
  rcases q_401 with y1 | y1
  · exact wp_some trivial
  · unfold F_Tape_isRowOfDays_j27
    refine wp_if (fun c2 => ?_) (fun c2 => ?_)
    · exact wp_some trivial
    · exact wp_some trivial
theorem T_Tape_isLetter (x1 : Int32) (M : Mem) : wpO (F_Tape_isLetter x1 M) (fun r => True) := by
  unfold F_Tape_isLetter
  refine wp_if (fun c1 => ?_) (fun c1 => ?_)
  · exact wp_some trivial
  · refine wp_if (fun c2 => ?_) (fun c2 => ?_)
    · exact wp_some trivial
    · exact wp_some trivial
theorem T_Tape_isFigure (x1 : Int32) (M : Mem) : wpO (F_Tape_isFigure x1 M) (fun r => True) := by
  unfold F_Tape_isFigure
  refine wp_if (fun c1 => ?_) (fun c1 => ?_)
  · exact wp_some trivial
  · refine wp_if (fun c2 => ?_) (fun c2 => ?_)
    · exact wp_some trivial
    · exact wp_some trivial
theorem T_Tape_step_b156 (z : Mem) : wpO (F_Tape_step_b156 z) (fun r => (match r with | .inl s => Same (fun k => k = 27) z s ∧ muT6 s < muT6 z | .inr r => Same (fun k => k = 27) z r)) := by
  unfold F_Tape_step_b156
  refine wp_if (fun c1 => ?_) (fun c1 => ?_)
  · exact wp_some Same.rfl'
  · refine wp_bind (T_Tape_byteAt (z.1 27 6) z) (fun r7 hr7 => ?_)
    refine wp_bind (T_Tape_isFigure r7 z) (fun r8 hr8 => ?_)
    refine wp_if (fun c2 => ?_) (fun c2 => ?_)
    · exact wp_some ⟨((Same.rfl').sI (by first | omega | (dsimp only; omega))), (muT6_s c1)⟩
    · exact wp_some Same.rfl'
theorem T_Tape_step_b97 (z : Mem) : wpO (F_Tape_step_b97 z) (fun r => (match r with | .inl s => Same (fun k => k = 27) z s ∧ muT6 s < muT6 z | .inr r => Same (fun k => k = 27) z r)) := by
  unfold F_Tape_step_b97
  refine wp_if (fun c1 => ?_) (fun c1 => ?_)
  · exact wp_some Same.rfl'
  · refine wp_bind (T_Tape_byteAt (z.1 27 6) z) (fun r9 hr9 => ?_)
    refine wp_bind (T_Tape_isLetter r9 z) (fun r10 hr10 => ?_)
    refine wp_if (fun c2 => ?_) (fun c2 => ?_)
    · exact wp_some ⟨((Same.rfl').sI (by first | omega | (dsimp only; omega))), (muT6_s c1)⟩
    · exact wp_some Same.rfl'
theorem T_Tape_step_b8 (z : Mem) : wpO (F_Tape_step_b8 z) (fun r => (match r with | .inl s => Same (fun k => k = 27) z s ∧ muT5 s < muT5 z | .inr r => Same (fun k => k = 27) z r)) := by
  unfold F_Tape_step_b8
  refine wp_if (fun c1 => ?_) (fun c1 => ?_)
  · exact wp_some Same.rfl'
  · refine wp_bind (T_Tape_byteAt (z.1 27 5) z) (fun r11 hr11 => ?_)
    refine wp_if (fun c2 => ?_) (fun c2 => ?_)
    · exact wp_some ⟨((Same.rfl').sI (by first | omega | (dsimp only; omega))), (muT5_s c1)⟩
    · exact wp_some Same.rfl'
theorem T_Tape_step (M : Mem) : wpO (F_Tape_step M) (fun r => Same (fun k => k = 27) M r) := by
  unfold F_Tape_step
  unfold F_Tape_step_l8
  refine wp_bind (Ψ := fun r_402 => Same (fun k => k = 27) M r_402) (wp_while (P := fun w9 => Same (fun k => k = 27) M w9) (μ := fun w9 => muT5 w9) (fun w9 hz => wp_mono (T_Tape_step_b8  w9) (fun x hx => ?_)) FUEL (mSI M 27 5 (M.1 27 6)) ((Same.rfl').sI (by first | omega | (dsimp only; omega))) (muT5_f _)) ?_
  · rcases x with x | x
    · exact ⟨hz.trans (hx.1.mono (fun k hk => by first | omega | exact hk.elim | (dsimp only at hk ⊢; omega))), hx.2⟩
    · exact hz.trans (hx.mono (fun k hk => by first | omega | exact hk.elim | (dsimp only at hk ⊢; omega)))
  intro r_402 hr_402
  unfold F_Tape_step_j45
  refine wp_if (fun c1 => ?_) (fun c1 => ?_)
  · refine wp_bind (T_Tape_byteAt ((mSI (mSI r_402 27 6 (r_402.1 27 5)) 27 7 ((-1))).1 27 5) (mSI (mSI r_402 27 6 (r_402.1 27 5)) 27 7 ((-1)))) (fun r1_403 hr1_403 => ?_)
    refine wp_bind (T_Tape_isLetter r1_403 (mSI (mSI r_402 27 6 (r_402.1 27 5)) 27 7 ((-1)))) (fun r2_404 hr2_404 => ?_)
    refine wp_if (fun c2 => ?_) (fun c2 => ?_)
    · unfold F_Tape_step_l97
      refine wp_bind (Ψ := fun r_408 => Same (fun k => k = 27) M r_408) (wp_while (P := fun w9 => Same (fun k => k = 27) M w9) (μ := fun w9 => muT6 w9) (fun w9 hz => wp_mono (T_Tape_step_b97  w9) (fun x hx => ?_)) FUEL (mSI (mSI (mSI r_402 27 6 (r_402.1 27 5)) 27 7 ((-1))) 27 4 1) ((((((hr_402).sI (by first | omega | (dsimp only; omega)))).sI (by first | omega | (dsimp only; omega)))).sI (by first | omega | (dsimp only; omega))) (muT6_f _)) ?_
      · rcases x with x | x
        · exact ⟨hz.trans (hx.1.mono (fun k hk => by first | omega | exact hk.elim | (dsimp only at hk ⊢; omega))), hx.2⟩
        · exact hz.trans (hx.mono (fun k hk => by first | omega | exact hk.elim | (dsimp only at hk ⊢; omega)))
      intro r_408 hr_408
      exact wp_some hr_408
    · refine wp_bind (T_Tape_byteAt ((mSI (mSI r_402 27 6 (r_402.1 27 5)) 27 7 ((-1))).1 27 5) (mSI (mSI r_402 27 6 (r_402.1 27 5)) 27 7 ((-1)))) (fun r3_405 hr3_405 => ?_)
      refine wp_bind (T_Tape_isFigure r3_405 (mSI (mSI r_402 27 6 (r_402.1 27 5)) 27 7 ((-1)))) (fun r4_406 hr4_406 => ?_)
      refine wp_if (fun c3 => ?_) (fun c3 => ?_)
      · unfold F_Tape_step_l156
        refine wp_bind (Ψ := fun r_409 => Same (fun k => k = 27) M r_409) (wp_while (P := fun w9 => Same (fun k => k = 27) M w9) (μ := fun w9 => muT6 w9) (fun w9 hz => wp_mono (T_Tape_step_b156  w9) (fun x hx => ?_)) FUEL (mSI (mSI (mSI r_402 27 6 (r_402.1 27 5)) 27 7 ((-1))) 27 4 2) ((((((hr_402).sI (by first | omega | (dsimp only; omega)))).sI (by first | omega | (dsimp only; omega)))).sI (by first | omega | (dsimp only; omega))) (muT6_f _)) ?_
        · rcases x with x | x
          · exact ⟨hz.trans (hx.1.mono (fun k hk => by first | omega | exact hk.elim | (dsimp only at hk ⊢; omega))), hx.2⟩
          · exact hz.trans (hx.mono (fun k hk => by first | omega | exact hk.elim | (dsimp only at hk ⊢; omega)))
        intro r_409 hr_409
        unfold F_Tape_step_j195
        refine wp_bind (T_Tape_byteAt (r_409.1 27 5) r_409) (fun r6_410 hr6_410 => ?_)
        refine wp_if (fun c4 => ?_) (fun c4 => ?_)
        · refine wp_if (fun c5 => ?_) (fun c5 => ?_)
          · exact wp_some ((hr_409).sI (by first | omega | (dsimp only; omega)))
          · exact wp_some ((hr_409).sI (by first | omega | (dsimp only; omega)))
        · exact wp_some ((hr_409).sI (by first | omega | (dsimp only; omega)))
      · refine wp_bind (T_Tape_byteAt ((mSI (mSI (mSI r_402 27 6 (r_402.1 27 5)) 27 7 ((-1))) 27 4 3).1 27 5) (mSI (mSI (mSI r_402 27 6 (r_402.1 27 5)) 27 7 ((-1))) 27 4 3)) (fun r5_407 hr5_407 => ?_)
        exact wp_some ((((((((((hr_402).sI (by first | omega | (dsimp only; omega)))).sI (by first | omega | (dsimp only; omega)))).sI (by first | omega | (dsimp only; omega)))).sI (by first | omega | (dsimp only; omega)))).sI (by first | omega | (dsimp only; omega)))
  · exact wp_some ((((((hr_402).sI (by first | omega | (dsimp only; omega)))).sI (by first | omega | (dsimp only; omega)))).sI (by first | omega | (dsimp only; omega)))
theorem T_Tape_isWord (w : Nat) (M : Mem) : wpO (F_Tape_isWord w M) (fun _ => True) := by
  unfold F_Tape_isWord F_String_length
  refine wp_if (fun c1 => ?_) (fun _ => wp_some trivial)
  refine wp_bind (wp_some (Φ := fun _ => True) trivial) (fun r1 _ => wp_if (fun c2 => ?_) (fun _ => wp_some trivial))
  unfold F_Tape_isWord_l28
  refine wp_bind (Ψ := fun _ => True) (wp_while (P := fun z => 0 ≤ z.toInt) (μ := fun z => muU z) (fun z hz => ?_) FUEL 0 (by decide) (mu_fuel _)) (fun q _ => ?_)
  · unfold F_Tape_isWord_b28 F_String_length F_String_charAt
    refine wp_eq rfl (wp_if (fun _ => wp_some trivial) (fun c3 => ?_))
    refine wp_bind (T_Tape_byteAt _ _) (fun r3 _ => ?_)
    have c4 := m32.mp c3
    have hb : inb z (strL.getD w 0) := inb_of (by rw [lt_i, li0]; omega) c4
    rw [if_pos hb]
    refine wp_eq rfl (wp_if (fun _ => wp_some ⟨?_, muU_lt c4⟩) (fun _ => wp_some trivial))
    show 0 ≤ (z + 1).toInt
    rw [lt_i] at c4
    have := i_hi (nI (strL.getD w 0))
    rw [up1 (by omega)]
    omega
  · rcases q with q | q <;> exact wp_some trivial

theorem T_Tape_isNumber (M : Mem) : wpO (F_Tape_isNumber M) (fun r => True) := by
  unfold F_Tape_isNumber
  refine wp_if (fun c1 => ?_) (fun c1 => ?_)
  · refine wp_if (fun c2 => ?_) (fun c2 => ?_)
    · exact wp_some trivial
    · exact wp_some trivial
  · exact wp_some trivial
theorem T_Tape_isSign (x1 : Int32) (M : Mem) : wpO (F_Tape_isSign x1 M) (fun r => True) := by
  unfold F_Tape_isSign
  refine wp_if (fun c1 => ?_) (fun c1 => ?_)
  · refine wp_if (fun c2 => ?_) (fun c2 => ?_)
    · exact wp_some trivial
    · exact wp_some trivial
  · exact wp_some trivial
theorem T_Tape_readSeen_b112 (x1 : Int32) (x4 : Int32) (z : Int32 × Mem) : wpO (F_Tape_readSeen_b112 x1 x4 z) (fun r => (match r with | .inl s => Same (fun k => k = 31) z.2 s.2 ∧ muU s.1 < muU z.1 | .inr r => Same (fun k => k = 31) z.2 r)) := by
  unfold F_Tape_readSeen_b112
  refine wp_if (fun c1 => ?_) (fun c1 => ?_)
  · exact wp_some Same.rfl'
  · refine wp_if (fun c2 => ?_) (fun c2 => ?_)
    · exact wp_some Same.rfl'
    · refine wp_bind (T_Row_put 31 13 (x1 + z.1) ((z.2.1 27 7).toInt64) z.2) (fun r8 hr8 => ?_)
      have mr8 : Same (fun k => k = 31) z.2 r8 := hr8.mono (fun k hk => by first | omega | exact hk.elim | (dsimp only at hk ⊢; omega))
      exact wp_some ⟨mr8, (muU_le c2)⟩
theorem T_Tape_readSeen (x1 : Int32) (M : Mem) : wpO (F_Tape_readSeen x1 M) (fun r => Same (fun k => k = 27 ∨ (31 ≤ k ∧ k ≤ 33)) M r.2) := by
  unfold F_Tape_readSeen
  refine wp_bind (T_Tape_isWord 1 M) (fun r1 hr1 => ?_)
  refine wp_if (fun c1 => ?_) (fun c1 => ?_)
  · unfold F_Tape_readSeen_j20
    refine wp_if (fun c2 => ?_) (fun c2 => ?_)
    · unfold F_Tape_readSeen_j32
      refine wp_if (fun c3 => ?_) (fun c3 => ?_)
      · unfold F_Tape_readSeen_j45
        refine wp_bind (T_Tape_step M) (fun r2_411 hr2_411 => ?_)
        have mr2_411 : Same (fun k => k = 27 ∨ (31 ≤ k ∧ k ≤ 33)) M r2_411 := hr2_411.mono (fun k hk => by first | omega | exact hk.elim | (dsimp only at hk ⊢; omega))
        refine wp_bind (T_Tape_isWord 2 r2_411) (fun r3_412 hr3_412 => ?_)
        refine wp_if (fun c4 => ?_) (fun c4 => ?_)
        · refine wp_bind (T_Tape_step r2_411) (fun r4_413 hr4_413 => ?_)
          have mr4_413 : Same (fun k => k = 27 ∨ (31 ≤ k ∧ k ≤ 33)) M r4_413 := (mr2_411).trans (hr4_413.mono (fun k hk => by first | omega | exact hk.elim | (dsimp only at hk ⊢; omega)))
          refine wp_bind (T_Tape_isNumber r4_413) (fun r5_414 hr5_414 => ?_)
          refine wp_if (fun c5 => ?_) (fun c5 => ?_)
          · refine wp_bind (T_Row_at 33 3 (r4_413.1 27 7) r4_413) (fun r6_415 hr6_415 => ?_)
            refine wp_if (fun c6 => ?_) (fun c6 => ?_)
            · refine wp_bind (T_Row_put 33 3 (r4_413.1 27 7) ((r4_413.1 27 5).toInt64) r4_413) (fun r9_416 hr9_416 => ?_)
              have mr9_416 : Same (fun k => k = 27 ∨ (31 ≤ k ∧ k ≤ 33)) M r9_416 := (mr4_413).trans (hr9_416.mono (fun k hk => by first | omega | exact hk.elim | (dsimp only at hk ⊢; omega)))
              unfold F_Tape_readSeen_l112
              refine wp_bind (Ψ := fun r_417 => Same (fun k => k = 27 ∨ (31 ≤ k ∧ k ≤ 33)) M r_417) (wp_while (P := fun w9 => Same (fun k => k = 27 ∨ (31 ≤ k ∧ k ≤ 33)) M w9.2) (μ := fun w9 => muU w9.1) (fun w9 hz => wp_mono (T_Tape_readSeen_b112 x1 (2 : Int32) w9) (fun x hx => ?_)) FUEL ((0 : Int32), r9_416) mr9_416 (mu_fuel _)) ?_
              · rcases x with x | x
                · exact ⟨hz.trans (hx.1.mono (fun k hk => by first | omega | exact hk.elim | (dsimp only at hk ⊢; omega))), hx.2⟩
                · exact hz.trans (hx.mono (fun k hk => by first | omega | exact hk.elim | (dsimp only at hk ⊢; omega)))
              intro r_417 hr_417
              unfold F_Tape_readSeen_j147
              refine wp_bind (T_Tape_step r_417) (fun r7_418 hr7_418 => ?_)
              have mr7_418 : Same (fun k => k = 27 ∨ (31 ≤ k ∧ k ≤ 33)) M r7_418 := (hr_417).trans (hr7_418.mono (fun k hk => by first | omega | exact hk.elim | (dsimp only at hk ⊢; omega)))
              exact wp_some mr7_418
            · unfold F_Tape_readSeen_l112
              refine wp_bind (Ψ := fun r_419 => Same (fun k => k = 27 ∨ (31 ≤ k ∧ k ≤ 33)) M r_419) (wp_while (P := fun w9 => Same (fun k => k = 27 ∨ (31 ≤ k ∧ k ≤ 33)) M w9.2) (μ := fun w9 => muU w9.1) (fun w9 hz => wp_mono (T_Tape_readSeen_b112 x1 (2 : Int32) w9) (fun x hx => ?_)) FUEL ((0 : Int32), r4_413) mr4_413 (mu_fuel _)) ?_
              · rcases x with x | x
                · exact ⟨hz.trans (hx.1.mono (fun k hk => by first | omega | exact hk.elim | (dsimp only at hk ⊢; omega))), hx.2⟩
                · exact hz.trans (hx.mono (fun k hk => by first | omega | exact hk.elim | (dsimp only at hk ⊢; omega)))
              intro r_419 hr_419
              unfold F_Tape_readSeen_j147
              refine wp_bind (T_Tape_step r_419) (fun r7_420 hr7_420 => ?_)
              have mr7_420 : Same (fun k => k = 27 ∨ (31 ≤ k ∧ k ≤ 33)) M r7_420 := (hr_419).trans (hr7_420.mono (fun k hk => by first | omega | exact hk.elim | (dsimp only at hk ⊢; omega)))
              exact wp_some mr7_420
          · exact wp_some mr4_413
        · exact wp_some mr2_411
      · unfold F_Tape_readSeen_j45
        refine wp_bind (T_Tape_step M) (fun r2_421 hr2_421 => ?_)
        have mr2_421 : Same (fun k => k = 27 ∨ (31 ≤ k ∧ k ≤ 33)) M r2_421 := hr2_421.mono (fun k hk => by first | omega | exact hk.elim | (dsimp only at hk ⊢; omega))
        refine wp_bind (T_Tape_isWord 2 r2_421) (fun r3_422 hr3_422 => ?_)
        refine wp_if (fun c7 => ?_) (fun c7 => ?_)
        · refine wp_bind (T_Tape_step r2_421) (fun r4_423 hr4_423 => ?_)
          have mr4_423 : Same (fun k => k = 27 ∨ (31 ≤ k ∧ k ≤ 33)) M r4_423 := (mr2_421).trans (hr4_423.mono (fun k hk => by first | omega | exact hk.elim | (dsimp only at hk ⊢; omega)))
          refine wp_bind (T_Tape_isNumber r4_423) (fun r5_424 hr5_424 => ?_)
          refine wp_if (fun c8 => ?_) (fun c8 => ?_)
          · refine wp_bind (T_Row_at 33 3 (r4_423.1 27 7) r4_423) (fun r6_425 hr6_425 => ?_)
            refine wp_if (fun c9 => ?_) (fun c9 => ?_)
            · refine wp_bind (T_Row_put 33 3 (r4_423.1 27 7) ((r4_423.1 27 5).toInt64) r4_423) (fun r9_426 hr9_426 => ?_)
              have mr9_426 : Same (fun k => k = 27 ∨ (31 ≤ k ∧ k ≤ 33)) M r9_426 := (mr4_423).trans (hr9_426.mono (fun k hk => by first | omega | exact hk.elim | (dsimp only at hk ⊢; omega)))
              unfold F_Tape_readSeen_l112
              refine wp_bind (Ψ := fun r_427 => Same (fun k => k = 27 ∨ (31 ≤ k ∧ k ≤ 33)) M r_427) (wp_while (P := fun w9 => Same (fun k => k = 27 ∨ (31 ≤ k ∧ k ≤ 33)) M w9.2) (μ := fun w9 => muU w9.1) (fun w9 hz => wp_mono (T_Tape_readSeen_b112 x1 (M.1 27 7) w9) (fun x hx => ?_)) FUEL ((0 : Int32), r9_426) mr9_426 (mu_fuel _)) ?_
              · rcases x with x | x
                · exact ⟨hz.trans (hx.1.mono (fun k hk => by first | omega | exact hk.elim | (dsimp only at hk ⊢; omega))), hx.2⟩
                · exact hz.trans (hx.mono (fun k hk => by first | omega | exact hk.elim | (dsimp only at hk ⊢; omega)))
              intro r_427 hr_427
              unfold F_Tape_readSeen_j147
              refine wp_bind (T_Tape_step r_427) (fun r7_428 hr7_428 => ?_)
              have mr7_428 : Same (fun k => k = 27 ∨ (31 ≤ k ∧ k ≤ 33)) M r7_428 := (hr_427).trans (hr7_428.mono (fun k hk => by first | omega | exact hk.elim | (dsimp only at hk ⊢; omega)))
              exact wp_some mr7_428
            · unfold F_Tape_readSeen_l112
              refine wp_bind (Ψ := fun r_429 => Same (fun k => k = 27 ∨ (31 ≤ k ∧ k ≤ 33)) M r_429) (wp_while (P := fun w9 => Same (fun k => k = 27 ∨ (31 ≤ k ∧ k ≤ 33)) M w9.2) (μ := fun w9 => muU w9.1) (fun w9 hz => wp_mono (T_Tape_readSeen_b112 x1 (M.1 27 7) w9) (fun x hx => ?_)) FUEL ((0 : Int32), r4_423) mr4_423 (mu_fuel _)) ?_
              · rcases x with x | x
                · exact ⟨hz.trans (hx.1.mono (fun k hk => by first | omega | exact hk.elim | (dsimp only at hk ⊢; omega))), hx.2⟩
                · exact hz.trans (hx.mono (fun k hk => by first | omega | exact hk.elim | (dsimp only at hk ⊢; omega)))
              intro r_429 hr_429
              unfold F_Tape_readSeen_j147
              refine wp_bind (T_Tape_step r_429) (fun r7_430 hr7_430 => ?_)
              have mr7_430 : Same (fun k => k = 27 ∨ (31 ≤ k ∧ k ≤ 33)) M r7_430 := (hr_429).trans (hr7_430.mono (fun k hk => by first | omega | exact hk.elim | (dsimp only at hk ⊢; omega)))
              exact wp_some mr7_430
          · exact wp_some mr4_423
        · exact wp_some mr2_421
    · unfold F_Tape_readSeen_j32
      refine wp_if (fun c10 => ?_) (fun c10 => ?_)
      · unfold F_Tape_readSeen_j45
        refine wp_bind (T_Tape_step M) (fun r2_431 hr2_431 => ?_)
        have mr2_431 : Same (fun k => k = 27 ∨ (31 ≤ k ∧ k ≤ 33)) M r2_431 := hr2_431.mono (fun k hk => by first | omega | exact hk.elim | (dsimp only at hk ⊢; omega))
        refine wp_bind (T_Tape_isWord 2 r2_431) (fun r3_432 hr3_432 => ?_)
        refine wp_if (fun c11 => ?_) (fun c11 => ?_)
        · refine wp_bind (T_Tape_step r2_431) (fun r4_433 hr4_433 => ?_)
          have mr4_433 : Same (fun k => k = 27 ∨ (31 ≤ k ∧ k ≤ 33)) M r4_433 := (mr2_431).trans (hr4_433.mono (fun k hk => by first | omega | exact hk.elim | (dsimp only at hk ⊢; omega)))
          refine wp_bind (T_Tape_isNumber r4_433) (fun r5_434 hr5_434 => ?_)
          refine wp_if (fun c12 => ?_) (fun c12 => ?_)
          · refine wp_bind (T_Row_at 33 3 (r4_433.1 27 7) r4_433) (fun r6_435 hr6_435 => ?_)
            refine wp_if (fun c13 => ?_) (fun c13 => ?_)
            · refine wp_bind (T_Row_put 33 3 (r4_433.1 27 7) ((r4_433.1 27 5).toInt64) r4_433) (fun r9_436 hr9_436 => ?_)
              have mr9_436 : Same (fun k => k = 27 ∨ (31 ≤ k ∧ k ≤ 33)) M r9_436 := (mr4_433).trans (hr9_436.mono (fun k hk => by first | omega | exact hk.elim | (dsimp only at hk ⊢; omega)))
              unfold F_Tape_readSeen_l112
              refine wp_bind (Ψ := fun r_437 => Same (fun k => k = 27 ∨ (31 ≤ k ∧ k ≤ 33)) M r_437) (wp_while (P := fun w9 => Same (fun k => k = 27 ∨ (31 ≤ k ∧ k ≤ 33)) M w9.2) (μ := fun w9 => muU w9.1) (fun w9 hz => wp_mono (T_Tape_readSeen_b112 x1 (2 : Int32) w9) (fun x hx => ?_)) FUEL ((M.1 27 7), r9_436) mr9_436 (mu_fuel _)) ?_
              · rcases x with x | x
                · exact ⟨hz.trans (hx.1.mono (fun k hk => by first | omega | exact hk.elim | (dsimp only at hk ⊢; omega))), hx.2⟩
                · exact hz.trans (hx.mono (fun k hk => by first | omega | exact hk.elim | (dsimp only at hk ⊢; omega)))
              intro r_437 hr_437
              unfold F_Tape_readSeen_j147
              refine wp_bind (T_Tape_step r_437) (fun r7_438 hr7_438 => ?_)
              have mr7_438 : Same (fun k => k = 27 ∨ (31 ≤ k ∧ k ≤ 33)) M r7_438 := (hr_437).trans (hr7_438.mono (fun k hk => by first | omega | exact hk.elim | (dsimp only at hk ⊢; omega)))
              exact wp_some mr7_438
            · unfold F_Tape_readSeen_l112
              refine wp_bind (Ψ := fun r_439 => Same (fun k => k = 27 ∨ (31 ≤ k ∧ k ≤ 33)) M r_439) (wp_while (P := fun w9 => Same (fun k => k = 27 ∨ (31 ≤ k ∧ k ≤ 33)) M w9.2) (μ := fun w9 => muU w9.1) (fun w9 hz => wp_mono (T_Tape_readSeen_b112 x1 (2 : Int32) w9) (fun x hx => ?_)) FUEL ((M.1 27 7), r4_433) mr4_433 (mu_fuel _)) ?_
              · rcases x with x | x
                · exact ⟨hz.trans (hx.1.mono (fun k hk => by first | omega | exact hk.elim | (dsimp only at hk ⊢; omega))), hx.2⟩
                · exact hz.trans (hx.mono (fun k hk => by first | omega | exact hk.elim | (dsimp only at hk ⊢; omega)))
              intro r_439 hr_439
              unfold F_Tape_readSeen_j147
              refine wp_bind (T_Tape_step r_439) (fun r7_440 hr7_440 => ?_)
              have mr7_440 : Same (fun k => k = 27 ∨ (31 ≤ k ∧ k ≤ 33)) M r7_440 := (hr_439).trans (hr7_440.mono (fun k hk => by first | omega | exact hk.elim | (dsimp only at hk ⊢; omega)))
              exact wp_some mr7_440
          · exact wp_some mr4_433
        · exact wp_some mr2_431
      · unfold F_Tape_readSeen_j45
        refine wp_bind (T_Tape_step M) (fun r2_441 hr2_441 => ?_)
        have mr2_441 : Same (fun k => k = 27 ∨ (31 ≤ k ∧ k ≤ 33)) M r2_441 := hr2_441.mono (fun k hk => by first | omega | exact hk.elim | (dsimp only at hk ⊢; omega))
        refine wp_bind (T_Tape_isWord 2 r2_441) (fun r3_442 hr3_442 => ?_)
        refine wp_if (fun c14 => ?_) (fun c14 => ?_)
        · refine wp_bind (T_Tape_step r2_441) (fun r4_443 hr4_443 => ?_)
          have mr4_443 : Same (fun k => k = 27 ∨ (31 ≤ k ∧ k ≤ 33)) M r4_443 := (mr2_441).trans (hr4_443.mono (fun k hk => by first | omega | exact hk.elim | (dsimp only at hk ⊢; omega)))
          refine wp_bind (T_Tape_isNumber r4_443) (fun r5_444 hr5_444 => ?_)
          refine wp_if (fun c15 => ?_) (fun c15 => ?_)
          · refine wp_bind (T_Row_at 33 3 (r4_443.1 27 7) r4_443) (fun r6_445 hr6_445 => ?_)
            refine wp_if (fun c16 => ?_) (fun c16 => ?_)
            · refine wp_bind (T_Row_put 33 3 (r4_443.1 27 7) ((r4_443.1 27 5).toInt64) r4_443) (fun r9_446 hr9_446 => ?_)
              have mr9_446 : Same (fun k => k = 27 ∨ (31 ≤ k ∧ k ≤ 33)) M r9_446 := (mr4_443).trans (hr9_446.mono (fun k hk => by first | omega | exact hk.elim | (dsimp only at hk ⊢; omega)))
              unfold F_Tape_readSeen_l112
              refine wp_bind (Ψ := fun r_447 => Same (fun k => k = 27 ∨ (31 ≤ k ∧ k ≤ 33)) M r_447) (wp_while (P := fun w9 => Same (fun k => k = 27 ∨ (31 ≤ k ∧ k ≤ 33)) M w9.2) (μ := fun w9 => muU w9.1) (fun w9 hz => wp_mono (T_Tape_readSeen_b112 x1 (M.1 27 7) w9) (fun x hx => ?_)) FUEL ((M.1 27 7), r9_446) mr9_446 (mu_fuel _)) ?_
              · rcases x with x | x
                · exact ⟨hz.trans (hx.1.mono (fun k hk => by first | omega | exact hk.elim | (dsimp only at hk ⊢; omega))), hx.2⟩
                · exact hz.trans (hx.mono (fun k hk => by first | omega | exact hk.elim | (dsimp only at hk ⊢; omega)))
              intro r_447 hr_447
              unfold F_Tape_readSeen_j147
              refine wp_bind (T_Tape_step r_447) (fun r7_448 hr7_448 => ?_)
              have mr7_448 : Same (fun k => k = 27 ∨ (31 ≤ k ∧ k ≤ 33)) M r7_448 := (hr_447).trans (hr7_448.mono (fun k hk => by first | omega | exact hk.elim | (dsimp only at hk ⊢; omega)))
              exact wp_some mr7_448
            · unfold F_Tape_readSeen_l112
              refine wp_bind (Ψ := fun r_449 => Same (fun k => k = 27 ∨ (31 ≤ k ∧ k ≤ 33)) M r_449) (wp_while (P := fun w9 => Same (fun k => k = 27 ∨ (31 ≤ k ∧ k ≤ 33)) M w9.2) (μ := fun w9 => muU w9.1) (fun w9 hz => wp_mono (T_Tape_readSeen_b112 x1 (M.1 27 7) w9) (fun x hx => ?_)) FUEL ((M.1 27 7), r4_443) mr4_443 (mu_fuel _)) ?_
              · rcases x with x | x
                · exact ⟨hz.trans (hx.1.mono (fun k hk => by first | omega | exact hk.elim | (dsimp only at hk ⊢; omega))), hx.2⟩
                · exact hz.trans (hx.mono (fun k hk => by first | omega | exact hk.elim | (dsimp only at hk ⊢; omega)))
              intro r_449 hr_449
              unfold F_Tape_readSeen_j147
              refine wp_bind (T_Tape_step r_449) (fun r7_450 hr7_450 => ?_)
              have mr7_450 : Same (fun k => k = 27 ∨ (31 ≤ k ∧ k ≤ 33)) M r7_450 := (hr_449).trans (hr7_450.mono (fun k hk => by first | omega | exact hk.elim | (dsimp only at hk ⊢; omega)))
              exact wp_some mr7_450
          · exact wp_some mr4_443
        · exact wp_some mr2_441
  · refine wp_bind (T_Tape_isNumber M) (fun r10 hr10 => ?_)
    refine wp_if (fun c17 => ?_) (fun c17 => ?_)
    · unfold F_Tape_readSeen_j20
      refine wp_if (fun c18 => ?_) (fun c18 => ?_)
      · unfold F_Tape_readSeen_j32
        refine wp_if (fun c19 => ?_) (fun c19 => ?_)
        · unfold F_Tape_readSeen_j45
          refine wp_bind (T_Tape_step M) (fun r2_451 hr2_451 => ?_)
          have mr2_451 : Same (fun k => k = 27 ∨ (31 ≤ k ∧ k ≤ 33)) M r2_451 := hr2_451.mono (fun k hk => by first | omega | exact hk.elim | (dsimp only at hk ⊢; omega))
          refine wp_bind (T_Tape_isWord 2 r2_451) (fun r3_452 hr3_452 => ?_)
          refine wp_if (fun c20 => ?_) (fun c20 => ?_)
          · refine wp_bind (T_Tape_step r2_451) (fun r4_453 hr4_453 => ?_)
            have mr4_453 : Same (fun k => k = 27 ∨ (31 ≤ k ∧ k ≤ 33)) M r4_453 := (mr2_451).trans (hr4_453.mono (fun k hk => by first | omega | exact hk.elim | (dsimp only at hk ⊢; omega)))
            refine wp_bind (T_Tape_isNumber r4_453) (fun r5_454 hr5_454 => ?_)
            refine wp_if (fun c21 => ?_) (fun c21 => ?_)
            · refine wp_bind (T_Row_at 33 3 (r4_453.1 27 7) r4_453) (fun r6_455 hr6_455 => ?_)
              refine wp_if (fun c22 => ?_) (fun c22 => ?_)
              · refine wp_bind (T_Row_put 33 3 (r4_453.1 27 7) ((r4_453.1 27 5).toInt64) r4_453) (fun r9_456 hr9_456 => ?_)
                have mr9_456 : Same (fun k => k = 27 ∨ (31 ≤ k ∧ k ≤ 33)) M r9_456 := (mr4_453).trans (hr9_456.mono (fun k hk => by first | omega | exact hk.elim | (dsimp only at hk ⊢; omega)))
                unfold F_Tape_readSeen_l112
                refine wp_bind (Ψ := fun r_457 => Same (fun k => k = 27 ∨ (31 ≤ k ∧ k ≤ 33)) M r_457) (wp_while (P := fun w9 => Same (fun k => k = 27 ∨ (31 ≤ k ∧ k ≤ 33)) M w9.2) (μ := fun w9 => muU w9.1) (fun w9 hz => wp_mono (T_Tape_readSeen_b112 x1 (2 : Int32) w9) (fun x hx => ?_)) FUEL ((0 : Int32), r9_456) mr9_456 (mu_fuel _)) ?_
                · rcases x with x | x
                  · exact ⟨hz.trans (hx.1.mono (fun k hk => by first | omega | exact hk.elim | (dsimp only at hk ⊢; omega))), hx.2⟩
                  · exact hz.trans (hx.mono (fun k hk => by first | omega | exact hk.elim | (dsimp only at hk ⊢; omega)))
                intro r_457 hr_457
                unfold F_Tape_readSeen_j147
                refine wp_bind (T_Tape_step r_457) (fun r7_458 hr7_458 => ?_)
                have mr7_458 : Same (fun k => k = 27 ∨ (31 ≤ k ∧ k ≤ 33)) M r7_458 := (hr_457).trans (hr7_458.mono (fun k hk => by first | omega | exact hk.elim | (dsimp only at hk ⊢; omega)))
                exact wp_some mr7_458
              · unfold F_Tape_readSeen_l112
                refine wp_bind (Ψ := fun r_459 => Same (fun k => k = 27 ∨ (31 ≤ k ∧ k ≤ 33)) M r_459) (wp_while (P := fun w9 => Same (fun k => k = 27 ∨ (31 ≤ k ∧ k ≤ 33)) M w9.2) (μ := fun w9 => muU w9.1) (fun w9 hz => wp_mono (T_Tape_readSeen_b112 x1 (2 : Int32) w9) (fun x hx => ?_)) FUEL ((0 : Int32), r4_453) mr4_453 (mu_fuel _)) ?_
                · rcases x with x | x
                  · exact ⟨hz.trans (hx.1.mono (fun k hk => by first | omega | exact hk.elim | (dsimp only at hk ⊢; omega))), hx.2⟩
                  · exact hz.trans (hx.mono (fun k hk => by first | omega | exact hk.elim | (dsimp only at hk ⊢; omega)))
                intro r_459 hr_459
                unfold F_Tape_readSeen_j147
                refine wp_bind (T_Tape_step r_459) (fun r7_460 hr7_460 => ?_)
                have mr7_460 : Same (fun k => k = 27 ∨ (31 ≤ k ∧ k ≤ 33)) M r7_460 := (hr_459).trans (hr7_460.mono (fun k hk => by first | omega | exact hk.elim | (dsimp only at hk ⊢; omega)))
                exact wp_some mr7_460
            · exact wp_some mr4_453
          · exact wp_some mr2_451
        · unfold F_Tape_readSeen_j45
          refine wp_bind (T_Tape_step M) (fun r2_461 hr2_461 => ?_)
          have mr2_461 : Same (fun k => k = 27 ∨ (31 ≤ k ∧ k ≤ 33)) M r2_461 := hr2_461.mono (fun k hk => by first | omega | exact hk.elim | (dsimp only at hk ⊢; omega))
          refine wp_bind (T_Tape_isWord 2 r2_461) (fun r3_462 hr3_462 => ?_)
          refine wp_if (fun c23 => ?_) (fun c23 => ?_)
          · refine wp_bind (T_Tape_step r2_461) (fun r4_463 hr4_463 => ?_)
            have mr4_463 : Same (fun k => k = 27 ∨ (31 ≤ k ∧ k ≤ 33)) M r4_463 := (mr2_461).trans (hr4_463.mono (fun k hk => by first | omega | exact hk.elim | (dsimp only at hk ⊢; omega)))
            refine wp_bind (T_Tape_isNumber r4_463) (fun r5_464 hr5_464 => ?_)
            refine wp_if (fun c24 => ?_) (fun c24 => ?_)
            · refine wp_bind (T_Row_at 33 3 (r4_463.1 27 7) r4_463) (fun r6_465 hr6_465 => ?_)
              refine wp_if (fun c25 => ?_) (fun c25 => ?_)
              · refine wp_bind (T_Row_put 33 3 (r4_463.1 27 7) ((r4_463.1 27 5).toInt64) r4_463) (fun r9_466 hr9_466 => ?_)
                have mr9_466 : Same (fun k => k = 27 ∨ (31 ≤ k ∧ k ≤ 33)) M r9_466 := (mr4_463).trans (hr9_466.mono (fun k hk => by first | omega | exact hk.elim | (dsimp only at hk ⊢; omega)))
                unfold F_Tape_readSeen_l112
                refine wp_bind (Ψ := fun r_467 => Same (fun k => k = 27 ∨ (31 ≤ k ∧ k ≤ 33)) M r_467) (wp_while (P := fun w9 => Same (fun k => k = 27 ∨ (31 ≤ k ∧ k ≤ 33)) M w9.2) (μ := fun w9 => muU w9.1) (fun w9 hz => wp_mono (T_Tape_readSeen_b112 x1 (M.1 27 7) w9) (fun x hx => ?_)) FUEL ((0 : Int32), r9_466) mr9_466 (mu_fuel _)) ?_
                · rcases x with x | x
                  · exact ⟨hz.trans (hx.1.mono (fun k hk => by first | omega | exact hk.elim | (dsimp only at hk ⊢; omega))), hx.2⟩
                  · exact hz.trans (hx.mono (fun k hk => by first | omega | exact hk.elim | (dsimp only at hk ⊢; omega)))
                intro r_467 hr_467
                unfold F_Tape_readSeen_j147
                refine wp_bind (T_Tape_step r_467) (fun r7_468 hr7_468 => ?_)
                have mr7_468 : Same (fun k => k = 27 ∨ (31 ≤ k ∧ k ≤ 33)) M r7_468 := (hr_467).trans (hr7_468.mono (fun k hk => by first | omega | exact hk.elim | (dsimp only at hk ⊢; omega)))
                exact wp_some mr7_468
              · unfold F_Tape_readSeen_l112
                refine wp_bind (Ψ := fun r_469 => Same (fun k => k = 27 ∨ (31 ≤ k ∧ k ≤ 33)) M r_469) (wp_while (P := fun w9 => Same (fun k => k = 27 ∨ (31 ≤ k ∧ k ≤ 33)) M w9.2) (μ := fun w9 => muU w9.1) (fun w9 hz => wp_mono (T_Tape_readSeen_b112 x1 (M.1 27 7) w9) (fun x hx => ?_)) FUEL ((0 : Int32), r4_463) mr4_463 (mu_fuel _)) ?_
                · rcases x with x | x
                  · exact ⟨hz.trans (hx.1.mono (fun k hk => by first | omega | exact hk.elim | (dsimp only at hk ⊢; omega))), hx.2⟩
                  · exact hz.trans (hx.mono (fun k hk => by first | omega | exact hk.elim | (dsimp only at hk ⊢; omega)))
                intro r_469 hr_469
                unfold F_Tape_readSeen_j147
                refine wp_bind (T_Tape_step r_469) (fun r7_470 hr7_470 => ?_)
                have mr7_470 : Same (fun k => k = 27 ∨ (31 ≤ k ∧ k ≤ 33)) M r7_470 := (hr_469).trans (hr7_470.mono (fun k hk => by first | omega | exact hk.elim | (dsimp only at hk ⊢; omega)))
                exact wp_some mr7_470
            · exact wp_some mr4_463
          · exact wp_some mr2_461
      · unfold F_Tape_readSeen_j32
        refine wp_if (fun c26 => ?_) (fun c26 => ?_)
        · unfold F_Tape_readSeen_j45
          refine wp_bind (T_Tape_step M) (fun r2_471 hr2_471 => ?_)
          have mr2_471 : Same (fun k => k = 27 ∨ (31 ≤ k ∧ k ≤ 33)) M r2_471 := hr2_471.mono (fun k hk => by first | omega | exact hk.elim | (dsimp only at hk ⊢; omega))
          refine wp_bind (T_Tape_isWord 2 r2_471) (fun r3_472 hr3_472 => ?_)
          refine wp_if (fun c27 => ?_) (fun c27 => ?_)
          · refine wp_bind (T_Tape_step r2_471) (fun r4_473 hr4_473 => ?_)
            have mr4_473 : Same (fun k => k = 27 ∨ (31 ≤ k ∧ k ≤ 33)) M r4_473 := (mr2_471).trans (hr4_473.mono (fun k hk => by first | omega | exact hk.elim | (dsimp only at hk ⊢; omega)))
            refine wp_bind (T_Tape_isNumber r4_473) (fun r5_474 hr5_474 => ?_)
            refine wp_if (fun c28 => ?_) (fun c28 => ?_)
            · refine wp_bind (T_Row_at 33 3 (r4_473.1 27 7) r4_473) (fun r6_475 hr6_475 => ?_)
              refine wp_if (fun c29 => ?_) (fun c29 => ?_)
              · refine wp_bind (T_Row_put 33 3 (r4_473.1 27 7) ((r4_473.1 27 5).toInt64) r4_473) (fun r9_476 hr9_476 => ?_)
                have mr9_476 : Same (fun k => k = 27 ∨ (31 ≤ k ∧ k ≤ 33)) M r9_476 := (mr4_473).trans (hr9_476.mono (fun k hk => by first | omega | exact hk.elim | (dsimp only at hk ⊢; omega)))
                unfold F_Tape_readSeen_l112
                refine wp_bind (Ψ := fun r_477 => Same (fun k => k = 27 ∨ (31 ≤ k ∧ k ≤ 33)) M r_477) (wp_while (P := fun w9 => Same (fun k => k = 27 ∨ (31 ≤ k ∧ k ≤ 33)) M w9.2) (μ := fun w9 => muU w9.1) (fun w9 hz => wp_mono (T_Tape_readSeen_b112 x1 (2 : Int32) w9) (fun x hx => ?_)) FUEL ((M.1 27 7), r9_476) mr9_476 (mu_fuel _)) ?_
                · rcases x with x | x
                  · exact ⟨hz.trans (hx.1.mono (fun k hk => by first | omega | exact hk.elim | (dsimp only at hk ⊢; omega))), hx.2⟩
                  · exact hz.trans (hx.mono (fun k hk => by first | omega | exact hk.elim | (dsimp only at hk ⊢; omega)))
                intro r_477 hr_477
                unfold F_Tape_readSeen_j147
                refine wp_bind (T_Tape_step r_477) (fun r7_478 hr7_478 => ?_)
                have mr7_478 : Same (fun k => k = 27 ∨ (31 ≤ k ∧ k ≤ 33)) M r7_478 := (hr_477).trans (hr7_478.mono (fun k hk => by first | omega | exact hk.elim | (dsimp only at hk ⊢; omega)))
                exact wp_some mr7_478
              · unfold F_Tape_readSeen_l112
                refine wp_bind (Ψ := fun r_479 => Same (fun k => k = 27 ∨ (31 ≤ k ∧ k ≤ 33)) M r_479) (wp_while (P := fun w9 => Same (fun k => k = 27 ∨ (31 ≤ k ∧ k ≤ 33)) M w9.2) (μ := fun w9 => muU w9.1) (fun w9 hz => wp_mono (T_Tape_readSeen_b112 x1 (2 : Int32) w9) (fun x hx => ?_)) FUEL ((M.1 27 7), r4_473) mr4_473 (mu_fuel _)) ?_
                · rcases x with x | x
                  · exact ⟨hz.trans (hx.1.mono (fun k hk => by first | omega | exact hk.elim | (dsimp only at hk ⊢; omega))), hx.2⟩
                  · exact hz.trans (hx.mono (fun k hk => by first | omega | exact hk.elim | (dsimp only at hk ⊢; omega)))
                intro r_479 hr_479
                unfold F_Tape_readSeen_j147
                refine wp_bind (T_Tape_step r_479) (fun r7_480 hr7_480 => ?_)
                have mr7_480 : Same (fun k => k = 27 ∨ (31 ≤ k ∧ k ≤ 33)) M r7_480 := (hr_479).trans (hr7_480.mono (fun k hk => by first | omega | exact hk.elim | (dsimp only at hk ⊢; omega)))
                exact wp_some mr7_480
            · exact wp_some mr4_473
          · exact wp_some mr2_471
        · unfold F_Tape_readSeen_j45
          refine wp_bind (T_Tape_step M) (fun r2_481 hr2_481 => ?_)
          have mr2_481 : Same (fun k => k = 27 ∨ (31 ≤ k ∧ k ≤ 33)) M r2_481 := hr2_481.mono (fun k hk => by first | omega | exact hk.elim | (dsimp only at hk ⊢; omega))
          refine wp_bind (T_Tape_isWord 2 r2_481) (fun r3_482 hr3_482 => ?_)
          refine wp_if (fun c30 => ?_) (fun c30 => ?_)
          · refine wp_bind (T_Tape_step r2_481) (fun r4_483 hr4_483 => ?_)
            have mr4_483 : Same (fun k => k = 27 ∨ (31 ≤ k ∧ k ≤ 33)) M r4_483 := (mr2_481).trans (hr4_483.mono (fun k hk => by first | omega | exact hk.elim | (dsimp only at hk ⊢; omega)))
            refine wp_bind (T_Tape_isNumber r4_483) (fun r5_484 hr5_484 => ?_)
            refine wp_if (fun c31 => ?_) (fun c31 => ?_)
            · refine wp_bind (T_Row_at 33 3 (r4_483.1 27 7) r4_483) (fun r6_485 hr6_485 => ?_)
              refine wp_if (fun c32 => ?_) (fun c32 => ?_)
              · refine wp_bind (T_Row_put 33 3 (r4_483.1 27 7) ((r4_483.1 27 5).toInt64) r4_483) (fun r9_486 hr9_486 => ?_)
                have mr9_486 : Same (fun k => k = 27 ∨ (31 ≤ k ∧ k ≤ 33)) M r9_486 := (mr4_483).trans (hr9_486.mono (fun k hk => by first | omega | exact hk.elim | (dsimp only at hk ⊢; omega)))
                unfold F_Tape_readSeen_l112
                refine wp_bind (Ψ := fun r_487 => Same (fun k => k = 27 ∨ (31 ≤ k ∧ k ≤ 33)) M r_487) (wp_while (P := fun w9 => Same (fun k => k = 27 ∨ (31 ≤ k ∧ k ≤ 33)) M w9.2) (μ := fun w9 => muU w9.1) (fun w9 hz => wp_mono (T_Tape_readSeen_b112 x1 (M.1 27 7) w9) (fun x hx => ?_)) FUEL ((M.1 27 7), r9_486) mr9_486 (mu_fuel _)) ?_
                · rcases x with x | x
                  · exact ⟨hz.trans (hx.1.mono (fun k hk => by first | omega | exact hk.elim | (dsimp only at hk ⊢; omega))), hx.2⟩
                  · exact hz.trans (hx.mono (fun k hk => by first | omega | exact hk.elim | (dsimp only at hk ⊢; omega)))
                intro r_487 hr_487
                unfold F_Tape_readSeen_j147
                refine wp_bind (T_Tape_step r_487) (fun r7_488 hr7_488 => ?_)
                have mr7_488 : Same (fun k => k = 27 ∨ (31 ≤ k ∧ k ≤ 33)) M r7_488 := (hr_487).trans (hr7_488.mono (fun k hk => by first | omega | exact hk.elim | (dsimp only at hk ⊢; omega)))
                exact wp_some mr7_488
              · unfold F_Tape_readSeen_l112
                refine wp_bind (Ψ := fun r_489 => Same (fun k => k = 27 ∨ (31 ≤ k ∧ k ≤ 33)) M r_489) (wp_while (P := fun w9 => Same (fun k => k = 27 ∨ (31 ≤ k ∧ k ≤ 33)) M w9.2) (μ := fun w9 => muU w9.1) (fun w9 hz => wp_mono (T_Tape_readSeen_b112 x1 (M.1 27 7) w9) (fun x hx => ?_)) FUEL ((M.1 27 7), r4_483) mr4_483 (mu_fuel _)) ?_
                · rcases x with x | x
                  · exact ⟨hz.trans (hx.1.mono (fun k hk => by first | omega | exact hk.elim | (dsimp only at hk ⊢; omega))), hx.2⟩
                  · exact hz.trans (hx.mono (fun k hk => by first | omega | exact hk.elim | (dsimp only at hk ⊢; omega)))
                intro r_489 hr_489
                unfold F_Tape_readSeen_j147
                refine wp_bind (T_Tape_step r_489) (fun r7_490 hr7_490 => ?_)
                have mr7_490 : Same (fun k => k = 27 ∨ (31 ≤ k ∧ k ≤ 33)) M r7_490 := (hr_489).trans (hr7_490.mono (fun k hk => by first | omega | exact hk.elim | (dsimp only at hk ⊢; omega)))
                exact wp_some mr7_490
            · exact wp_some mr4_483
          · exact wp_some mr2_481
    · exact wp_some Same.rfl'
theorem T_Tape_readMood_b76 (x2 : Int32) (z : Int32 × Mem) : wpO (F_Tape_readMood_b76 x2 z) (fun r => (match r with | .inl s => Same (fun k => k = 27 ∨ (31 ≤ k ∧ k ≤ 33)) z.2 s.2 ∧ muU s.1 < muU z.1 | .inr r => (match r with | .inl s => Same (fun k => k = 27 ∨ (31 ≤ k ∧ k ≤ 33)) z.2 s | .inr r => Same (fun k => k = 27 ∨ (31 ≤ k ∧ k ≤ 33)) z.2 r))) := by
  unfold F_Tape_readMood_b76
  refine wp_if (fun c1 => ?_) (fun c1 => ?_)
  · exact wp_some Same.rfl'
  · refine wp_bind (T_Tape_isSign 44 z.2) (fun r6 hr6 => ?_)
    refine wp_if (fun c2 => ?_) (fun c2 => ?_)
    · refine wp_bind (T_Tape_step z.2) (fun r7 hr7 => ?_)
      have mr7 : Same (fun k => k = 27 ∨ (31 ≤ k ∧ k ≤ 33)) z.2 r7 := hr7.mono (fun k hk => by first | omega | exact hk.elim | (dsimp only at hk ⊢; omega))
      refine wp_bind (T_Tape_readSeen (x2 + 1) r7) (fun r8 hr8 => ?_)
      have mr8 : Same (fun k => k = 27 ∨ (31 ≤ k ∧ k ≤ 33)) z.2 r8.2 := (mr7).trans (hr8.mono (fun k hk => by first | omega | exact hk.elim | (dsimp only at hk ⊢; omega)))
      refine wp_if (fun c3 => ?_) (fun c3 => ?_)
      · exact wp_some ⟨mr8, (muU_le c1)⟩
      · exact wp_some mr8
    · exact wp_some Same.rfl'
theorem T_Tape_readMood_b45 (x1 : Int32) (x2 : Int32) (z : Int32 × Mem) : wpO (F_Tape_readMood_b45 x1 x2 z) (fun r => (match r with | .inl s => Same (fun k => k = 31) z.2 s.2 ∧ muU s.1 < muU z.1 | .inr r => Same (fun k => k = 31) z.2 r)) := by
  unfold F_Tape_readMood_b45
  refine wp_if (fun c1 => ?_) (fun c1 => ?_)
  · exact wp_some Same.rfl'
  · refine wp_bind (T_Row_put 31 13 ((x2 + 1) + z.1) x1.toInt64 z.2) (fun r9 hr9 => ?_)
    have mr9 : Same (fun k => k = 31) z.2 r9 := hr9.mono (fun k hk => by first | omega | exact hk.elim | (dsimp only at hk ⊢; omega))
    exact wp_some ⟨mr9, (muU_le c1)⟩
theorem T_Tape_readMood (x1 : Int32) (M : Mem) : wpO (F_Tape_readMood x1 M) (fun r => Same (fun k => k = 27 ∨ (31 ≤ k ∧ k ≤ 33)) M r.2) := by
  unfold F_Tape_readMood
  refine wp_bind (T_Tape_isWord 0 M) (fun r1 hr1 => ?_)
  refine wp_if (fun c1 => ?_) (fun c1 => ?_)
  · refine wp_bind (T_Tape_step M) (fun r2 hr2 => ?_)
    have mr2 : Same (fun k => k = 27 ∨ (31 ≤ k ∧ k ≤ 33)) M r2 := hr2.mono (fun k hk => by first | omega | exact hk.elim | (dsimp only at hk ⊢; omega))
    refine wp_bind (T_Tape_isNumber r2) (fun r3 hr3 => ?_)
    refine wp_if (fun c2 => ?_) (fun c2 => ?_)
    · refine wp_bind (T_Row_put 31 13 (1 + (4 * x1)) ((r2.1 27 7).toInt64) r2) (fun r4 hr4 => ?_)
      have mr4 : Same (fun k => k = 27 ∨ (31 ≤ k ∧ k ≤ 33)) M r4 := (mr2).trans (hr4.mono (fun k hk => by first | omega | exact hk.elim | (dsimp only at hk ⊢; omega)))
      unfold F_Tape_readMood_l45
      refine wp_bind (Ψ := fun r_491 => Same (fun k => k = 27 ∨ (31 ≤ k ∧ k ≤ 33)) M r_491) (wp_while (P := fun w9 => Same (fun k => k = 27 ∨ (31 ≤ k ∧ k ≤ 33)) M w9.2) (μ := fun w9 => muU w9.1) (fun w9 hz => wp_mono (T_Tape_readMood_b45 x1 (1 + (4 * x1)) w9) (fun x hx => ?_)) FUEL ((0 : Int32), r4) mr4 (mu_fuel _)) ?_
      · rcases x with x | x
        · exact ⟨hz.trans (hx.1.mono (fun k hk => by first | omega | exact hk.elim | (dsimp only at hk ⊢; omega))), hx.2⟩
        · exact hz.trans (hx.mono (fun k hk => by first | omega | exact hk.elim | (dsimp only at hk ⊢; omega)))
      intro r_491 hr_491
      unfold F_Tape_readMood_j70
      refine wp_bind (T_Tape_step r_491) (fun r5_492 hr5_492 => ?_)
      have mr5_492 : Same (fun k => k = 27 ∨ (31 ≤ k ∧ k ≤ 33)) M r5_492 := (hr_491).trans (hr5_492.mono (fun k hk => by first | omega | exact hk.elim | (dsimp only at hk ⊢; omega)))
      unfold F_Tape_readMood_l76
      refine wp_bind (Ψ := fun q_493 => (match q_493 with | .inl s => Same (fun k => k = 27 ∨ (31 ≤ k ∧ k ≤ 33)) M s | .inr r => Same (fun k => k = 27 ∨ (31 ≤ k ∧ k ≤ 33)) M r)) (wp_while (P := fun w9 => Same (fun k => k = 27 ∨ (31 ≤ k ∧ k ≤ 33)) M w9.2) (μ := fun w9 => muU w9.1) (fun w9 hz => wp_mono (T_Tape_readMood_b76 (1 + (4 * x1)) w9) (fun x hx => ?_)) FUEL ((0 : Int32), r5_492) mr5_492 (mu_fuel _)) ?_
      · rcases x with x | x
        · exact ⟨hz.trans (hx.1.mono (fun k hk => by first | omega | exact hk.elim | (dsimp only at hk ⊢; omega))), hx.2⟩
        · rcases x with x | x
          · exact hz.trans (hx.mono (fun k hk => by first | omega | exact hk.elim | (dsimp only at hk ⊢; omega)))
          · exact hz.trans (hx.mono (fun k hk => by first | omega | exact hk.elim | (dsimp only at hk ⊢; omega)))
      intro q_493 hq_493
      rcases q_493 with y3 | y3
      · exact wp_some hq_493
      · exact wp_some hq_493
    · exact wp_some mr2
  · exact wp_some Same.rfl'
theorem T_Tape_firstStray_b4 (M : Mem) (z : Int32 × Int32) : wpO (F_Tape_firstStray_b4 M z) (fun r => (match r with | .inl s => muU s.2 < muU z.2 | .inr r => True)) := by
  unfold F_Tape_firstStray_b4
  refine wp_if (fun c1 => ?_) (fun c1 => ?_)
  · exact wp_some trivial
  · refine wp_bind (T_Row_small 33 3 z.2 M) (fun r1 hr1 => ?_)
    refine wp_if (fun c2 => ?_) (fun c2 => ?_)
    · exact wp_some (muU_le c1)
    · refine wp_if (fun c3 => ?_) (fun c3 => ?_)
      · exact wp_some (muU_le c1)
      · refine wp_if (fun c4 => ?_) (fun c4 => ?_)
        · exact wp_some (muU_le c1)
        · exact wp_some (muU_le c1)
theorem T_Tape_firstStray (x1 : Int32) (M : Mem) : wpO (F_Tape_firstStray x1 M) (fun r => True) := by
  unfold F_Tape_firstStray
  unfold F_Tape_firstStray_l4
  refine wp_bind (Ψ := fun r_494 => True) (wp_while (P := fun _ => True) (μ := fun w9 => muU w9.2) (fun w9 hz => wp_mono (T_Tape_firstStray_b4 M w9) (fun x hx => ?_)) FUEL ((-1 : Int32), x1) trivial (mu_fuel _)) ?_
  · rcases x with x | x
    · exact ⟨trivial, hx⟩
    · trivial
  intro r_494 hr_494
  exact wp_some trivial
theorem T_Tape_readWay_b31 (z : Int32 × Bool × Mem) : wpO (F_Tape_readWay_b31 z) (fun r => (match r with | .inl s => Same (fun k => k = 27 ∨ (31 ≤ k ∧ k ≤ 33)) z.2.2 s.2.2 ∧ muU s.1 < muU z.1 | .inr r => (match r with | .inl s => Same (fun k => k = 27 ∨ (31 ≤ k ∧ k ≤ 33)) z.2.2 s | .inr r => Same (fun k => k = 27 ∨ (31 ≤ k ∧ k ≤ 33)) z.2.2 r.2))) := by
  unfold F_Tape_readWay_b31
  refine wp_if (fun c1 => ?_) (fun c1 => ?_)
  · refine wp_if (fun c2 => ?_) (fun c2 => ?_)
    · exact wp_some Same.rfl'
    · refine wp_if (fun c3 => ?_) (fun c3 => ?_)
      · exact wp_some Same.rfl'
      · refine wp_bind (T_Tape_readMood z.1 z.2.2) (fun r6 hr6 => ?_)
        have mr6 : Same (fun k => k = 27 ∨ (31 ≤ k ∧ k ≤ 33)) z.2.2 r6.2 := hr6.mono (fun k hk => by first | omega | exact hk.elim | (dsimp only at hk ⊢; omega))
        refine wp_if (fun c4 => ?_) (fun c4 => ?_)
        · refine wp_bind (T_Tape_isSign 59 r6.2) (fun r7 hr7 => ?_)
          refine wp_if (fun c5 => ?_) (fun c5 => ?_)
          · refine wp_bind (T_Tape_step r6.2) (fun r8 hr8 => ?_)
            have mr8 : Same (fun k => k = 27 ∨ (31 ≤ k ∧ k ≤ 33)) z.2.2 r8 := (mr6).trans (hr8.mono (fun k hk => by first | omega | exact hk.elim | (dsimp only at hk ⊢; omega)))
            exact wp_some ⟨mr8, (muU_nl c2 (by decide))⟩
          · exact wp_some ⟨mr6, (muU_nl c2 (by decide))⟩
        · exact wp_some mr6
  · exact wp_some Same.rfl'
theorem T_Tape_readWay (M : Mem) : wpO (F_Tape_readWay M) (fun r => Same (fun k => k = 27 ∨ (31 ≤ k ∧ k ≤ 33)) M r.2) := by
  unfold F_Tape_readWay
  refine wp_bind (T_Row_setAll 31 13 0 M) (fun r1 hr1 => ?_)
  have mr1 : Same (fun k => k = 27 ∨ (31 ≤ k ∧ k ≤ 33)) M r1 := hr1.mono (fun k hk => by first | omega | exact hk.elim | (dsimp only at hk ⊢; omega))
  refine wp_bind (T_Row_setAll 33 3 ((-1)) r1) (fun r2 hr2 => ?_)
  have mr2 : Same (fun k => k = 27 ∨ (31 ≤ k ∧ k ≤ 33)) M r2 := (mr1).trans (hr2.mono (fun k hk => by first | omega | exact hk.elim | (dsimp only at hk ⊢; omega)))
  refine wp_bind (T_Tape_step (mSI r2 27 6 0)) (fun r3 hr3 => ?_)
  have mr3 : Same (fun k => k = 27 ∨ (31 ≤ k ∧ k ≤ 33)) M r3 := (((mr2).sI (by first | omega | (dsimp only; omega)))).trans (hr3.mono (fun k hk => by first | omega | exact hk.elim | (dsimp only at hk ⊢; omega)))
  unfold F_Tape_readWay_l31
  refine wp_bind (Ψ := fun q_495 => (match q_495 with | .inl s => Same (fun k => k = 27 ∨ (31 ≤ k ∧ k ≤ 33)) M s | .inr r => Same (fun k => k = 27 ∨ (31 ≤ k ∧ k ≤ 33)) M r.2)) (wp_while (P := fun w9 => Same (fun k => k = 27 ∨ (31 ≤ k ∧ k ≤ 33)) M w9.2.2) (μ := fun w9 => muU w9.1) (fun w9 hz => wp_mono (T_Tape_readWay_b31  w9) (fun x hx => ?_)) FUEL ((0 : Int32), true, r3) mr3 (mu_fuel _)) ?_
  · rcases x with x | x
    · exact ⟨hz.trans (hx.1.mono (fun k hk => by first | omega | exact hk.elim | (dsimp only at hk ⊢; omega))), hx.2⟩
    · rcases x with x | x
      · exact hz.trans (hx.mono (fun k hk => by first | omega | exact hk.elim | (dsimp only at hk ⊢; omega)))
      · exact hz.trans (hx.mono (fun k hk => by first | omega | exact hk.elim | (dsimp only at hk ⊢; omega)))
  intro q_495 hq_495
  rcases q_495 with y1 | y1
  · exact wp_some hq_495
  · unfold F_Tape_readWay_j79
    refine wp_bind (T_Row_put 31 13 0 y1.1.toInt64 y1.2) (fun r4_496 hr4_496 => ?_)
    have mr4_496 : Same (fun k => k = 27 ∨ (31 ≤ k ∧ k ≤ 33)) M r4_496 := (hq_495).trans (hr4_496.mono (fun k hk => by first | omega | exact hk.elim | (dsimp only at hk ⊢; omega)))
    refine wp_if (fun c2 => ?_) (fun c2 => ?_)
    · refine wp_bind (T_Tape_firstStray y1.1 r4_496) (fun r5_497 hr5_497 => ?_)
      exact wp_some mr4_496
    · exact wp_some mr4_496
