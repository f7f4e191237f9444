theorem T_Tape_hasRoom (M : Mem) : wpO (F_Tape_hasRoom M) (fun r => True) := by
  unfold F_Tape_hasRoom
  refine wp_if (fun c1 => ?_) (fun c1 => ?_)
  · exact wp_some trivial
  · exact wp_some trivial
theorem T_Tape_append_b3 (x1 : Int32) (z : Int32 × Mem) : wpO (F_Tape_append_b3 x1 z) (fun r => (match r with | .inl s => Same (fun k => (27 ≤ k ∧ k ≤ 29)) z.2 s.2 ∧ muD s.1 < muD z.1 | .inr r => Same (fun k => (27 ≤ k ∧ k ≤ 29)) z.2 r)) := by
  unfold F_Tape_append_b3
  refine wp_if (fun c1 => ?_) (fun c1 => ?_)
  · exact wp_some Same.rfl'
  · refine wp_bind (T_Row_put 29 400 (z.2.1 27 1) (((ush x1 z.1) &&& 255).toInt64) z.2) (fun r1 hr1 => ?_)
    have mr1 : Same (fun k => (27 ≤ k ∧ k ≤ 29)) z.2 r1 := hr1.mono (fun k hk => by first | omega | exact hk.elim | (dsimp only at hk ⊢; omega))
    exact wp_some ⟨((mr1).sI (by first | omega | (dsimp only; omega))), (muD_08 c1)⟩
theorem T_Tape_append (x1 : Int32) (M : Mem) : wpO (F_Tape_append x1 M) (fun r => Same (fun k => (27 ≤ k ∧ k ≤ 29)) M r) := by
  unfold F_Tape_append
  unfold F_Tape_append_l3
  refine wp_bind (Ψ := fun r => Same (fun k => (27 ≤ k ∧ k ≤ 29)) M r) (wp_while (P := fun z => Same (fun k => (27 ≤ k ∧ k ≤ 29)) M z.2) (μ := fun z => muD z.1) (fun z hz => wp_mono (T_Tape_append_b3 x1 z) (fun x hx => ?_)) FUEL (24, M) Same.rfl' (muD_fuel _)) ?_
  · rcases x with x | x
    · exact ⟨hz.trans (hx.1.mono (fun k hk => by first | omega | exact hk.elim | (dsimp only at hk ⊢; omega))), hx.2⟩
    · exact hz.trans (hx.mono (fun k hk => by first | omega | exact hk.elim | (dsimp only at hk ⊢; omega)))
  intro r hr
  exact wp_some hr
theorem T_Tape_byteAt (x1 : Int32) (M : Mem) : wpO (F_Tape_byteAt x1 M) (fun r => True) := by
  unfold F_Tape_byteAt
  refine wp_if (fun c1 => ?_) (fun c1 => ?_)
  · exact wp_some trivial
  · refine wp_bind (T_Row_small 29 400 x1 M) (fun r1 hr1 => ?_)
    exact wp_some trivial
theorem T_Tape_isRowOfDays_b2 (M : Mem) (z : Int32) : wpO (F_Tape_isRowOfDays_b2 M z) (fun r => (match r with | .inl s => muU s < muU z | .inr r => (match r with | .inl s => True | .inr r => True))) := by
  unfold F_Tape_isRowOfDays_b2
  refine wp_if (fun c1 => ?_) (fun c1 => ?_)
  · exact wp_some trivial
  · refine wp_bind (T_Tape_byteAt z M) (fun r1 hr1 => ?_)
    refine wp_if (fun c2 => ?_) (fun c2 => ?_)
    · exact wp_some (muU_le c1)
    · exact wp_some trivial
theorem T_Tape_isRowOfDays (M : Mem) : wpO (F_Tape_isRowOfDays M) (fun r => True) := by
  unfold F_Tape_isRowOfDays
  unfold F_Tape_isRowOfDays_l2
  refine wp_bind (Ψ := fun q => (match q with | .inl s => True | .inr r => True)) (wp_while (P := fun _ => True) (μ := fun z => muU z) (fun z hz => wp_mono (T_Tape_isRowOfDays_b2 M z) (fun x hx => ?_)) FUEL 0 trivial (mu_fuel _)) ?_
  · rcases x with x | x
    · exact ⟨trivial, hx⟩
    · rcases x with x | x
      · trivial
      · trivial
  intro q hq
  rcases q with r1 | r1
  · exact wp_some trivial
  · unfold F_Tape_isRowOfDays_j27
    refine wp_if (fun c2 => ?_) (fun c2 => ?_)
    · exact wp_some trivial
    · exact wp_some trivial
theorem T_Tape_isLetter (x1 : Int32) (M : Mem) : wpO (F_Tape_isLetter x1 M) (fun r => True) := by
  unfold F_Tape_isLetter
  refine wp_if (fun c1 => ?_) (fun c1 => ?_)
  · exact wp_some trivial
  · refine wp_if (fun c2 => ?_) (fun c2 => ?_)
    · exact wp_some trivial
    · exact wp_some trivial
theorem T_Tape_isFigure (x1 : Int32) (M : Mem) : wpO (F_Tape_isFigure x1 M) (fun r => True) := by
  unfold F_Tape_isFigure
  refine wp_if (fun c1 => ?_) (fun c1 => ?_)
  · exact wp_some trivial
  · refine wp_if (fun c2 => ?_) (fun c2 => ?_)
    · exact wp_some trivial
    · exact wp_some trivial
theorem T_Tape_step_b156 (z : Mem) : wpO (F_Tape_step_b156 z) (fun r => (match r with | .inl s => Same (fun k => k = 27) z s ∧ muT6 s < muT6 z | .inr r => Same (fun k => k = 27) z r)) := by
  unfold F_Tape_step_b156
  refine wp_if (fun c1 => ?_) (fun c1 => ?_)
  · exact wp_some Same.rfl'
  · refine wp_bind (T_Tape_byteAt (z.1 27 6) z) (fun r7 hr7 => ?_)
    refine wp_bind (T_Tape_isFigure r7 z) (fun r8 hr8 => ?_)
    refine wp_if (fun c2 => ?_) (fun c2 => ?_)
    · exact wp_some ⟨((Same.rfl').sI (by first | omega | (dsimp only; omega))), (muT6_s c1)⟩
    · exact wp_some Same.rfl'
theorem T_Tape_step_b97 (z : Mem) : wpO (F_Tape_step_b97 z) (fun r => (match r with | .inl s => Same (fun k => k = 27) z s ∧ muT6 s < muT6 z | .inr r => Same (fun k => k = 27) z r)) := by
  unfold F_Tape_step_b97
  refine wp_if (fun c1 => ?_) (fun c1 => ?_)
  · exact wp_some Same.rfl'
  · refine wp_bind (T_Tape_byteAt (z.1 27 6) z) (fun r9 hr9 => ?_)
    refine wp_bind (T_Tape_isLetter r9 z) (fun r10 hr10 => ?_)
    refine wp_if (fun c2 => ?_) (fun c2 => ?_)
    · exact wp_some ⟨((Same.rfl').sI (by first | omega | (dsimp only; omega))), (muT6_s c1)⟩
    · exact wp_some Same.rfl'
theorem T_Tape_step_b8 (z : Mem) : wpO (F_Tape_step_b8 z) (fun r => (match r with | .inl s => Same (fun k => k = 27) z s ∧ muT5 s < muT5 z | .inr r => Same (fun k => k = 27) z r)) := by
  unfold F_Tape_step_b8
  refine wp_if (fun c1 => ?_) (fun c1 => ?_)
  · exact wp_some Same.rfl'
  · refine wp_bind (T_Tape_byteAt (z.1 27 5) z) (fun r11 hr11 => ?_)
    refine wp_if (fun c2 => ?_) (fun c2 => ?_)
    · exact wp_some ⟨((Same.rfl').sI (by first | omega | (dsimp only; omega))), (muT5_s c1)⟩
    · exact wp_some Same.rfl'
theorem T_Tape_step (M : Mem) : wpO (F_Tape_step M) (fun r => Same (fun k => k = 27) M r) := by
  unfold F_Tape_step
  unfold F_Tape_step_l8
  refine wp_bind (Ψ := fun r => Same (fun k => k = 27) M r) (wp_while (P := fun z => Same (fun k => k = 27) M z) (μ := fun z => muT5 z) (fun z hz => wp_mono (T_Tape_step_b8  z) (fun x hx => ?_)) FUEL (mSI M 27 5 (M.1 27 6)) ((Same.rfl').sI (by first | omega | (dsimp only; omega))) (muT5_f _)) ?_
  · rcases x with x | x
    · exact ⟨hz.trans (hx.1.mono (fun k hk => by first | omega | exact hk.elim | (dsimp only at hk ⊢; omega))), hx.2⟩
    · exact hz.trans (hx.mono (fun k hk => by first | omega | exact hk.elim | (dsimp only at hk ⊢; omega)))
  intro r hr
  unfold F_Tape_step_j45
  refine wp_if (fun c1 => ?_) (fun c1 => ?_)
  · refine wp_bind (T_Tape_byteAt ((mSI (mSI r 27 6 (r.1 27 5)) 27 7 ((-1))).1 27 5) (mSI (mSI r 27 6 (r.1 27 5)) 27 7 ((-1)))) (fun r1 hr1 => ?_)
    refine wp_bind (T_Tape_isLetter r1 (mSI (mSI r 27 6 (r.1 27 5)) 27 7 ((-1)))) (fun r2 hr2 => ?_)
    refine wp_if (fun c2 => ?_) (fun c2 => ?_)
    · unfold F_Tape_step_l97
      refine wp_bind (Ψ := fun r => Same (fun k => k = 27) M r) (wp_while (P := fun z => Same (fun k => k = 27) M z) (μ := fun z => muT6 z) (fun z hz => wp_mono (T_Tape_step_b97  z) (fun x hx => ?_)) FUEL (mSI (mSI (mSI r 27 6 (r.1 27 5)) 27 7 ((-1))) 27 4 1) ((((((hr).sI (by first | omega | (dsimp only; omega)))).sI (by first | omega | (dsimp only; omega)))).sI (by first | omega | (dsimp only; omega))) (muT6_f _)) ?_
      · rcases x with x | x
        · exact ⟨hz.trans (hx.1.mono (fun k hk => by first | omega | exact hk.elim | (dsimp only at hk ⊢; omega))), hx.2⟩
        · exact hz.trans (hx.mono (fun k hk => by first | omega | exact hk.elim | (dsimp only at hk ⊢; omega)))
      intro r hr
      exact wp_some hr
    · refine wp_bind (T_Tape_byteAt ((mSI (mSI r 27 6 (r.1 27 5)) 27 7 ((-1))).1 27 5) (mSI (mSI r 27 6 (r.1 27 5)) 27 7 ((-1)))) (fun r3 hr3 => ?_)
      refine wp_bind (T_Tape_isFigure r3 (mSI (mSI r 27 6 (r.1 27 5)) 27 7 ((-1)))) (fun r4 hr4 => ?_)
      refine wp_if (fun c3 => ?_) (fun c3 => ?_)
      · unfold F_Tape_step_l156
        refine wp_bind (Ψ := fun r => Same (fun k => k = 27) M r) (wp_while (P := fun z => Same (fun k => k = 27) M z) (μ := fun z => muT6 z) (fun z hz => wp_mono (T_Tape_step_b156  z) (fun x hx => ?_)) FUEL (mSI (mSI (mSI r 27 6 (r.1 27 5)) 27 7 ((-1))) 27 4 2) ((((((hr).sI (by first | omega | (dsimp only; omega)))).sI (by first | omega | (dsimp only; omega)))).sI (by first | omega | (dsimp only; omega))) (muT6_f _)) ?_
        · rcases x with x | x
          · exact ⟨hz.trans (hx.1.mono (fun k hk => by first | omega | exact hk.elim | (dsimp only at hk ⊢; omega))), hx.2⟩
          · exact hz.trans (hx.mono (fun k hk => by first | omega | exact hk.elim | (dsimp only at hk ⊢; omega)))
        intro r hr
        unfold F_Tape_step_j195
        refine wp_bind (T_Tape_byteAt (r.1 27 5) r) (fun r6 hr6 => ?_)
        refine wp_if (fun c4 => ?_) (fun c4 => ?_)
        · refine wp_if (fun c5 => ?_) (fun c5 => ?_)
          · exact wp_some ((hr).sI (by first | omega | (dsimp only; omega)))
          · exact wp_some ((hr).sI (by first | omega | (dsimp only; omega)))
        · exact wp_some ((hr).sI (by first | omega | (dsimp only; omega)))
      · refine wp_bind (T_Tape_byteAt ((mSI (mSI (mSI r 27 6 (r.1 27 5)) 27 7 ((-1))) 27 4 3).1 27 5) (mSI (mSI (mSI r 27 6 (r.1 27 5)) 27 7 ((-1))) 27 4 3)) (fun r5 hr5 => ?_)
        exact wp_some ((((((((((hr).sI (by first | omega | (dsimp only; omega)))).sI (by first | omega | (dsimp only; omega)))).sI (by first | omega | (dsimp only; omega)))).sI (by first | omega | (dsimp only; omega)))).sI (by first | omega | (dsimp only; omega)))
  · exact wp_some ((((((hr).sI (by first | omega | (dsimp only; omega)))).sI (by first | omega | (dsimp only; omega)))).sI (by first | omega | (dsimp only; omega)))
theorem T_Tape_isWord (w : Nat) (M : Mem) : wpO (F_Tape_isWord w M) (fun _ => True) := by
  unfold F_Tape_isWord F_String_length
  refine wp_if (fun c1 => ?_) (fun _ => wp_some trivial)
  refine wp_bind (wp_some (Φ := fun _ => True) trivial) (fun r1 _ => wp_if (fun c2 => ?_) (fun _ => wp_some trivial))
  unfold F_Tape_isWord_l28
  refine wp_bind (Ψ := fun _ => True) (wp_while (P := fun z => 0 ≤ z.toInt) (μ := fun z => muU z) (fun z hz => ?_) FUEL 0 (by decide) (mu_fuel _)) (fun q _ => ?_)
  · unfold F_Tape_isWord_b28 F_String_length F_String_charAt
    refine wp_eq rfl (wp_if (fun _ => wp_some trivial) (fun c3 => ?_))
    refine wp_bind (T_Tape_byteAt _ _) (fun r3 _ => ?_)
    have c4 := m32.mp c3
    have hb : inb z (strL.getD w 0) := inb_of (by rw [lt_i, li0]; omega) c4
    rw [if_pos hb]
    refine wp_eq rfl (wp_if (fun _ => wp_some ⟨?_, muU_lt c4⟩) (fun _ => wp_some trivial))
    show 0 ≤ (z + 1).toInt
    rw [lt_i] at c4
    have := i_hi (nI (strL.getD w 0))
    rw [up1 (by omega)]
    omega
  · rcases q with q | q <;> exact wp_some trivial

theorem T_Tape_isNumber (M : Mem) : wpO (F_Tape_isNumber M) (fun r => True) := by
  unfold F_Tape_isNumber
  refine wp_if (fun c1 => ?_) (fun c1 => ?_)
  · refine wp_if (fun c2 => ?_) (fun c2 => ?_)
    · exact wp_some trivial
    · exact wp_some trivial
  · exact wp_some trivial
theorem T_Tape_isSign (x1 : Int32) (M : Mem) : wpO (F_Tape_isSign x1 M) (fun r => True) := by
  unfold F_Tape_isSign
  refine wp_if (fun c1 => ?_) (fun c1 => ?_)
  · refine wp_if (fun c2 => ?_) (fun c2 => ?_)
    · exact wp_some trivial
    · exact wp_some trivial
  · exact wp_some trivial
theorem T_Tape_readSeen_b112 (x1 : Int32) (x4 : Int32) (z : Int32 × Mem) : wpO (F_Tape_readSeen_b112 x1 x4 z) (fun r => (match r with | .inl s => Same (fun k => k = 31) z.2 s.2 ∧ muU s.1 < muU z.1 | .inr r => Same (fun k => k = 31) z.2 r)) := by
  unfold F_Tape_readSeen_b112
  refine wp_if (fun c1 => ?_) (fun c1 => ?_)
  · exact wp_some Same.rfl'
  · refine wp_if (fun c2 => ?_) (fun c2 => ?_)
    · exact wp_some Same.rfl'
    · refine wp_bind (T_Row_put 31 13 (x1 + z.1) ((z.2.1 27 7).toInt64) z.2) (fun r8 hr8 => ?_)
      have mr8 : Same (fun k => k = 31) z.2 r8 := hr8.mono (fun k hk => by first | omega | exact hk.elim | (dsimp only at hk ⊢; omega))
      exact wp_some ⟨mr8, (muU_le c2)⟩
theorem T_Tape_readSeen (x1 : Int32) (M : Mem) : wpO (F_Tape_readSeen x1 M) (fun r => Same (fun k => k = 27 ∨ (31 ≤ k ∧ k ≤ 33)) M r.2) := by
  unfold F_Tape_readSeen
  refine wp_bind (T_Tape_isWord 1 M) (fun r1 hr1 => ?_)
  refine wp_if (fun c1 => ?_) (fun c1 => ?_)
  · unfold F_Tape_readSeen_j20
    refine wp_if (fun c2 => ?_) (fun c2 => ?_)
    · unfold F_Tape_readSeen_j32
      refine wp_if (fun c3 => ?_) (fun c3 => ?_)
      · unfold F_Tape_readSeen_j45
        refine wp_bind (T_Tape_step M) (fun r2 hr2 => ?_)
        have mr2 : Same (fun k => k = 27 ∨ (31 ≤ k ∧ k ≤ 33)) M r2 := hr2.mono (fun k hk => by first | omega | exact hk.elim | (dsimp only at hk ⊢; omega))
        refine wp_bind (T_Tape_isWord 2 r2) (fun r3 hr3 => ?_)
        refine wp_if (fun c4 => ?_) (fun c4 => ?_)
        · refine wp_bind (T_Tape_step r2) (fun r4 hr4 => ?_)
          have mr4 := (mr2).trans (hr4.mono (fun k hk => by first | omega | exact hk.elim | (dsimp only at hk ⊢; omega)))
          refine wp_bind (T_Tape_isNumber r4) (fun r5 hr5 => ?_)
          refine wp_if (fun c5 => ?_) (fun c5 => ?_)
          · refine wp_bind (T_Row_at 33 3 (r4.1 27 7) r4) (fun r6 hr6 => ?_)
            refine wp_if (fun c6 => ?_) (fun c6 => ?_)
            · refine wp_bind (T_Row_put 33 3 (r4.1 27 7) ((r4.1 27 5).toInt64) r4) (fun r9 hr9 => ?_)
              have mr9 := (mr4).trans (hr9.mono (fun k hk => by first | omega | exact hk.elim | (dsimp only at hk ⊢; omega)))
              unfold F_Tape_readSeen_l112
              refine wp_bind (Ψ := fun r => Same (fun k => k = 27 ∨ (31 ≤ k ∧ k ≤ 33)) M r) (wp_while (P := fun z => Same (fun k => k = 27 ∨ (31 ≤ k ∧ k ≤ 33)) M z.2) (μ := fun z => muU z.1) (fun z hz => wp_mono (T_Tape_readSeen_b112 x1 2 z) (fun x hx => ?_)) FUEL (0, r9) mr9 (mu_fuel _)) ?_
              · rcases x with x | x
                · exact ⟨hz.trans (hx.1.mono (fun k hk => by first | omega | exact hk.elim | (dsimp only at hk ⊢; omega))), hx.2⟩
                · exact hz.trans (hx.mono (fun k hk => by first | omega | exact hk.elim | (dsimp only at hk ⊢; omega)))
              intro r hr
              unfold F_Tape_readSeen_j147
              refine wp_bind (T_Tape_step r) (fun r7 hr7 => ?_)
              have mr7 := (hr).trans (hr7.mono (fun k hk => by first | omega | exact hk.elim | (dsimp only at hk ⊢; omega)))
              exact wp_some mr7
            · unfold F_Tape_readSeen_l112
              refine wp_bind (Ψ := fun r => Same (fun k => k = 27 ∨ (31 ≤ k ∧ k ≤ 33)) M r) (wp_while (P := fun z => Same (fun k => k = 27 ∨ (31 ≤ k ∧ k ≤ 33)) M z.2) (μ := fun z => muU z.1) (fun z hz => wp_mono (T_Tape_readSeen_b112 x1 2 z) (fun x hx => ?_)) FUEL (0, r4) mr4 (mu_fuel _)) ?_
              · rcases x with x | x
                · exact ⟨hz.trans (hx.1.mono (fun k hk => by first | omega | exact hk.elim | (dsimp only at hk ⊢; omega))), hx.2⟩
                · exact hz.trans (hx.mono (fun k hk => by first | omega | exact hk.elim | (dsimp only at hk ⊢; omega)))
              intro r hr
              unfold F_Tape_readSeen_j147
              refine wp_bind (T_Tape_step r) (fun r7 hr7 => ?_)
              have mr7 := (hr).trans (hr7.mono (fun k hk => by first | omega | exact hk.elim | (dsimp only at hk ⊢; omega)))
              exact wp_some mr7
          · exact wp_some mr4
        · exact wp_some mr2
      · unfold F_Tape_readSeen_j45
        refine wp_bind (T_Tape_step M) (fun r2 hr2 => ?_)
        have mr2 : Same (fun k => k = 27 ∨ (31 ≤ k ∧ k ≤ 33)) M r2 := hr2.mono (fun k hk => by first | omega | exact hk.elim | (dsimp only at hk ⊢; omega))
        refine wp_bind (T_Tape_isWord 2 r2) (fun r3 hr3 => ?_)
        refine wp_if (fun c7 => ?_) (fun c7 => ?_)
        · refine wp_bind (T_Tape_step r2) (fun r4 hr4 => ?_)
          have mr4 := (mr2).trans (hr4.mono (fun k hk => by first | omega | exact hk.elim | (dsimp only at hk ⊢; omega)))
          refine wp_bind (T_Tape_isNumber r4) (fun r5 hr5 => ?_)
          refine wp_if (fun c8 => ?_) (fun c8 => ?_)
          · refine wp_bind (T_Row_at 33 3 (r4.1 27 7) r4) (fun r6 hr6 => ?_)
            refine wp_if (fun c9 => ?_) (fun c9 => ?_)
            · refine wp_bind (T_Row_put 33 3 (r4.1 27 7) ((r4.1 27 5).toInt64) r4) (fun r9 hr9 => ?_)
              have mr9 := (mr4).trans (hr9.mono (fun k hk => by first | omega | exact hk.elim | (dsimp only at hk ⊢; omega)))
              unfold F_Tape_readSeen_l112
              refine wp_bind (Ψ := fun r => Same (fun k => k = 27 ∨ (31 ≤ k ∧ k ≤ 33)) M r) (wp_while (P := fun z => Same (fun k => k = 27 ∨ (31 ≤ k ∧ k ≤ 33)) M z.2) (μ := fun z => muU z.1) (fun z hz => wp_mono (T_Tape_readSeen_b112 x1 (M.1 27 7) z) (fun x hx => ?_)) FUEL (0, r9) mr9 (mu_fuel _)) ?_
              · rcases x with x | x
                · exact ⟨hz.trans (hx.1.mono (fun k hk => by first | omega | exact hk.elim | (dsimp only at hk ⊢; omega))), hx.2⟩
                · exact hz.trans (hx.mono (fun k hk => by first | omega | exact hk.elim | (dsimp only at hk ⊢; omega)))
              intro r hr
              unfold F_Tape_readSeen_j147
              refine wp_bind (T_Tape_step r) (fun r7 hr7 => ?_)
              have mr7 := (hr).trans (hr7.mono (fun k hk => by first | omega | exact hk.elim | (dsimp only at hk ⊢; omega)))
              exact wp_some mr7
            · unfold F_Tape_readSeen_l112
              refine wp_bind (Ψ := fun r => Same (fun k => k = 27 ∨ (31 ≤ k ∧ k ≤ 33)) M r) (wp_while (P := fun z => Same (fun k => k = 27 ∨ (31 ≤ k ∧ k ≤ 33)) M z.2) (μ := fun z => muU z.1) (fun z hz => wp_mono (T_Tape_readSeen_b112 x1 (M.1 27 7) z) (fun x hx => ?_)) FUEL (0, r4) mr4 (mu_fuel _)) ?_
              · rcases x with x | x
                · exact ⟨hz.trans (hx.1.mono (fun k hk => by first | omega | exact hk.elim | (dsimp only at hk ⊢; omega))), hx.2⟩
                · exact hz.trans (hx.mono (fun k hk => by first | omega | exact hk.elim | (dsimp only at hk ⊢; omega)))
              intro r hr
              unfold F_Tape_readSeen_j147
              refine wp_bind (T_Tape_step r) (fun r7 hr7 => ?_)
              have mr7 := (hr).trans (hr7.mono (fun k hk => by first | omega | exact hk.elim | (dsimp only at hk ⊢; omega)))
              exact wp_some mr7
          · exact wp_some mr4
        · exact wp_some mr2
    · unfold F_Tape_readSeen_j32
      refine wp_if (fun c10 => ?_) (fun c10 => ?_)
      · unfold F_Tape_readSeen_j45
        refine wp_bind (T_Tape_step M) (fun r2 hr2 => ?_)
        have mr2 : Same (fun k => k = 27 ∨ (31 ≤ k ∧ k ≤ 33)) M r2 := hr2.mono (fun k hk => by first | omega | exact hk.elim | (dsimp only at hk ⊢; omega))
        refine wp_bind (T_Tape_isWord 2 r2) (fun r3 hr3 => ?_)
        refine wp_if (fun c11 => ?_) (fun c11 => ?_)
        · refine wp_bind (T_Tape_step r2) (fun r4 hr4 => ?_)
          have mr4 := (mr2).trans (hr4.mono (fun k hk => by first | omega | exact hk.elim | (dsimp only at hk ⊢; omega)))
          refine wp_bind (T_Tape_isNumber r4) (fun r5 hr5 => ?_)
          refine wp_if (fun c12 => ?_) (fun c12 => ?_)
          · refine wp_bind (T_Row_at 33 3 (r4.1 27 7) r4) (fun r6 hr6 => ?_)
            refine wp_if (fun c13 => ?_) (fun c13 => ?_)
            · refine wp_bind (T_Row_put 33 3 (r4.1 27 7) ((r4.1 27 5).toInt64) r4) (fun r9 hr9 => ?_)
              have mr9 := (mr4).trans (hr9.mono (fun k hk => by first | omega | exact hk.elim | (dsimp only at hk ⊢; omega)))
              unfold F_Tape_readSeen_l112
              refine wp_bind (Ψ := fun r => Same (fun k => k = 27 ∨ (31 ≤ k ∧ k ≤ 33)) M r) (wp_while (P := fun z => Same (fun k => k = 27 ∨ (31 ≤ k ∧ k ≤ 33)) M z.2) (μ := fun z => muU z.1) (fun z hz => wp_mono (T_Tape_readSeen_b112 x1 2 z) (fun x hx => ?_)) FUEL ((M.1 27 7), r9) mr9 (mu_fuel _)) ?_
              · rcases x with x | x
                · exact ⟨hz.trans (hx.1.mono (fun k hk => by first | omega | exact hk.elim | (dsimp only at hk ⊢; omega))), hx.2⟩
                · exact hz.trans (hx.mono (fun k hk => by first | omega | exact hk.elim | (dsimp only at hk ⊢; omega)))
              intro r hr
              unfold F_Tape_readSeen_j147
              refine wp_bind (T_Tape_step r) (fun r7 hr7 => ?_)
              have mr7 := (hr).trans (hr7.mono (fun k hk => by first | omega | exact hk.elim | (dsimp only at hk ⊢; omega)))
              exact wp_some mr7
            · unfold F_Tape_readSeen_l112
              refine wp_bind (Ψ := fun r => Same (fun k => k = 27 ∨ (31 ≤ k ∧ k ≤ 33)) M r) (wp_while (P := fun z => Same (fun k => k = 27 ∨ (31 ≤ k ∧ k ≤ 33)) M z.2) (μ := fun z => muU z.1) (fun z hz => wp_mono (T_Tape_readSeen_b112 x1 2 z) (fun x hx => ?_)) FUEL ((M.1 27 7), r4) mr4 (mu_fuel _)) ?_
              · rcases x with x | x
                · exact ⟨hz.trans (hx.1.mono (fun k hk => by first | omega | exact hk.elim | (dsimp only at hk ⊢; omega))), hx.2⟩
                · exact hz.trans (hx.mono (fun k hk => by first | omega | exact hk.elim | (dsimp only at hk ⊢; omega)))
              intro r hr
              unfold F_Tape_readSeen_j147
              refine wp_bind (T_Tape_step r) (fun r7 hr7 => ?_)
              have mr7 := (hr).trans (hr7.mono (fun k hk => by first | omega | exact hk.elim | (dsimp only at hk ⊢; omega)))
              exact wp_some mr7
          · exact wp_some mr4
        · exact wp_some mr2
      · unfold F_Tape_readSeen_j45
        refine wp_bind (T_Tape_step M) (fun r2 hr2 => ?_)
        have mr2 : Same (fun k => k = 27 ∨ (31 ≤ k ∧ k ≤ 33)) M r2 := hr2.mono (fun k hk => by first | omega | exact hk.elim | (dsimp only at hk ⊢; omega))
        refine wp_bind (T_Tape_isWord 2 r2) (fun r3 hr3 => ?_)
        refine wp_if (fun c14 => ?_) (fun c14 => ?_)
        · refine wp_bind (T_Tape_step r2) (fun r4 hr4 => ?_)
          have mr4 := (mr2).trans (hr4.mono (fun k hk => by first | omega | exact hk.elim | (dsimp only at hk ⊢; omega)))
          refine wp_bind (T_Tape_isNumber r4) (fun r5 hr5 => ?_)
          refine wp_if (fun c15 => ?_) (fun c15 => ?_)
          · refine wp_bind (T_Row_at 33 3 (r4.1 27 7) r4) (fun r6 hr6 => ?_)
            refine wp_if (fun c16 => ?_) (fun c16 => ?_)
            · refine wp_bind (T_Row_put 33 3 (r4.1 27 7) ((r4.1 27 5).toInt64) r4) (fun r9 hr9 => ?_)
              have mr9 := (mr4).trans (hr9.mono (fun k hk => by first | omega | exact hk.elim | (dsimp only at hk ⊢; omega)))
              unfold F_Tape_readSeen_l112
              refine wp_bind (Ψ := fun r => Same (fun k => k = 27 ∨ (31 ≤ k ∧ k ≤ 33)) M r) (wp_while (P := fun z => Same (fun k => k = 27 ∨ (31 ≤ k ∧ k ≤ 33)) M z.2) (μ := fun z => muU z.1) (fun z hz => wp_mono (T_Tape_readSeen_b112 x1 (M.1 27 7) z) (fun x hx => ?_)) FUEL ((M.1 27 7), r9) mr9 (mu_fuel _)) ?_
              · rcases x with x | x
                · exact ⟨hz.trans (hx.1.mono (fun k hk => by first | omega | exact hk.elim | (dsimp only at hk ⊢; omega))), hx.2⟩
                · exact hz.trans (hx.mono (fun k hk => by first | omega | exact hk.elim | (dsimp only at hk ⊢; omega)))
              intro r hr
              unfold F_Tape_readSeen_j147
              refine wp_bind (T_Tape_step r) (fun r7 hr7 => ?_)
              have mr7 := (hr).trans (hr7.mono (fun k hk => by first | omega | exact hk.elim | (dsimp only at hk ⊢; omega)))
              exact wp_some mr7
            · unfold F_Tape_readSeen_l112
              refine wp_bind (Ψ := fun r => Same (fun k => k = 27 ∨ (31 ≤ k ∧ k ≤ 33)) M r) (wp_while (P := fun z => Same (fun k => k = 27 ∨ (31 ≤ k ∧ k ≤ 33)) M z.2) (μ := fun z => muU z.1) (fun z hz => wp_mono (T_Tape_readSeen_b112 x1 (M.1 27 7) z) (fun x hx => ?_)) FUEL ((M.1 27 7), r4) mr4 (mu_fuel _)) ?_
              · rcases x with x | x
                · exact ⟨hz.trans (hx.1.mono (fun k hk => by first | omega | exact hk.elim | (dsimp only at hk ⊢; omega))), hx.2⟩
                · exact hz.trans (hx.mono (fun k hk => by first | omega | exact hk.elim | (dsimp only at hk ⊢; omega)))
              intro r hr
              unfold F_Tape_readSeen_j147
              refine wp_bind (T_Tape_step r) (fun r7 hr7 => ?_)
              have mr7 := (hr).trans (hr7.mono (fun k hk => by first | omega | exact hk.elim | (dsimp only at hk ⊢; omega)))
              exact wp_some mr7
          · exact wp_some mr4
        · exact wp_some mr2
  · refine wp_bind (T_Tape_isNumber M) (fun r10 hr10 => ?_)
    refine wp_if (fun c17 => ?_) (fun c17 => ?_)
    · unfold F_Tape_readSeen_j20
      refine wp_if (fun c18 => ?_) (fun c18 => ?_)
      · unfold F_Tape_readSeen_j32
        refine wp_if (fun c19 => ?_) (fun c19 => ?_)
        · unfold F_Tape_readSeen_j45
          refine wp_bind (T_Tape_step M) (fun r2 hr2 => ?_)
          have mr2 : Same (fun k => k = 27 ∨ (31 ≤ k ∧ k ≤ 33)) M r2 := hr2.mono (fun k hk => by first | omega | exact hk.elim | (dsimp only at hk ⊢; omega))
          refine wp_bind (T_Tape_isWord 2 r2) (fun r3 hr3 => ?_)
          refine wp_if (fun c20 => ?_) (fun c20 => ?_)
          · refine wp_bind (T_Tape_step r2) (fun r4 hr4 => ?_)
            have mr4 := (mr2).trans (hr4.mono (fun k hk => by first | omega | exact hk.elim | (dsimp only at hk ⊢; omega)))
            refine wp_bind (T_Tape_isNumber r4) (fun r5 hr5 => ?_)
            refine wp_if (fun c21 => ?_) (fun c21 => ?_)
            · refine wp_bind (T_Row_at 33 3 (r4.1 27 7) r4) (fun r6 hr6 => ?_)
              refine wp_if (fun c22 => ?_) (fun c22 => ?_)
              · refine wp_bind (T_Row_put 33 3 (r4.1 27 7) ((r4.1 27 5).toInt64) r4) (fun r9 hr9 => ?_)
                have mr9 := (mr4).trans (hr9.mono (fun k hk => by first | omega | exact hk.elim | (dsimp only at hk ⊢; omega)))
                unfold F_Tape_readSeen_l112
                refine wp_bind (Ψ := fun r => Same (fun k => k = 27 ∨ (31 ≤ k ∧ k ≤ 33)) M r) (wp_while (P := fun z => Same (fun k => k = 27 ∨ (31 ≤ k ∧ k ≤ 33)) M z.2) (μ := fun z => muU z.1) (fun z hz => wp_mono (T_Tape_readSeen_b112 x1 2 z) (fun x hx => ?_)) FUEL (0, r9) mr9 (mu_fuel _)) ?_
                · rcases x with x | x
                  · exact ⟨hz.trans (hx.1.mono (fun k hk => by first | omega | exact hk.elim | (dsimp only at hk ⊢; omega))), hx.2⟩
                  · exact hz.trans (hx.mono (fun k hk => by first | omega | exact hk.elim | (dsimp only at hk ⊢; omega)))
                intro r hr
                unfold F_Tape_readSeen_j147
                refine wp_bind (T_Tape_step r) (fun r7 hr7 => ?_)
                have mr7 := (hr).trans (hr7.mono (fun k hk => by first | omega | exact hk.elim | (dsimp only at hk ⊢; omega)))
                exact wp_some mr7
              · unfold F_Tape_readSeen_l112
                refine wp_bind (Ψ := fun r => Same (fun k => k = 27 ∨ (31 ≤ k ∧ k ≤ 33)) M r) (wp_while (P := fun z => Same (fun k => k = 27 ∨ (31 ≤ k ∧ k ≤ 33)) M z.2) (μ := fun z => muU z.1) (fun z hz => wp_mono (T_Tape_readSeen_b112 x1 2 z) (fun x hx => ?_)) FUEL (0, r4) mr4 (mu_fuel _)) ?_
                · rcases x with x | x
                  · exact ⟨hz.trans (hx.1.mono (fun k hk => by first | omega | exact hk.elim | (dsimp only at hk ⊢; omega))), hx.2⟩
                  · exact hz.trans (hx.mono (fun k hk => by first | omega | exact hk.elim | (dsimp only at hk ⊢; omega)))
                intro r hr
                unfold F_Tape_readSeen_j147
                refine wp_bind (T_Tape_step r) (fun r7 hr7 => ?_)
                have mr7 := (hr).trans (hr7.mono (fun k hk => by first | omega | exact hk.elim | (dsimp only at hk ⊢; omega)))
                exact wp_some mr7
            · exact wp_some mr4
          · exact wp_some mr2
        · unfold F_Tape_readSeen_j45
          refine wp_bind (T_Tape_step M) (fun r2 hr2 => ?_)
          have mr2 : Same (fun k => k = 27 ∨ (31 ≤ k ∧ k ≤ 33)) M r2 := hr2.mono (fun k hk => by first | omega | exact hk.elim | (dsimp only at hk ⊢; omega))
          refine wp_bind (T_Tape_isWord 2 r2) (fun r3 hr3 => ?_)
          refine wp_if (fun c23 => ?_) (fun c23 => ?_)
          · refine wp_bind (T_Tape_step r2) (fun r4 hr4 => ?_)
            have mr4 := (mr2).trans (hr4.mono (fun k hk => by first | omega | exact hk.elim | (dsimp only at hk ⊢; omega)))
            refine wp_bind (T_Tape_isNumber r4) (fun r5 hr5 => ?_)
            refine wp_if (fun c24 => ?_) (fun c24 => ?_)
            · refine wp_bind (T_Row_at 33 3 (r4.1 27 7) r4) (fun r6 hr6 => ?_)
              refine wp_if (fun c25 => ?_) (fun c25 => ?_)
              · refine wp_bind (T_Row_put 33 3 (r4.1 27 7) ((r4.1 27 5).toInt64) r4) (fun r9 hr9 => ?_)
                have mr9 := (mr4).trans (hr9.mono (fun k hk => by first | omega | exact hk.elim | (dsimp only at hk ⊢; omega)))
                unfold F_Tape_readSeen_l112
                refine wp_bind (Ψ := fun r => Same (fun k => k = 27 ∨ (31 ≤ k ∧ k ≤ 33)) M r) (wp_while (P := fun z => Same (fun k => k = 27 ∨ (31 ≤ k ∧ k ≤ 33)) M z.2) (μ := fun z => muU z.1) (fun z hz => wp_mono (T_Tape_readSeen_b112 x1 (M.1 27 7) z) (fun x hx => ?_)) FUEL (0, r9) mr9 (mu_fuel _)) ?_
                · rcases x with x | x
                  · exact ⟨hz.trans (hx.1.mono (fun k hk => by first | omega | exact hk.elim | (dsimp only at hk ⊢; omega))), hx.2⟩
                  · exact hz.trans (hx.mono (fun k hk => by first | omega | exact hk.elim | (dsimp only at hk ⊢; omega)))
                intro r hr
                unfold F_Tape_readSeen_j147
                refine wp_bind (T_Tape_step r) (fun r7 hr7 => ?_)
                have mr7 := (hr).trans (hr7.mono (fun k hk => by first | omega | exact hk.elim | (dsimp only at hk ⊢; omega)))
                exact wp_some mr7
              · unfold F_Tape_readSeen_l112
                refine wp_bind (Ψ := fun r => Same (fun k => k = 27 ∨ (31 ≤ k ∧ k ≤ 33)) M r) (wp_while (P := fun z => Same (fun k => k = 27 ∨ (31 ≤ k ∧ k ≤ 33)) M z.2) (μ := fun z => muU z.1) (fun z hz => wp_mono (T_Tape_readSeen_b112 x1 (M.1 27 7) z) (fun x hx => ?_)) FUEL (0, r4) mr4 (mu_fuel _)) ?_
                · rcases x with x | x
                  · exact ⟨hz.trans (hx.1.mono (fun k hk => by first | omega | exact hk.elim | (dsimp only at hk ⊢; omega))), hx.2⟩
                  · exact hz.trans (hx.mono (fun k hk => by first | omega | exact hk.elim | (dsimp only at hk ⊢; omega)))
                intro r hr
                unfold F_Tape_readSeen_j147
                refine wp_bind (T_Tape_step r) (fun r7 hr7 => ?_)
                have mr7 := (hr).trans (hr7.mono (fun k hk => by first | omega | exact hk.elim | (dsimp only at hk ⊢; omega)))
                exact wp_some mr7
            · exact wp_some mr4
          · exact wp_some mr2
      · unfold F_Tape_readSeen_j32
        refine wp_if (fun c26 => ?_) (fun c26 => ?_)
        · unfold F_Tape_readSeen_j45
          refine wp_bind (T_Tape_step M) (fun r2 hr2 => ?_)
          have mr2 : Same (fun k => k = 27 ∨ (31 ≤ k ∧ k ≤ 33)) M r2 := hr2.mono (fun k hk => by first | omega | exact hk.elim | (dsimp only at hk ⊢; omega))
          refine wp_bind (T_Tape_isWord 2 r2) (fun r3 hr3 => ?_)
          refine wp_if (fun c27 => ?_) (fun c27 => ?_)
          · refine wp_bind (T_Tape_step r2) (fun r4 hr4 => ?_)
            have mr4 := (mr2).trans (hr4.mono (fun k hk => by first | omega | exact hk.elim | (dsimp only at hk ⊢; omega)))
            refine wp_bind (T_Tape_isNumber r4) (fun r5 hr5 => ?_)
            refine wp_if (fun c28 => ?_) (fun c28 => ?_)
            · refine wp_bind (T_Row_at 33 3 (r4.1 27 7) r4) (fun r6 hr6 => ?_)
              refine wp_if (fun c29 => ?_) (fun c29 => ?_)
              · refine wp_bind (T_Row_put 33 3 (r4.1 27 7) ((r4.1 27 5).toInt64) r4) (fun r9 hr9 => ?_)
                have mr9 := (mr4).trans (hr9.mono (fun k hk => by first | omega | exact hk.elim | (dsimp only at hk ⊢; omega)))
                unfold F_Tape_readSeen_l112
                refine wp_bind (Ψ := fun r => Same (fun k => k = 27 ∨ (31 ≤ k ∧ k ≤ 33)) M r) (wp_while (P := fun z => Same (fun k => k = 27 ∨ (31 ≤ k ∧ k ≤ 33)) M z.2) (μ := fun z => muU z.1) (fun z hz => wp_mono (T_Tape_readSeen_b112 x1 2 z) (fun x hx => ?_)) FUEL ((M.1 27 7), r9) mr9 (mu_fuel _)) ?_
                · rcases x with x | x
                  · exact ⟨hz.trans (hx.1.mono (fun k hk => by first | omega | exact hk.elim | (dsimp only at hk ⊢; omega))), hx.2⟩
                  · exact hz.trans (hx.mono (fun k hk => by first | omega | exact hk.elim | (dsimp only at hk ⊢; omega)))
                intro r hr
                unfold F_Tape_readSeen_j147
                refine wp_bind (T_Tape_step r) (fun r7 hr7 => ?_)
                have mr7 := (hr).trans (hr7.mono (fun k hk => by first | omega | exact hk.elim | (dsimp only at hk ⊢; omega)))
                exact wp_some mr7
              · unfold F_Tape_readSeen_l112
                refine wp_bind (Ψ := fun r => Same (fun k => k = 27 ∨ (31 ≤ k ∧ k ≤ 33)) M r) (wp_while (P := fun z => Same (fun k => k = 27 ∨ (31 ≤ k ∧ k ≤ 33)) M z.2) (μ := fun z => muU z.1) (fun z hz => wp_mono (T_Tape_readSeen_b112 x1 2 z) (fun x hx => ?_)) FUEL ((M.1 27 7), r4) mr4 (mu_fuel _)) ?_
                · rcases x with x | x
                  · exact ⟨hz.trans (hx.1.mono (fun k hk => by first | omega | exact hk.elim | (dsimp only at hk ⊢; omega))), hx.2⟩
                  · exact hz.trans (hx.mono (fun k hk => by first | omega | exact hk.elim | (dsimp only at hk ⊢; omega)))
                intro r hr
                unfold F_Tape_readSeen_j147
                refine wp_bind (T_Tape_step r) (fun r7 hr7 => ?_)
                have mr7 := (hr).trans (hr7.mono (fun k hk => by first | omega | exact hk.elim | (dsimp only at hk ⊢; omega)))
                exact wp_some mr7
            · exact wp_some mr4
          · exact wp_some mr2
        · unfold F_Tape_readSeen_j45
          refine wp_bind (T_Tape_step M) (fun r2 hr2 => ?_)
          have mr2 : Same (fun k => k = 27 ∨ (31 ≤ k ∧ k ≤ 33)) M r2 := hr2.mono (fun k hk => by first | omega | exact hk.elim | (dsimp only at hk ⊢; omega))
          refine wp_bind (T_Tape_isWord 2 r2) (fun r3 hr3 => ?_)
          refine wp_if (fun c30 => ?_) (fun c30 => ?_)
          · refine wp_bind (T_Tape_step r2) (fun r4 hr4 => ?_)
            have mr4 := (mr2).trans (hr4.mono (fun k hk => by first | omega | exact hk.elim | (dsimp only at hk ⊢; omega)))
            refine wp_bind (T_Tape_isNumber r4) (fun r5 hr5 => ?_)
            refine wp_if (fun c31 => ?_) (fun c31 => ?_)
            · refine wp_bind (T_Row_at 33 3 (r4.1 27 7) r4) (fun r6 hr6 => ?_)
              refine wp_if (fun c32 => ?_) (fun c32 => ?_)
              · refine wp_bind (T_Row_put 33 3 (r4.1 27 7) ((r4.1 27 5).toInt64) r4) (fun r9 hr9 => ?_)
                have mr9 := (mr4).trans (hr9.mono (fun k hk => by first | omega | exact hk.elim | (dsimp only at hk ⊢; omega)))
                unfold F_Tape_readSeen_l112
                refine wp_bind (Ψ := fun r => Same (fun k => k = 27 ∨ (31 ≤ k ∧ k ≤ 33)) M r) (wp_while (P := fun z => Same (fun k => k = 27 ∨ (31 ≤ k ∧ k ≤ 33)) M z.2) (μ := fun z => muU z.1) (fun z hz => wp_mono (T_Tape_readSeen_b112 x1 (M.1 27 7) z) (fun x hx => ?_)) FUEL ((M.1 27 7), r9) mr9 (mu_fuel _)) ?_
                · rcases x with x | x
                  · exact ⟨hz.trans (hx.1.mono (fun k hk => by first | omega | exact hk.elim | (dsimp only at hk ⊢; omega))), hx.2⟩
                  · exact hz.trans (hx.mono (fun k hk => by first | omega | exact hk.elim | (dsimp only at hk ⊢; omega)))
                intro r hr
                unfold F_Tape_readSeen_j147
                refine wp_bind (T_Tape_step r) (fun r7 hr7 => ?_)
                have mr7 := (hr).trans (hr7.mono (fun k hk => by first | omega | exact hk.elim | (dsimp only at hk ⊢; omega)))
                exact wp_some mr7
              · unfold F_Tape_readSeen_l112
                refine wp_bind (Ψ := fun r => Same (fun k => k = 27 ∨ (31 ≤ k ∧ k ≤ 33)) M r) (wp_while (P := fun z => Same (fun k => k = 27 ∨ (31 ≤ k ∧ k ≤ 33)) M z.2) (μ := fun z => muU z.1) (fun z hz => wp_mono (T_Tape_readSeen_b112 x1 (M.1 27 7) z) (fun x hx => ?_)) FUEL ((M.1 27 7), r4) mr4 (mu_fuel _)) ?_
                · rcases x with x | x
                  · exact ⟨hz.trans (hx.1.mono (fun k hk => by first | omega | exact hk.elim | (dsimp only at hk ⊢; omega))), hx.2⟩
                  · exact hz.trans (hx.mono (fun k hk => by first | omega | exact hk.elim | (dsimp only at hk ⊢; omega)))
                intro r hr
                unfold F_Tape_readSeen_j147
                refine wp_bind (T_Tape_step r) (fun r7 hr7 => ?_)
                have mr7 := (hr).trans (hr7.mono (fun k hk => by first | omega | exact hk.elim | (dsimp only at hk ⊢; omega)))
                exact wp_some mr7
            · exact wp_some mr4
          · exact wp_some mr2
    · exact wp_some Same.rfl'
theorem T_Tape_readMood_b76 (x2 : Int32) (z : Int32 × Mem) : wpO (F_Tape_readMood_b76 x2 z) (fun r => (match r with | .inl s => Same (fun k => k = 27 ∨ (31 ≤ k ∧ k ≤ 33)) z.2 s.2 ∧ muU s.1 < muU z.1 | .inr r => (match r with | .inl s => Same (fun k => k = 27 ∨ (31 ≤ k ∧ k ≤ 33)) z.2 s | .inr r => Same (fun k => k = 27 ∨ (31 ≤ k ∧ k ≤ 33)) z.2 r))) := by
  unfold F_Tape_readMood_b76
  refine wp_if (fun c1 => ?_) (fun c1 => ?_)
  · exact wp_some Same.rfl'
  · refine wp_bind (T_Tape_isSign 44 z.2) (fun r6 hr6 => ?_)
    refine wp_if (fun c2 => ?_) (fun c2 => ?_)
    · refine wp_bind (T_Tape_step z.2) (fun r7 hr7 => ?_)
      have mr7 : Same (fun k => k = 27 ∨ (31 ≤ k ∧ k ≤ 33)) z.2 r7 := hr7.mono (fun k hk => by first | omega | exact hk.elim | (dsimp only at hk ⊢; omega))
      refine wp_bind (T_Tape_readSeen (x2 + 1) r7) (fun r8 hr8 => ?_)
      have mr8 := (mr7).trans (hr8.mono (fun k hk => by first | omega | exact hk.elim | (dsimp only at hk ⊢; omega)))
      refine wp_if (fun c3 => ?_) (fun c3 => ?_)
      · exact wp_some ⟨mr8, (muU_le c1)⟩
      · exact wp_some mr8
    · exact wp_some Same.rfl'
theorem T_Tape_readMood_b45 (x1 : Int32) (x2 : Int32) (z : Int32 × Mem) : wpO (F_Tape_readMood_b45 x1 x2 z) (fun r => (match r with | .inl s => Same (fun k => k = 31) z.2 s.2 ∧ muU s.1 < muU z.1 | .inr r => Same (fun k => k = 31) z.2 r)) := by
  unfold F_Tape_readMood_b45
  refine wp_if (fun c1 => ?_) (fun c1 => ?_)
  · exact wp_some Same.rfl'
  · refine wp_bind (T_Row_put 31 13 ((x2 + 1) + z.1) x1.toInt64 z.2) (fun r9 hr9 => ?_)
    have mr9 : Same (fun k => k = 31) z.2 r9 := hr9.mono (fun k hk => by first | omega | exact hk.elim | (dsimp only at hk ⊢; omega))
    exact wp_some ⟨mr9, (muU_le c1)⟩
theorem T_Tape_readMood (x1 : Int32) (M : Mem) : wpO (F_Tape_readMood x1 M) (fun r => Same (fun k => k = 27 ∨ (31 ≤ k ∧ k ≤ 33)) M r.2) := by
  unfold F_Tape_readMood
  refine wp_bind (T_Tape_isWord 0 M) (fun r1 hr1 => ?_)
  refine wp_if (fun c1 => ?_) (fun c1 => ?_)
  · refine wp_bind (T_Tape_step M) (fun r2 hr2 => ?_)
    have mr2 : Same (fun k => k = 27 ∨ (31 ≤ k ∧ k ≤ 33)) M r2 := hr2.mono (fun k hk => by first | omega | exact hk.elim | (dsimp only at hk ⊢; omega))
    refine wp_bind (T_Tape_isNumber r2) (fun r3 hr3 => ?_)
    refine wp_if (fun c2 => ?_) (fun c2 => ?_)
    · refine wp_bind (T_Row_put 31 13 (1 + (4 * x1)) ((r2.1 27 7).toInt64) r2) (fun r4 hr4 => ?_)
      have mr4 := (mr2).trans (hr4.mono (fun k hk => by first | omega | exact hk.elim | (dsimp only at hk ⊢; omega)))
      unfold F_Tape_readMood_l45
      refine wp_bind (Ψ := fun r => Same (fun k => k = 27 ∨ (31 ≤ k ∧ k ≤ 33)) M r) (wp_while (P := fun z => Same (fun k => k = 27 ∨ (31 ≤ k ∧ k ≤ 33)) M z.2) (μ := fun z => muU z.1) (fun z hz => wp_mono (T_Tape_readMood_b45 x1 (1 + (4 * x1)) z) (fun x hx => ?_)) FUEL (0, r4) mr4 (mu_fuel _)) ?_
      · rcases x with x | x
        · exact ⟨hz.trans (hx.1.mono (fun k hk => by first | omega | exact hk.elim | (dsimp only at hk ⊢; omega))), hx.2⟩
        · exact hz.trans (hx.mono (fun k hk => by first | omega | exact hk.elim | (dsimp only at hk ⊢; omega)))
      intro r hr
      unfold F_Tape_readMood_j70
      refine wp_bind (T_Tape_step r) (fun r5 hr5 => ?_)
      have mr5 := (hr).trans (hr5.mono (fun k hk => by first | omega | exact hk.elim | (dsimp only at hk ⊢; omega)))
      unfold F_Tape_readMood_l76
      refine wp_bind (Ψ := fun q => (match q with | .inl s => Same (fun k => k = 27 ∨ (31 ≤ k ∧ k ≤ 33)) M s | .inr r => Same (fun k => k = 27 ∨ (31 ≤ k ∧ k ≤ 33)) M r)) (wp_while (P := fun z => Same (fun k => k = 27 ∨ (31 ≤ k ∧ k ≤ 33)) M z.2) (μ := fun z => muU z.1) (fun z hz => wp_mono (T_Tape_readMood_b76 (1 + (4 * x1)) z) (fun x hx => ?_)) FUEL (0, r5) mr5 (mu_fuel _)) ?_
      · rcases x with x | x
        · exact ⟨hz.trans (hx.1.mono (fun k hk => by first | omega | exact hk.elim | (dsimp only at hk ⊢; omega))), hx.2⟩
        · rcases x with x | x
          · exact hz.trans (hx.mono (fun k hk => by first | omega | exact hk.elim | (dsimp only at hk ⊢; omega)))
          · exact hz.trans (hx.mono (fun k hk => by first | omega | exact hk.elim | (dsimp only at hk ⊢; omega)))
      intro q hq
      rcases q with r3 | r3
      · exact wp_some hq
      · exact wp_some hq
    · exact wp_some mr2
  · exact wp_some Same.rfl'
theorem T_Tape_firstStray_b4 (M : Mem) (z : Int32 × Int32) : wpO (F_Tape_firstStray_b4 M z) (fun r => (match r with | .inl s => muU s.2 < muU z.2 | .inr r => True)) := by
  unfold F_Tape_firstStray_b4
  refine wp_if (fun c1 => ?_) (fun c1 => ?_)
  · exact wp_some trivial
  · refine wp_bind (T_Row_small 33 3 z.2 M) (fun r1 hr1 => ?_)
    refine wp_if (fun c2 => ?_) (fun c2 => ?_)
    · exact wp_some (muU_le c1)
    · refine wp_if (fun c3 => ?_) (fun c3 => ?_)
      · exact wp_some (muU_le c1)
      · refine wp_if (fun c4 => ?_) (fun c4 => ?_)
        · exact wp_some (muU_le c1)
        · exact wp_some (muU_le c1)
theorem T_Tape_firstStray (x1 : Int32) (M : Mem) : wpO (F_Tape_firstStray x1 M) (fun r => True) := by
  unfold F_Tape_firstStray
  unfold F_Tape_firstStray_l4
  refine wp_bind (Ψ := fun r => True) (wp_while (P := fun _ => True) (μ := fun z => muU z.2) (fun z hz => wp_mono (T_Tape_firstStray_b4 M z) (fun x hx => ?_)) FUEL (((-1)), x1) trivial (mu_fuel _)) ?_
  · rcases x with x | x
    · exact ⟨trivial, hx⟩
    · trivial
  intro r hr
  exact wp_some trivial
theorem T_Tape_readWay_b31 (z : Int32 × Bool × Mem) : wpO (F_Tape_readWay_b31 z) (fun r => (match r with | .inl s => Same (fun k => k = 27 ∨ (31 ≤ k ∧ k ≤ 33)) z.2.2 s.2.2 ∧ muU s.1 < muU z.1 | .inr r => (match r with | .inl s => Same (fun k => k = 27 ∨ (31 ≤ k ∧ k ≤ 33)) z.2.2 s | .inr r => Same (fun k => k = 27 ∨ (31 ≤ k ∧ k ≤ 33)) z.2.2 r.2))) := by
  unfold F_Tape_readWay_b31
  refine wp_if (fun c1 => ?_) (fun c1 => ?_)
  · refine wp_if (fun c2 => ?_) (fun c2 => ?_)
    · exact wp_some Same.rfl'
    · refine wp_if (fun c3 => ?_) (fun c3 => ?_)
      · exact wp_some Same.rfl'
      · refine wp_bind (T_Tape_readMood z.1 z.2.2) (fun r6 hr6 => ?_)
        have mr6 : Same (fun k => k = 27 ∨ (31 ≤ k ∧ k ≤ 33)) z.2.2 r6.2 := hr6.mono (fun k hk => by first | omega | exact hk.elim | (dsimp only at hk ⊢; omega))
        refine wp_if (fun c4 => ?_) (fun c4 => ?_)
        · refine wp_bind (T_Tape_isSign 59 r6.2) (fun r7 hr7 => ?_)
          refine wp_if (fun c5 => ?_) (fun c5 => ?_)
          · refine wp_bind (T_Tape_step r6.2) (fun r8 hr8 => ?_)
            have mr8 := (mr6).trans (hr8.mono (fun k hk => by first | omega | exact hk.elim | (dsimp only at hk ⊢; omega)))
            exact wp_some ⟨mr8, (muU_nl c2 (by decide))⟩
          · exact wp_some ⟨mr6, (muU_nl c2 (by decide))⟩
        · exact wp_some mr6
  · exact wp_some Same.rfl'
theorem T_Tape_readWay (M : Mem) : wpO (F_Tape_readWay M) (fun r => Same (fun k => k = 27 ∨ (31 ≤ k ∧ k ≤ 33)) M r.2) := by
  unfold F_Tape_readWay
  refine wp_bind (T_Row_setAll 31 13 0 M) (fun r1 hr1 => ?_)
  have mr1 : Same (fun k => k = 27 ∨ (31 ≤ k ∧ k ≤ 33)) M r1 := hr1.mono (fun k hk => by first | omega | exact hk.elim | (dsimp only at hk ⊢; omega))
  refine wp_bind (T_Row_setAll 33 3 ((-1)) r1) (fun r2 hr2 => ?_)
  have mr2 := (mr1).trans (hr2.mono (fun k hk => by first | omega | exact hk.elim | (dsimp only at hk ⊢; omega)))
  refine wp_bind (T_Tape_step (mSI r2 27 6 0)) (fun r3 hr3 => ?_)
  have mr3 := (((mr2).sI (by first | omega | (dsimp only; omega)))).trans (hr3.mono (fun k hk => by first | omega | exact hk.elim | (dsimp only at hk ⊢; omega)))
  unfold F_Tape_readWay_l31
  refine wp_bind (Ψ := fun q => (match q with | .inl s => Same (fun k => k = 27 ∨ (31 ≤ k ∧ k ≤ 33)) M s | .inr r => Same (fun k => k = 27 ∨ (31 ≤ k ∧ k ≤ 33)) M r.2)) (wp_while (P := fun z => Same (fun k => k = 27 ∨ (31 ≤ k ∧ k ≤ 33)) M z.2.2) (μ := fun z => muU z.1) (fun z hz => wp_mono (T_Tape_readWay_b31  z) (fun x hx => ?_)) FUEL (0, true, r3) mr3 (mu_fuel _)) ?_
  · rcases x with x | x
    · exact ⟨hz.trans (hx.1.mono (fun k hk => by first | omega | exact hk.elim | (dsimp only at hk ⊢; omega))), hx.2⟩
    · rcases x with x | x
      · exact hz.trans (hx.mono (fun k hk => by first | omega | exact hk.elim | (dsimp only at hk ⊢; omega)))
      · exact hz.trans (hx.mono (fun k hk => by first | omega | exact hk.elim | (dsimp only at hk ⊢; omega)))
  intro q hq
  rcases q with r1 | r1
  · exact wp_some hq
  · unfold F_Tape_readWay_j79
    refine wp_bind (T_Row_put 31 13 0 r1.1.toInt64 r1.2) (fun r4 hr4 => ?_)
    have mr4 := (hq).trans (hr4.mono (fun k hk => by first | omega | exact hk.elim | (dsimp only at hk ⊢; omega)))
    refine wp_if (fun c2 => ?_) (fun c2 => ?_)
    · refine wp_bind (T_Tape_firstStray r1.1 r4) (fun r5 hr5 => ?_)
      exact wp_some mr4
    · exact wp_some mr4
