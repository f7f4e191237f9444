theorem T_Chain_clear (b : Nat) (M : Mem) : wpO (F_Chain_clear b M) (fun r => Same (fun k => k = b + 2) M r) := by
  unfold F_Chain_clear
  refine wp_bind (T_Row_setAll ((b + 2)) 9 ((-1)) M) (fun r1 hr1 => ?_)
  have mr1 : Same (fun k => k = b + 2) M r1 := hr1.mono (fun k hk => by first | omega | exact hk.elim | (dsimp only at hk ⊢; omega))
  exact wp_some mr1
theorem T_Chain_put (b : Nat) (x1 : Int32) (x2 : Int32) (x3 : Int32) (x4 : Int32) (M : Mem) : wpO (F_Chain_put b x1 x2 x3 x4 M) (fun r => Same (fun k => (b + 2 ≤ k ∧ k ≤ b + 4)) M r) := by
  unfold F_Chain_put
  refine wp_bind (T_Row_put ((b + 2)) 9 x1 x2.toInt64 M) (fun r1 hr1 => ?_)
  have mr1 : Same (fun k => (b + 2 ≤ k ∧ k ≤ b + 4)) M r1 := hr1.mono (fun k hk => by first | omega | exact hk.elim | (dsimp only at hk ⊢; omega))
  refine wp_bind (T_Row_put ((b + 4)) 18 (2 * x1) x3.toInt64 r1) (fun r2 hr2 => ?_)
  have mr2 : Same (fun k => (b + 2 ≤ k ∧ k ≤ b + 4)) M r2 := (mr1).trans (hr2.mono (fun k hk => by first | omega | exact hk.elim | (dsimp only at hk ⊢; omega)))
  refine wp_bind (T_Row_put ((b + 4)) 18 ((2 * x1) + 1) x4.toInt64 r2) (fun r3 hr3 => ?_)
  have mr3 : Same (fun k => (b + 2 ≤ k ∧ k ≤ b + 4)) M r3 := (mr2).trans (hr3.mono (fun k hk => by first | omega | exact hk.elim | (dsimp only at hk ⊢; omega)))
  exact wp_some mr3
theorem T_Chain_closeRing_b91 (b : Nat) (x1 : Int32) (x3 : Int32) (x10 : Int64) (z : Int64 × Int32 × Mem) (hp0 : -2147483648 < x1) : wpO (F_Chain_closeRing_b91 b x1 x3 x10 z) (fun r => (match r with | .inl s => Same (fun k => (b + 6 ≤ k ∧ k ≤ b + 8)) z.2.2 s.2.2 ∧ muD s.2.1 < muD z.2.1 | .inr r => Same (fun k => (b + 6 ≤ k ∧ k ≤ b + 8)) z.2.2 r)) := by
  obtain ⟨z_1, z_2, z_3⟩ := z
  unfold F_Chain_closeRing_b91
  dsimp only
  refine wp_if (fun c1 => ?_) (fun c1 => ?_)
  · exact wp_some Same.rfl'
  · refine wp_bind (T_Row_small ((b + 10)) 9 z_2 z_3) (fun r1 hr1 => ?_)
    refine wp_bind (T_Row_at ((b + 4)) 18 ((2 * r1) + x3) z_3) (fun r2 hr2 => ?_)
    refine wp_bind (T_Row_put ((b + 6)) 18 ((2 * r1) + x3) ((r2 * x10) + ((z_3.2 b 6) * z_1)) z_3) (fun r3 hr3 => ?_)
    have mr3 : Same (fun k => (b + 6 ≤ k ∧ k ≤ b + 8)) z_3 r3 := hr3.mono (fun k hk => by first | omega | exact hk.elim | (dsimp only at hk ⊢; omega))
    refine wp_bind (T_Row_small ((b + 10)) 9 z_2 r3) (fun r4 hr4 => ?_)
    refine wp_bind (T_Row_put ((b + 8)) 9 r4 x10 r3) (fun r5 hr5 => ?_)
    have mr5 : Same (fun k => (b + 6 ≤ k ∧ k ≤ b + 8)) z_3 r5 := (mr3).trans (hr5.mono (fun k hk => by first | omega | exact hk.elim | (dsimp only at hk ⊢; omega)))
    refine wp_if (fun c2 => ?_) (fun c2 => ?_)
    · exact wp_some ⟨mr5, (muD_x c1 hp0)⟩
    · refine wp_t c2 ?_
      exact wp_some ⟨mr5, (muD_x c1 hp0)⟩
theorem T_Chain_closeRing_b12 (b : Nat) (x1 : Int32) (x2 : Int32) (x3 : Int32) (M : Mem) (z : Int64 × Int64 × Int64 × Int32) : wpO (F_Chain_closeRing_b12 b x1 x2 x3 M z) (fun r => (match r with | .inl s => muU s.2.2.2 < muU z.2.2.2 | .inr r => True)) := by
  unfold F_Chain_closeRing_b12
  refine wp_if (fun c1 => ?_) (fun c1 => ?_)
  · exact wp_some trivial
  · refine wp_bind (T_Row_small ((b + 10)) 9 z.2.2.2 M) (fun r6 hr6 => ?_)
    refine wp_bind (T_Row_at ((b + 4)) 18 ((2 * r6) + x3) M) (fun r7 hr7 => ?_)
    exact wp_some (muU_le c1)
theorem T_Chain_closeRing (b : Nat) (x1 : Int32) (x2 : Int32) (x3 : Int32) (M : Mem) (hp0 : -2147483648 < x1) : wpO (F_Chain_closeRing b x1 x2 x3 M) (fun r => Same (fun k => (b + 6 ≤ k ∧ k ≤ b + 8)) M r) := by
  unfold F_Chain_closeRing
  unfold F_Chain_closeRing_l12
  refine wp_bind (Ψ := fun r_11 => True) (wp_while (P := fun _ => True) (μ := fun w9 => muU w9.2.2.2) (fun w9 hz => wp_mono (T_Chain_closeRing_b12 b x1 x2 x3 M w9) (fun x hx => ?_)) FUEL ((0 : Int64), (1 : Int64), (1 : Int64), x1) trivial (mu_fuel _)) ?_
  · rcases x with x | x
    · exact ⟨trivial, hx⟩
    · trivial
  intro r_11 hr_11
  unfold F_Chain_closeRing_j75
  unfold F_Chain_closeRing_l91
  refine wp_bind (Ψ := fun r_12 => Same (fun k => (b + 6 ≤ k ∧ k ≤ b + 8)) M r_12) (wp_while (P := fun w9 => Same (fun k => (b + 6 ≤ k ∧ k ≤ b + 8)) M w9.2.2) (μ := fun w9 => muD w9.2.1) (fun w9 hz => wp_mono (T_Chain_closeRing_b91 b x1 x3 (r_11.2.2 - r_11.2.1) w9 (by first | decide | assumption | exact n32.mp (by assumption))) (fun x hx => ?_)) FUEL (r_11.1, (x2 - 1), M) Same.rfl' (muD_fuel _)) ?_
  · rcases x with x | x
    · exact ⟨hz.trans (hx.1.mono (fun k hk => by first | omega | exact hk.elim | (dsimp only at hk ⊢; omega))), hx.2⟩
    · exact hz.trans (hx.mono (fun k hk => by first | omega | exact hk.elim | (dsimp only at hk ⊢; omega)))
  intro r_12 hr_12
  exact wp_some hr_12
theorem T_Chain_walkBack_b35 (b : Nat) (x1 : Int32) (x2 : Int32) (x3 : Int64) (z : Int32 × Mem) : wpO (F_Chain_walkBack_b35 b x1 x2 x3 z) (fun r => (match r with | .inl s => Same (fun k => k = b + 6) z.2 s.2 ∧ muU s.1 < muU z.1 | .inr r => Same (fun k => k = b + 6) z.2 r)) := by
  unfold F_Chain_walkBack_b35
  refine wp_if (fun c1 => ?_) (fun c1 => ?_)
  · exact wp_some Same.rfl'
  · refine wp_bind (T_Row_at ((b + 4)) 18 ((2 * x1) + z.1) z.2) (fun r4 hr4 => ?_)
    refine wp_bind (T_Row_at ((b + 6)) 18 ((2 * x2) + z.1) z.2) (fun r5 hr5 => ?_)
    refine wp_bind (T_Row_put ((b + 6)) 18 ((2 * x1) + z.1) ((r4 * x3) + ((z.2.2 b 6) * r5)) z.2) (fun r6 hr6 => ?_)
    have mr6 : Same (fun k => k = b + 6) z.2 r6 := hr6.mono (fun k hk => by first | omega | exact hk.elim | (dsimp only at hk ⊢; omega))
    exact wp_some ⟨mr6, (muU_le c1)⟩
theorem T_Chain_walkBack (b : Nat) (x1 : Int32) (M : Mem) : wpO (F_Chain_walkBack b x1 M) (fun r => Same (fun k => (b + 6 ≤ k ∧ k ≤ b + 8)) M r) := by
  unfold F_Chain_walkBack
  refine wp_bind (T_Row_small ((b + 2)) 9 x1 M) (fun r1 hr1 => ?_)
  refine wp_bind (T_Row_at ((b + 8)) 9 r1 M) (fun r2 hr2 => ?_)
  refine wp_bind (T_Row_put ((b + 8)) 9 x1 ((M.2 b 7) * r2) M) (fun r3 hr3 => ?_)
  have mr3 : Same (fun k => (b + 6 ≤ k ∧ k ≤ b + 8)) M r3 := hr3.mono (fun k hk => by first | omega | exact hk.elim | (dsimp only at hk ⊢; omega))
  unfold F_Chain_walkBack_l35
  refine wp_bind (Ψ := fun r_13 => Same (fun k => (b + 6 ≤ k ∧ k ≤ b + 8)) M r_13) (wp_while (P := fun w9 => Same (fun k => (b + 6 ≤ k ∧ k ≤ b + 8)) M w9.2) (μ := fun w9 => muU w9.1) (fun w9 hz => wp_mono (T_Chain_walkBack_b35 b x1 r1 ((M.2 b 7) * r2) w9) (fun x hx => ?_)) FUEL ((0 : Int32), r3) mr3 (mu_fuel _)) ?_
  · rcases x with x | x
    · exact ⟨hz.trans (hx.1.mono (fun k hk => by first | omega | exact hk.elim | (dsimp only at hk ⊢; omega))), hx.2⟩
    · exact hz.trans (hx.mono (fun k hk => by first | omega | exact hk.elim | (dsimp only at hk ⊢; omega)))
  intro r_13 hr_13
  exact wp_some hr_13
theorem T_Chain_settle_b131 (b : Nat) (z : Int32 × Mem) : wpO (F_Chain_settle_b131 b z) (fun r => (match r with | .inl s => Same (fun k => (b + 6 ≤ k ∧ k ≤ b + 8)) z.2 s.2 ∧ muD s.1 < muD z.1 | .inr r => Same (fun k => (b + 6 ≤ k ∧ k ≤ b + 8)) z.2 r)) := by
  obtain ⟨z_1, z_2⟩ := z
  unfold F_Chain_settle_b131
  dsimp only
  refine wp_if (fun c1 => ?_) (fun c1 => ?_)
  · exact wp_some Same.rfl'
  · refine wp_bind (T_Row_small ((b + 10)) 9 z_1 z_2) (fun r3 hr3 => ?_)
    refine wp_bind (T_Chain_walkBack b r3 z_2) (fun r4 hr4 => ?_)
    have mr4 : Same (fun k => (b + 6 ≤ k ∧ k ≤ b + 8)) z_2 r4 := hr4.mono (fun k hk => by first | omega | exact hk.elim | (dsimp only at hk ⊢; omega))
    exact wp_some ⟨mr4, (muD_0 c1)⟩
theorem T_Chain_settle_l131 (b : Nat) (x5 : Int32) (M : Mem) : wpO (F_Chain_settle_l131 b x5 M) (fun r => Same (fun k => (b + 6 ≤ k ∧ k ≤ b + 8)) M r) := by
  unfold F_Chain_settle_l131
  refine wp_bind (Ψ := fun r => Same (fun k => (b + 6 ≤ k ∧ k ≤ b + 8)) M r) (wp_while (P := fun w9 => Same (fun k => (b + 6 ≤ k ∧ k ≤ b + 8)) M w9.2) (μ := fun w9 => muD w9.1) (fun w9 hz => wp_mono (T_Chain_settle_b131 b w9) (fun x hx => ?_)) FUEL (x5, M) Same.rfl' (muD_fuel _)) ?_
  · rcases x with x | x
    · exact ⟨hz.trans (hx.1.mono (fun k hk => by first | omega | exact hk.elim | (dsimp only at hk ⊢; omega))), hx.2⟩
    · exact hz.trans (hx.mono (fun k hk => by first | omega | exact hk.elim | (dsimp only at hk ⊢; omega)))
  intro r hr
  exact wp_some hr
def stQ (b : Nat) (M : Mem) : Prop := ∀ j, j < 9 → -1 ≤ (M.2 (b + 12) j).toInt ∧ (M.2 (b + 12) j).toInt ≤ 8
theorem T_Chain_settle_b14 (b : Nat) (z : Int32 × Int32 × Mem) (h0 : 0 ≤ z.1.toInt) (hQ : stQ b z.2.2) : wpO (F_Chain_settle_b14 b z) (fun x => match x with | .inl s => (0 ≤ s.1.toInt ∧ stQ b s.2.2 ∧ Same (fun k => (b + 6 ≤ k ∧ k ≤ b + 12)) z.2.2 s.2.2) ∧ muU s.1 < muU z.1 | .inr r => stQ b r.2.2 ∧ Same (fun k => (b + 6 ≤ k ∧ k ≤ b + 12)) z.2.2 r.2.2) := by
  unfold F_Chain_settle_b14
  refine wp_if (fun c1 => wp_some ⟨hQ, Same.rfl'⟩) (fun c1 => ?_)
  refine wp_bind (T_Row_at _ _ _ _) (fun r8 _ => wp_if (fun c2 => ?_) (fun c2 => wp_some ⟨hQ, Same.rfl'⟩))
  refine wp_bind (T_Row_at _ _ _ _) (fun r9 _ => wp_if (fun c3 => ?_) (fun c3 => wp_some ⟨hQ, Same.rfl'⟩))
  refine wp_bind (T_Row_put (b + 10) 9 z.1 z.2.1.toInt64 z.2.2) (fun r10 h10 => ?_)
  refine wp_bind (T_Row_putQ (b + 12) 9 z.2.1 z.1.toInt64 r10) (fun r11 h11 => ?_)
  refine wp_bind (T_Row_small _ _ _ _) (fun r12 _ => ?_)
  have c9 := c1
  rw [le_i, li9] at c9
  have e1 : (z.1 + 1).toInt = z.1.toInt + 1 := up1 (by omega)
  refine wp_some ⟨⟨?_, fun j hj => ?_, (h10.mono (fun k hk => by first | omega | exact hk.elim | (dsimp only at hk ⊢; omega))).trans (h11.1.mono (fun k hk => by first | omega | exact hk.elim | (dsimp only at hk ⊢; omega)))⟩, muU_le c1⟩
  · show 0 ≤ (z.1 + 1).toInt
    omega
  · have h8 := hQ j hj
    rw [← (h10 (b + 12) (by first | omega | (dsimp only; omega))).2 j] at h8
    show -1 ≤ (r11.2 (b + 12) j).toInt ∧ (r11.2 (b + 12) j).toInt ≤ 8
    rcases h11.2 j with q | q
    · rw [q]; exact h8
    · rw [q, Int32.toInt_toInt64]
      omega
theorem T_Chain_settle (b : Nat) (x1 : Int32) (M : Mem) : wpO (F_Chain_settle b x1 M) (fun r => Same (fun k => (b + 6 ≤ k ∧ k ≤ b + 12)) M r) := by
  unfold F_Chain_settle
  refine wp_bind (T_Row_setAllQ (b + 12) 9 (-1) M) (fun r1 h1 => ?_)
  have s1 : Same (fun k => (b + 6 ≤ k ∧ k ≤ b + 12)) M r1 := h1.1.mono (fun k hk => by first | omega | exact hk.elim | (dsimp only at hk ⊢; omega))
  have q1 : stQ b r1 := fun j hj => by
    rw [h1.2 j hj (by decide)]
    exact ⟨show (0 : Int) ≤ (0 : Int32).toInt by decide, by decide⟩
  unfold F_Chain_settle_l14
  refine wp_bind (Ψ := fun r => stQ b r.2.2 ∧ Same (fun k => (b + 6 ≤ k ∧ k ≤ b + 12)) M r.2.2) (wp_while (P := fun z => 0 ≤ z.1.toInt ∧ stQ b z.2.2 ∧ Same (fun k => (b + 6 ≤ k ∧ k ≤ b + 12)) M z.2.2) (μ := fun z => muU z.1) (fun z hz => wp_mono (T_Chain_settle_b14 b z hz.1 hz.2.1) (fun x hx => ?_)) FUEL (0, x1, r1) ⟨show (0 : Int) ≤ (0 : Int32).toInt by decide, q1, s1⟩ (mu_fuel _)) ?_
  · rcases x with x | x
    · exact ⟨⟨hx.1.1, hx.1.2.1, hz.2.2.trans hx.1.2.2⟩, hx.2⟩
    · exact ⟨hx.1, hz.2.2.trans hx.2⟩
  intro r hr
  unfold F_Chain_settle_j83
  refine wp_bind (T_Row_at _ _ _ _) (fun r2 _ => wp_if (fun c2 => ?_) (fun c2 => ?_))
  · refine wp_bind (T_Row_smallQ (b + 12) 9 r.2.1 r.2.2) (fun r5 h5 => ?_)
    have p5 : (-2147483648 : Int32) < r5 := by
      rw [lt_i, show (-2147483648 : Int32).toInt = -2147483648 by decide]
      rcases h5 with rfl | ⟨j, hj, rfl⟩
      · decide
      · have := hr.1 j hj
        rw [Int64.toInt_toInt32, Int.bmod_eq_of_le (by omega) (by omega)]
        omega
    refine wp_bind (T_Chain_closeRing b r5 r.1 0 r.2.2 p5) (fun r6 h6 => ?_)
    refine wp_bind (T_Chain_closeRing b r5 r.1 1 r6 p5) (fun r7 h7 => ?_)
    exact wp_mono (T_Chain_settle_l131 b (r5 - 1) r7) (fun r8 h8 => hr.2.trans (((h6.mono (fun k hk => by first | omega | exact hk.elim | (dsimp only at hk ⊢; omega))).trans (h7.mono (fun k hk => by first | omega | exact hk.elim | (dsimp only at hk ⊢; omega)))).trans (h8.mono (fun k hk => by first | omega | exact hk.elim | (dsimp only at hk ⊢; omega)))))
  · exact wp_mono (T_Chain_settle_l131 b (r.1 - 1) r.2.2) (fun r8 h8 => hr.2.trans (h8.mono (fun k hk => by first | omega | exact hk.elim | (dsimp only at hk ⊢; omega))))

theorem T_Chain_reckon_b21 (b : Nat) (z : Int32 × Mem) : wpO (F_Chain_reckon_b21 b z) (fun r => (match r with | .inl s => Same (fun k => (b + 6 ≤ k ∧ k ≤ b + 12)) z.2 s.2 ∧ muU s.1 < muU z.1 | .inr r => Same (fun k => (b + 6 ≤ k ∧ k ≤ b + 12)) z.2 r)) := by
  unfold F_Chain_reckon_b21
  refine wp_if (fun c1 => ?_) (fun c1 => ?_)
  · exact wp_some Same.rfl'
  · refine wp_bind (T_Row_at ((b + 2)) 9 z.1 z.2) (fun r2 hr2 => ?_)
    refine wp_if (fun c2 => ?_) (fun c2 => ?_)
    · exact wp_some ⟨Same.rfl', (muU_le c1)⟩
    · refine wp_bind (T_Row_at ((b + 8)) 9 z.1 z.2) (fun r3 hr3 => ?_)
      refine wp_if (fun c3 => ?_) (fun c3 => ?_)
      · refine wp_bind (T_Chain_settle b z.1 z.2) (fun r4 hr4 => ?_)
        have mr4 : Same (fun k => (b + 6 ≤ k ∧ k ≤ b + 12)) z.2 r4 := hr4.mono (fun k hk => by first | omega | exact hk.elim | (dsimp only at hk ⊢; omega))
        exact wp_some ⟨mr4, (muU_le c1)⟩
      · exact wp_some ⟨Same.rfl', (muU_le c1)⟩
theorem T_Chain_reckon (b : Nat) (x1 : Int64) (x3 : Int64) (M : Mem) : wpO (F_Chain_reckon b x1 x3 M) (fun r => Same (fun k => k = b ∨ (b + 6 ≤ k ∧ k ≤ b + 12)) M r) := by
  unfold F_Chain_reckon
  refine wp_bind (T_Row_setAll ((b + 8)) 9 0 (mSL (mSL M b 6 x1) b 7 x3)) (fun r1 hr1 => ?_)
  have mr1 : Same (fun k => k = b ∨ (b + 6 ≤ k ∧ k ≤ b + 12)) M r1 := (((((Same.rfl').sL (by first | omega | (dsimp only; omega)))).sL (by first | omega | (dsimp only; omega)))).trans (hr1.mono (fun k hk => by first | omega | exact hk.elim | (dsimp only at hk ⊢; omega)))
  unfold F_Chain_reckon_l21
  refine wp_bind (Ψ := fun r_14 => Same (fun k => k = b ∨ (b + 6 ≤ k ∧ k ≤ b + 12)) M r_14) (wp_while (P := fun w9 => Same (fun k => k = b ∨ (b + 6 ≤ k ∧ k ≤ b + 12)) M w9.2) (μ := fun w9 => muU w9.1) (fun w9 hz => wp_mono (T_Chain_reckon_b21 b w9) (fun x hx => ?_)) FUEL ((0 : Int32), r1) mr1 (mu_fuel _)) ?_
  · rcases x with x | x
    · exact ⟨hz.trans (hx.1.mono (fun k hk => by first | omega | exact hk.elim | (dsimp only at hk ⊢; omega))), hx.2⟩
    · exact hz.trans (hx.mono (fun k hk => by first | omega | exact hk.elim | (dsimp only at hk ⊢; omega)))
  intro r_14 hr_14
  exact wp_some hr_14
theorem T_Chain_tellWorth (b : Nat) (o3 : Nat) (x1 : Int32) (x2 : Int32) (M : Mem) : wpO (F_Chain_tellWorth b o3 x1 x2 M) (fun r => Same (fun k => k = o3) M r) := by
  unfold F_Chain_tellWorth
  refine wp_bind (T_Row_at ((b + 6)) 18 ((2 * x1) + x2) M) (fun r1 hr1 => ?_)
  refine wp_bind (T_Row_at ((b + 8)) 9 x1 M) (fun r2 hr2 => ?_)
  refine wp_bind (T_Fraction_be o3 r1 r2 M) (fun r3 hr3 => ?_)
  have mr3 : Same (fun k => k = o3) M r3 := hr3.mono (fun k hk => by first | omega | exact hk.elim | (dsimp only at hk ⊢; omega))
  exact wp_some mr3
theorem T_Chain_orderOf (b : Nat) (x1 : Int32) (x2 : Int32) (x3 : Int32) (x4 : Int32) (M : Mem) : wpO (F_Chain_orderOf b x1 x2 x3 x4 M) (fun r => True) := by
  unfold F_Chain_orderOf
  refine wp_bind (T_Row_at ((b + 8)) 9 x2 M) (fun r1 hr1 => ?_)
  refine wp_bind (T_Row_at ((b + 6)) 18 ((2 * x2) + x3) M) (fun r2 hr2 => ?_)
  refine wp_bind (T_Row_at ((b + 6)) 18 ((2 * x4) + x3) M) (fun r3 hr3 => ?_)
  refine wp_bind (T_Row_at ((b + 8)) 9 x4 M) (fun r4 hr4 => ?_)
  refine wp_bind (T_Fraction_order ((x1.toInt64 * ((M.2 b 7) * r1)) + ((M.2 b 6) * r2)) ((M.2 b 7) * r1) r3 r4 M) (fun r5 hr5 => ?_)
  exact wp_some trivial
