theorem T_Fraction_commonPart_b15 (M : Mem) (z : Int64 × Int64 × Int32) : wpO (F_Fraction_commonPart_b15 M z) (fun r => (match r with | .inl s => muU s.2.2 < muU z.2.2 | .inr r => True)) := by
  unfold F_Fraction_commonPart_b15
  refine wp_if (fun c1 => ?_) (fun c1 => ?_)
  · exact wp_some trivial
  · refine wp_if (fun c2 => ?_) (fun c2 => ?_)
    · exact wp_some trivial
    · refine wp_t c2 ?_
      exact wp_some (muU_le c1)
theorem T_Fraction_commonPart (x0 : Int64) (x2 : Int64) (M : Mem) : wpO (F_Fraction_commonPart x0 x2 M) (fun r => True) := by
  unfold F_Fraction_commonPart
  refine wp_bind (T_Math_abs x0 M) (fun r1 hr1 => ?_)
  refine wp_bind (T_Math_abs x2 M) (fun r2 hr2 => ?_)
  unfold F_Fraction_commonPart_l15
  refine wp_bind (Ψ := fun r_1 => True) (wp_while (P := fun _ => True) (μ := fun w9 => muU w9.2.2) (fun w9 hz => wp_mono (T_Fraction_commonPart_b15 M w9) (fun x hx => ?_)) FUEL (r1, r2, (0 : Int32)) trivial (mu_fuel _)) ?_
  · rcases x with x | x
    · exact ⟨trivial, hx⟩
    · trivial
  intro r_1 hr_1
  exact wp_some trivial
theorem T_Fraction_be (b : Nat) (x1 : Int64) (x3 : Int64) (M : Mem) : wpO (F_Fraction_be b x1 x3 M) (fun r => Same (fun k => k = b) M r) := by
  unfold F_Fraction_be
  refine wp_bind (T_Fraction_commonPart x1 x3 M) (fun r1 hr1 => ?_)
  refine wp_if (fun c1 => ?_) (fun c1 => ?_)
  · unfold F_Fraction_be_j20
    exact wp_some ((((Same.rfl').sL (by first | omega | (dsimp only; omega)))).sL (by first | omega | (dsimp only; omega)))
  · refine wp_if (fun c2 => ?_) (fun c2 => ?_)
    · unfold F_Fraction_be_j20
      exact wp_some ((((Same.rfl').sL (by first | omega | (dsimp only; omega)))).sL (by first | omega | (dsimp only; omega)))
    · refine wp_t c2 ?_
      refine wp_t c2 ?_
      exact wp_some ((((Same.rfl').sL (by first | omega | (dsimp only; omega)))).sL (by first | omega | (dsimp only; omega)))
theorem T_Fraction_part (b : Nat) (x1 : Int32) (M : Mem) : wpO (F_Fraction_part b x1 M) (fun r => True) := by
  unfold F_Fraction_part
  refine wp_if (fun c1 => ?_) (fun c1 => ?_)
  · exact wp_some trivial
  · exact wp_some trivial
theorem T_Math_floorDiv (x0 : Int64) (x2 : Int64) (M : Mem) (hp0 : ¬ x2 = 0) : wpO (F_Math_floorDiv x0 x2 M) (fun r => True) := by
  unfold F_Math_floorDiv
  refine wp_t hp0 ?_
  refine wp_if (fun c1 => ?_) (fun c1 => ?_)
  · exact wp_some trivial
  · refine wp_if (fun c2 => ?_) (fun c2 => ?_)
    · exact wp_some trivial
    · exact wp_some trivial
theorem T_Fraction_order_b20 (M : Mem) (z : Int64 × Int64 × Int64 × Int64 × Int32 × Int32) : wpO (F_Fraction_order_b20 M z) (fun r => (match r with | .inl s => muU s.2.2.2.2.2 < muU z.2.2.2.2.2 | .inr r => (match r with | .inl s => True | .inr r => (match r with | .inl s => True | .inr r => (match r with | .inl s => True | .inr r => True))))) := by
  unfold F_Fraction_order_b20
  refine wp_if (fun c1 => ?_) (fun c1 => ?_)
  · exact wp_some trivial
  · refine wp_if (fun c2 => ?_) (fun c2 => ?_)
    · exact wp_some trivial
    · refine wp_if (fun c3 => ?_) (fun c3 => ?_)
      · refine wp_bind (T_Math_floorDiv z.1 z.2.1 M (by intro q; rw [q] at c2; exact c2 (by decide))) (fun r1 hr1 => ?_)
        refine wp_bind (T_Math_floorDiv z.2.2.1 z.2.2.2.1 M (by intro q; rw [q] at c3; exact absurd c3 (by decide))) (fun r2 hr2 => ?_)
        refine wp_if (fun c4 => ?_) (fun c4 => ?_)
        · refine wp_if (fun c5 => ?_) (fun c5 => ?_)
          · exact wp_some trivial
          · refine wp_if (fun c6 => ?_) (fun c6 => ?_)
            · exact wp_some trivial
            · exact wp_some (muU_le c1)
        · exact wp_some trivial
      · exact wp_some trivial
theorem T_Fraction_order (x0 : Int64) (x2 : Int64) (x4 : Int64) (x6 : Int64) (M : Mem) : wpO (F_Fraction_order x0 x2 x4 x6 M) (fun r => True) := by
  unfold F_Fraction_order
  unfold F_Fraction_order_l20
  refine wp_bind (Ψ := fun q_2 => (match q_2 with | .inl s => True | .inr r => (match r with | .inl s => True | .inr r => (match r with | .inl s => True | .inr r => True)))) (wp_while (P := fun _ => True) (μ := fun w9 => muU w9.2.2.2.2.2) (fun w9 hz => wp_mono (T_Fraction_order_b20 M w9) (fun x hx => ?_)) FUEL (x0, x2, x4, x6, (1 : Int32), (0 : Int32)) trivial (mu_fuel _)) ?_
  · rcases x with x | x
    · exact ⟨trivial, hx⟩
    · rcases x with x | x
      · trivial
      · rcases x with x | x
        · trivial
        · rcases x with x | x
          · trivial
          · trivial
  intro q_2 hq_2
  rcases q_2 with y1 | y1
  · exact wp_some trivial
  · rcases y1 with y2 | y2
    · unfold F_Fraction_order_j90
      refine wp_if (fun c3 => ?_) (fun c3 => ?_)
      · exact wp_some trivial
      · exact wp_some trivial
    · rcases y2 with y4 | y4
      · unfold F_Fraction_order_j121
        refine wp_if (fun c5 => ?_) (fun c5 => ?_)
        · exact wp_some trivial
        · refine wp_if (fun c6 => ?_) (fun c6 => ?_)
          · exact wp_some trivial
          · exact wp_some trivial
      · exact wp_some trivial
