theorem T_LAW_acts (x1 : Int32) (M : Mem) : wpO (F_LAW_acts x1 M) (fun r => Same (fun k => k = 1) M r.2) := by
  unfold F_LAW_acts
  refine wp_h (T_KW_acts x1 M) (fun E1 M1 hA hm => ?_) (fun u1 M1 hm => ?_)
  · have mM1 : Same (fun k => k = 1) M M1 := (hm.mono (fun k hk => by first | omega | exact hk.elim | (dsimp only at hk ⊢; omega)))
    refine wp_if (fun c2 => ?_) (fun c2 => ?_)
    · exact wp_some mM1
    · exact absurd hA (by simp [c2])
  have mM1 : Same (fun k => k = 1) M M1 := (hm.mono (fun k hk => by first | omega | exact hk.elim | (dsimp only at hk ⊢; omega)))
  exact wp_some mM1
theorem T_LAW_bring (x1 : Int32) (x2 : Int32) (x3 : Int32) (x4 : Int32) (M : Mem) : wpO (F_LAW_bring x1 x2 x3 x4 M) (fun r => Same (fun k => k = 3) M r.2) := by
  unfold F_LAW_bring
  refine wp_h (T_KW_bring x1 x2 x3 x4 M) (fun E1 M1 hA hm => ?_) (fun u1 M1 hm => ?_)
  · have mM1 : Same (fun k => k = 3) M M1 := (hm.mono (fun k hk => by first | omega | exact hk.elim | (dsimp only at hk ⊢; omega)))
    refine wp_if (fun c2 => ?_) (fun c2 => ?_)
    · exact wp_some mM1
    · refine wp_if (fun c3 => ?_) (fun c3 => ?_)
      · exact wp_some mM1
      · exact absurd hA (by simp [c2, c3])
  have mM1 : Same (fun k => k = 3) M M1 := (hm.mono (fun k hk => by first | omega | exact hk.elim | (dsimp only at hk ⊢; omega)))
  exact wp_some mM1
theorem T_LAW_tomorrow (x1 : Int32) (x2 : Int32) (M : Mem) : wpO (F_LAW_tomorrow x1 x2 M) (fun r => Same (fun k => k = 1) M r.2) := by
  unfold F_LAW_tomorrow
  refine wp_h (T_KW_tomorrow x1 x2 M) (fun E1 M1 hA hm => ?_) (fun u1 M1 hm => ?_)
  · have mM1 : Same (fun k => k = 1) M M1 := (hm.mono (fun k hk => by first | omega | exact hk.elim | (dsimp only at hk ⊢; omega)))
    refine wp_if (fun c2 => ?_) (fun c2 => ?_)
    · exact wp_some mM1
    · exact absurd hA (by simp [c2])
  have mM1 : Same (fun k => k = 1) M M1 := (hm.mono (fun k hk => by first | omega | exact hk.elim | (dsimp only at hk ⊢; omega)))
  exact wp_some mM1
theorem T_LAW_way (M : Mem) : wpO (F_LAW_way M) (fun r => Same (fun k => (0 ≤ k ∧ k ≤ 1) ∨ k = 5 ∨ k = 27 ∨ (31 ≤ k ∧ k ≤ 33) ∨ k = 121) M r.2) := by
  unfold F_LAW_way
  refine wp_h (T_KW_way M) (fun E1 M1 hA hm => ?_) (fun r1 M1 hm => ?_)
  · have mM1 : Same (fun k => (0 ≤ k ∧ k ≤ 1) ∨ k = 5 ∨ k = 27 ∨ (31 ≤ k ∧ k ≤ 33) ∨ k = 121) M M1 := (hm.mono (fun k hk => by first | omega | exact hk.elim | (dsimp only at hk ⊢; omega)))
    refine wp_if (fun c2 => ?_) (fun c2 => ?_)
    · exact wp_some mM1
    · refine wp_if (fun c3 => ?_) (fun c3 => ?_)
      · exact wp_some mM1
      · exact absurd hA (by simp [c2, c3])
  have mM1 : Same (fun k => (0 ≤ k ∧ k ≤ 1) ∨ k = 5 ∨ k = 27 ∨ (31 ≤ k ∧ k ≤ 33) ∨ k = 121) M M1 := (hm.mono (fun k hk => by first | omega | exact hk.elim | (dsimp only at hk ⊢; omega)))
  refine wp_t ib01 ?_
  exact wp_some ((mM1).sL (by first | omega | (dsimp only; omega)))
theorem T_LAW_mood (x1 : Int32) (x2 : Int32) (x3 : Int32) (M : Mem) : wpO (F_LAW_mood x1 x2 x3 M) (fun r => Same (fun k => k = 121) M r.2) := by
  unfold F_LAW_mood
  refine wp_h (T_KW_mood x1 x2 x3 M) (fun E1 M1 hA hm => ?_) (fun r1 M1 hm => ?_)
  · have mM1 : Same (fun k => k = 121) M M1 := (hm.mono (fun k hk => by first | omega | exact hk.elim | (dsimp only at hk ⊢; omega)))
    refine wp_if (fun c2 => ?_) (fun c2 => ?_)
    · exact wp_some mM1
    · refine wp_if (fun c3 => ?_) (fun c3 => ?_)
      · exact wp_some mM1
      · exact absurd hA (by simp [c2, c3])
  have mM1 : Same (fun k => k = 121) M M1 := (hm.mono (fun k hk => by first | omega | exact hk.elim | (dsimp only at hk ⊢; omega)))
  refine wp_t ib01 ?_
  exact wp_some ((mM1).sL (by first | omega | (dsimp only; omega)))
theorem T_LAW_worth (x1 : Int32) (x2 : Int32) (x3 : Int32) (x4 : Int32) (x5 : Int32) (x6 : Int32) (M : Mem) : wpO (F_LAW_worth x1 x2 x3 x4 x5 x6 M) (fun r => Same (fun k => (34 ≤ k ∧ k ≤ 47) ∨ k = 93 ∨ k = 121) M r.2) := by
  unfold F_LAW_worth
  refine wp_h (T_KW_worth x1 x2 x3 x4 x5 x6 M) (fun E1 M1 hA hm => ?_) (fun r1 M1 hm => ?_)
  · have mM1 : Same (fun k => (34 ≤ k ∧ k ≤ 47) ∨ k = 93 ∨ k = 121) M M1 := (hm.mono (fun k hk => by first | omega | exact hk.elim | (dsimp only at hk ⊢; omega)))
    refine wp_if (fun c2 => ?_) (fun c2 => ?_)
    · exact wp_some mM1
    · refine wp_if (fun c3 => ?_) (fun c3 => ?_)
      · exact wp_some mM1
      · exact absurd hA (by simp [c2, c3])
  have mM1 : Same (fun k => (34 ≤ k ∧ k ≤ 47) ∨ k = 93 ∨ k = 121) M M1 := (hm.mono (fun k hk => by first | omega | exact hk.elim | (dsimp only at hk ⊢; omega)))
  refine wp_t ib01 ?_
  exact wp_some ((mM1).sL (by first | omega | (dsimp only; omega)))
theorem T_LAW_hold (x1 : Int32) (x2 : Int32) (M : Mem) : wpO (F_LAW_hold x1 x2 M) (fun r => Same (fun k => (34 ≤ k ∧ k ≤ 47) ∨ k = 121) M r.2) := by
  unfold F_LAW_hold
  refine wp_h (T_KW_hold x1 x2 M) (fun E1 M1 hA hm => ?_) (fun r1 M1 hm => ?_)
  · have mM1 : Same (fun k => (34 ≤ k ∧ k ≤ 47) ∨ k = 121) M M1 := (hm.mono (fun k hk => by first | omega | exact hk.elim | (dsimp only at hk ⊢; omega)))
    refine wp_if (fun c2 => ?_) (fun c2 => ?_)
    · exact wp_some mM1
    · refine wp_if (fun c3 => ?_) (fun c3 => ?_)
      · exact wp_some mM1
      · exact absurd hA (by simp [c2, c3])
  have mM1 : Same (fun k => (34 ≤ k ∧ k ≤ 47) ∨ k = 121) M M1 := (hm.mono (fun k hk => by first | omega | exact hk.elim | (dsimp only at hk ⊢; omega)))
  refine wp_if (fun c4 => ?_) (fun c4 => ?_)
  · refine wp_t ib01 ?_
    exact wp_some ((mM1).sL (by first | omega | (dsimp only; omega)))
  · refine wp_t ib01 ?_
    exact wp_some ((mM1).sL (by first | omega | (dsimp only; omega)))
theorem T_LAW_first (x1 : Int32) (x2 : Int32) (M : Mem) : wpO (F_LAW_first x1 x2 M) (fun r => Same (fun k => (34 ≤ k ∧ k ≤ 47) ∨ k = 121) M r.2) := by
  unfold F_LAW_first
  refine wp_h (T_KW_first x1 x2 M) (fun E1 M1 hA hm => ?_) (fun r1 M1 hm => ?_)
  · have mM1 : Same (fun k => (34 ≤ k ∧ k ≤ 47) ∨ k = 121) M M1 := (hm.mono (fun k hk => by first | omega | exact hk.elim | (dsimp only at hk ⊢; omega)))
    refine wp_if (fun c2 => ?_) (fun c2 => ?_)
    · exact wp_some mM1
    · refine wp_if (fun c3 => ?_) (fun c3 => ?_)
      · exact wp_some mM1
      · exact absurd hA (by simp [c2, c3])
  have mM1 : Same (fun k => (34 ≤ k ∧ k ≤ 47) ∨ k = 121) M M1 := (hm.mono (fun k hk => by first | omega | exact hk.elim | (dsimp only at hk ⊢; omega)))
  refine wp_t ib01 ?_
  exact wp_some ((mM1).sL (by first | omega | (dsimp only; omega)))
theorem T_LAW_best (x1 : Int32) (x2 : Int32) (x3 : Int32) (M : Mem) : wpO (F_LAW_best x1 x2 x3 M) (fun r => Same (fun k => (52 ≤ k ∧ k ≤ 67) ∨ k = 121) M r.2) := by
  unfold F_LAW_best
  refine wp_h (T_KW_best x1 x2 x3 M) (fun E1 M1 hA hm => ?_) (fun r1 M1 hm => ?_)
  · have mM1 : Same (fun k => (52 ≤ k ∧ k ≤ 67) ∨ k = 121) M M1 := (hm.mono (fun k hk => by first | omega | exact hk.elim | (dsimp only at hk ⊢; omega)))
    refine wp_if (fun c2 => ?_) (fun c2 => ?_)
    · exact wp_some mM1
    · refine wp_if (fun c3 => ?_) (fun c3 => ?_)
      · exact wp_some mM1
      · exact absurd hA (by simp [c2, c3])
  have mM1 : Same (fun k => (52 ≤ k ∧ k ≤ 67) ∨ k = 121) M M1 := (hm.mono (fun k hk => by first | omega | exact hk.elim | (dsimp only at hk ⊢; omega)))
  refine wp_t ib01 ?_
  exact wp_some ((mM1).sL (by first | omega | (dsimp only; omega)))
theorem T_LAW_answer (x1 : Int32) (x2 : Int32) (x3 : Int32) (x4 : Int32) (M : Mem) : wpO (F_LAW_answer x1 x2 x3 x4 M) (fun r => Same (fun k => (52 ≤ k ∧ k ≤ 67) ∨ k = 93 ∨ k = 121) M r.2) := by
  unfold F_LAW_answer
  refine wp_h (T_KW_answer x1 x2 x3 x4 M) (fun E1 M1 hA hm => ?_) (fun r1 M1 hm => ?_)
  · have mM1 : Same (fun k => (52 ≤ k ∧ k ≤ 67) ∨ k = 93 ∨ k = 121) M M1 := (hm.mono (fun k hk => by first | omega | exact hk.elim | (dsimp only at hk ⊢; omega)))
    refine wp_if (fun c2 => ?_) (fun c2 => ?_)
    · exact wp_some mM1
    · refine wp_if (fun c3 => ?_) (fun c3 => ?_)
      · exact wp_some mM1
      · exact absurd hA (by simp [c2, c3])
  have mM1 : Same (fun k => (52 ≤ k ∧ k ≤ 67) ∨ k = 93 ∨ k = 121) M M1 := (hm.mono (fun k hk => by first | omega | exact hk.elim | (dsimp only at hk ⊢; omega)))
  refine wp_t ib01 ?_
  exact wp_some ((mM1).sL (by first | omega | (dsimp only; omega)))
theorem T_LAW_least (x1 : Int32) (x2 : Int32) (M : Mem) : wpO (F_LAW_least x1 x2 M) (fun r => Same (fun k => k = 121) M r.2) := by
  unfold F_LAW_least
  refine wp_h (T_KW_least x1 x2 M) (fun E1 M1 hA hm => ?_) (fun r1 M1 hm => ?_)
  · have mM1 : Same (fun k => k = 121) M M1 := (hm.mono (fun k hk => by first | omega | exact hk.elim | (dsimp only at hk ⊢; omega)))
    refine wp_if (fun c2 => ?_) (fun c2 => ?_)
    · exact wp_some mM1
    · exact absurd hA (by simp [c2])
  have mM1 : Same (fun k => k = 121) M M1 := (hm.mono (fun k hk => by first | omega | exact hk.elim | (dsimp only at hk ⊢; omega)))
  refine wp_t ib01 ?_
  exact wp_some ((mM1).sL (by first | omega | (dsimp only; omega)))
theorem T_LAW_lots (x1 : Int32) (x2 : Int32) (M : Mem) : wpO (F_LAW_lots x1 x2 M) (fun r => Same (fun k => (68 ≤ k ∧ k ≤ 72) ∨ k = 93 ∨ k = 121) M r.2) := by
  unfold F_LAW_lots
  refine wp_h (T_KW_lots x1 x2 M) (fun E1 M1 hA hm => ?_) (fun r1 M1 hm => ?_)
  · have mM1 : Same (fun k => (68 ≤ k ∧ k ≤ 72) ∨ k = 93 ∨ k = 121) M M1 := (hm.mono (fun k hk => by first | omega | exact hk.elim | (dsimp only at hk ⊢; omega)))
    refine wp_if (fun c2 => ?_) (fun c2 => ?_)
    · exact wp_some mM1
    · exact absurd hA (by simp [c2])
  have mM1 : Same (fun k => (68 ≤ k ∧ k ≤ 72) ∨ k = 93 ∨ k = 121) M M1 := (hm.mono (fun k hk => by first | omega | exact hk.elim | (dsimp only at hk ⊢; omega)))
  refine wp_t ib01 ?_
  exact wp_some ((mM1).sL (by first | omega | (dsimp only; omega)))
theorem T_LAW_in (x1 : Int32) (x2 : Int32) (x3 : Int32) (x4 : Int32) (M : Mem) : wpO (F_LAW_in x1 x2 x3 x4 M) (fun r => Same (fun k => (68 ≤ k ∧ k ≤ 76) ∨ k = 121) M r.2) := by
  unfold F_LAW_in
  refine wp_h (T_KW_in x1 x2 x3 x4 M) (fun E1 M1 hA hm => ?_) (fun r1 M1 hm => ?_)
  · have mM1 : Same (fun k => (68 ≤ k ∧ k ≤ 76) ∨ k = 121) M M1 := (hm.mono (fun k hk => by first | omega | exact hk.elim | (dsimp only at hk ⊢; omega)))
    refine wp_if (fun c2 => ?_) (fun c2 => ?_)
    · exact wp_some mM1
    · exact absurd hA (by simp [c2])
  have mM1 : Same (fun k => (68 ≤ k ∧ k ≤ 76) ∨ k = 121) M M1 := (hm.mono (fun k hk => by first | omega | exact hk.elim | (dsimp only at hk ⊢; omega)))
  refine wp_if (fun c3 => ?_) (fun c3 => ?_)
  · refine wp_t ib01 ?_
    exact wp_some ((mM1).sL (by first | omega | (dsimp only; omega)))
  · refine wp_t ib01 ?_
    exact wp_some ((mM1).sL (by first | omega | (dsimp only; omega)))
theorem T_LAW_mild (x1 : Int32) (x2 : Int32) (x3 : Int32) (x4 : Int32) (M : Mem) : wpO (F_LAW_mild x1 x2 x3 x4 M) (fun r => Same (fun k => k = 78 ∨ k = 121) M r.2) := by
  unfold F_LAW_mild
  refine wp_h (T_KW_mild x1 x2 x3 x4 M) (fun E1 M1 hA hm => ?_) (fun r1 M1 hm => ?_)
  · have mM1 : Same (fun k => k = 78 ∨ k = 121) M M1 := (hm.mono (fun k hk => by first | omega | exact hk.elim | (dsimp only at hk ⊢; omega)))
    refine wp_if (fun c2 => ?_) (fun c2 => ?_)
    · exact wp_some mM1
    · exact absurd hA (by simp [c2])
  have mM1 : Same (fun k => k = 78 ∨ k = 121) M M1 := (hm.mono (fun k hk => by first | omega | exact hk.elim | (dsimp only at hk ⊢; omega)))
  refine wp_t ib01 ?_
  exact wp_some ((mM1).sL (by first | omega | (dsimp only; omega)))
theorem T_LAW_edge (x1 : Int32) (x2 : Int32) (x3 : Int32) (M : Mem) : wpO (F_LAW_edge x1 x2 x3 M) (fun r => Same (fun k => (34 ≤ k ∧ k ≤ 47) ∨ k = 121) M r.2) := by
  unfold F_LAW_edge
  refine wp_h (T_KW_edge x1 x2 x3 M) (fun E1 M1 hA hm => ?_) (fun r1 M1 hm => ?_)
  · have mM1 : Same (fun k => (34 ≤ k ∧ k ≤ 47) ∨ k = 121) M M1 := (hm.mono (fun k hk => by first | omega | exact hk.elim | (dsimp only at hk ⊢; omega)))
    refine wp_if (fun c2 => ?_) (fun c2 => ?_)
    · exact wp_some mM1
    · refine wp_if (fun c3 => ?_) (fun c3 => ?_)
      · exact wp_some mM1
      · refine wp_if (fun c4 => ?_) (fun c4 => ?_)
        · exact wp_some mM1
        · exact absurd hA (by simp [c2, c3, c4])
  have mM1 : Same (fun k => (34 ≤ k ∧ k ≤ 47) ∨ k = 121) M M1 := (hm.mono (fun k hk => by first | omega | exact hk.elim | (dsimp only at hk ⊢; omega)))
  refine wp_t ib01 ?_
  exact wp_some ((mM1).sL (by first | omega | (dsimp only; omega)))
theorem T_LAW_mistakes (x1 : Int32) (x2 : Int32) (M : Mem) : wpO (F_LAW_mistakes x1 x2 M) (fun r => Same (fun k => k = 1) M r.2) := by
  unfold F_LAW_mistakes
  refine wp_h (T_KW_mistakes x1 x2 M) (fun E1 M1 hA hm => ?_) (fun u1 M1 hm => ?_)
  · have mM1 : Same (fun k => k = 1) M M1 := (hm.mono (fun k hk => by first | omega | exact hk.elim | (dsimp only at hk ⊢; omega)))
    refine wp_if (fun c2 => ?_) (fun c2 => ?_)
    · exact wp_some mM1
    · exact absurd hA (by simp [c2])
  have mM1 : Same (fun k => k = 1) M M1 := (hm.mono (fun k hk => by first | omega | exact hk.elim | (dsimp only at hk ⊢; omega)))
  exact wp_some mM1
theorem T_LAW_doubt (x1 : Int32) (x2 : Int32) (x3 : Int32) (x4 : Int32) (x5 : Int32) (M : Mem) : wpO (F_LAW_doubt x1 x2 x3 x4 x5 M) (fun r => Same (fun k => (34 ≤ k ∧ k ≤ 51) ∨ k = 93 ∨ k = 121) M r.2) := by
  unfold F_LAW_doubt
  refine wp_h (T_KW_doubt x1 x2 x3 x4 x5 M) (fun E1 M1 hA hm => ?_) (fun r1 M1 hm => ?_)
  · have mM1 : Same (fun k => (34 ≤ k ∧ k ≤ 51) ∨ k = 93 ∨ k = 121) M M1 := (hm.mono (fun k hk => by first | omega | exact hk.elim | (dsimp only at hk ⊢; omega)))
    refine wp_if (fun c2 => ?_) (fun c2 => ?_)
    · exact wp_some mM1
    · refine wp_if (fun c3 => ?_) (fun c3 => ?_)
      · exact wp_some mM1
      · exact absurd hA (by simp [c2, c3])
  have mM1 : Same (fun k => (34 ≤ k ∧ k ≤ 51) ∨ k = 93 ∨ k = 121) M M1 := (hm.mono (fun k hk => by first | omega | exact hk.elim | (dsimp only at hk ⊢; omega)))
  refine wp_t ib01 ?_
  exact wp_some ((mM1).sL (by first | omega | (dsimp only; omega)))
theorem T_LAW_row (M : Mem) : wpO (F_LAW_row M) (fun r => Same (fun k => k = 1 ∨ k = 7 ∨ k = 27 ∨ k = 121) M r.2) := by
  unfold F_LAW_row
  refine wp_h (T_KW_row M) (fun E1 M1 hA hm => ?_) (fun r1 M1 hm => ?_)
  · have mM1 : Same (fun k => k = 1 ∨ k = 7 ∨ k = 27 ∨ k = 121) M M1 := (hm.mono (fun k hk => by first | omega | exact hk.elim | (dsimp only at hk ⊢; omega)))
    refine wp_if (fun c2 => ?_) (fun c2 => ?_)
    · exact wp_some mM1
    · exact absurd hA (by simp [c2])
  have mM1 : Same (fun k => k = 1 ∨ k = 7 ∨ k = 27 ∨ k = 121) M M1 := (hm.mono (fun k hk => by first | omega | exact hk.elim | (dsimp only at hk ⊢; omega)))
  refine wp_t ib01 ?_
  exact wp_some ((mM1).sL (by first | omega | (dsimp only; omega)))
theorem T_LAW_judge (x1 : Int32) (x2 : Int32) (M : Mem) : wpO (F_LAW_judge x1 x2 M) (fun r => Same (fun k => k = 79 ∨ k = 121) M r.2) := by
  unfold F_LAW_judge
  refine wp_h (T_KW_judge x1 x2 M) (fun E1 M1 hA hm => ?_) (fun r1 M1 hm => ?_)
  · have mM1 : Same (fun k => k = 79 ∨ k = 121) M M1 := (hm.mono (fun k hk => by first | omega | exact hk.elim | (dsimp only at hk ⊢; omega)))
    refine wp_if (fun c2 => ?_) (fun c2 => ?_)
    · exact wp_some mM1
    · refine wp_if (fun c3 => ?_) (fun c3 => ?_)
      · exact wp_some mM1
      · exact absurd hA (by simp [c2, c3])
  have mM1 : Same (fun k => k = 79 ∨ k = 121) M M1 := (hm.mono (fun k hk => by first | omega | exact hk.elim | (dsimp only at hk ⊢; omega)))
  refine wp_t ib01 ?_
  exact wp_some ((mM1).sL (by first | omega | (dsimp only; omega)))
theorem T_LAW_brought (x1 : Int32) (M : Mem) : wpO (F_LAW_brought x1 M) (fun r => Same (fun k => k = 121) M r.2) := by
  unfold F_LAW_brought
  refine wp_h (T_KW_brought x1 M) (fun E1 M1 hA hm => ?_) (fun r1 M1 hm => ?_)
  · have mM1 : Same (fun k => k = 121) M M1 := (hm.mono (fun k hk => by first | omega | exact hk.elim | (dsimp only at hk ⊢; omega)))
    refine wp_if (fun c2 => ?_) (fun c2 => ?_)
    · exact wp_some mM1
    · exact absurd hA (by simp [c2])
  have mM1 : Same (fun k => k = 121) M M1 := (hm.mono (fun k hk => by first | omega | exact hk.elim | (dsimp only at hk ⊢; omega)))
  refine wp_t ib01 ?_
  exact wp_some ((mM1).sL (by first | omega | (dsimp only; omega)))
theorem T_LAW_drawn (x1 : Int32) (x2 : Int32) (x3 : Int32) (x4 : Int32) (x5 : Int32) (M : Mem) : wpO (F_LAW_drawn x1 x2 x3 x4 x5 M) (fun r => Same (fun k => k = 79 ∨ k = 121) M r.2) := by
  unfold F_LAW_drawn
  refine wp_h (T_KW_drawn x1 x2 x3 x4 x5 M) (fun E1 M1 hA hm => ?_) (fun r1 M1 hm => ?_)
  · have mM1 : Same (fun k => k = 79 ∨ k = 121) M M1 := (hm.mono (fun k hk => by first | omega | exact hk.elim | (dsimp only at hk ⊢; omega)))
    refine wp_if (fun c2 => ?_) (fun c2 => ?_)
    · exact wp_some mM1
    · refine wp_if (fun c3 => ?_) (fun c3 => ?_)
      · exact wp_some mM1
      · refine wp_if (fun c4 => ?_) (fun c4 => ?_)
        · exact wp_some mM1
        · refine wp_if (fun c5 => ?_) (fun c5 => ?_)
          · exact wp_some mM1
          · exact absurd hA (by simp [c2, c3, c4, c5])
  have mM1 : Same (fun k => k = 79 ∨ k = 121) M M1 := (hm.mono (fun k hk => by first | omega | exact hk.elim | (dsimp only at hk ⊢; omega)))
  refine wp_t ib01 ?_
  exact wp_some ((mM1).sL (by first | omega | (dsimp only; omega)))
theorem T_LAW_field (x1 : Int32) (x2 : Int32) (M : Mem) : wpO (F_LAW_field x1 x2 M) (fun r => Same (fun k => k = 9) M r.2) := by
  unfold F_LAW_field
  refine wp_h (T_KW_field x1 x2 M) (fun E1 M1 hA hm => ?_) (fun u1 M1 hm => ?_)
  · have mM1 : Same (fun k => k = 9) M M1 := (hm.mono (fun k hk => by first | omega | exact hk.elim | (dsimp only at hk ⊢; omega)))
    refine wp_if (fun c2 => ?_) (fun c2 => ?_)
    · exact wp_some mM1
    · refine wp_if (fun c3 => ?_) (fun c3 => ?_)
      · exact wp_some mM1
      · exact absurd hA (by simp [c2, c3])
  have mM1 : Same (fun k => k = 9) M M1 := (hm.mono (fun k hk => by first | omega | exact hk.elim | (dsimp only at hk ⊢; omega)))
  exact wp_some mM1
theorem T_LAW_rounds (x1 : Int32) (M : Mem) : wpO (F_LAW_rounds x1 M) (fun r => Same (fun k => k = 1) M r.2) := by
  unfold F_LAW_rounds
  refine wp_h (T_KW_rounds x1 M) (fun E1 M1 hA hm => ?_) (fun u1 M1 hm => ?_)
  · have mM1 : Same (fun k => k = 1) M M1 := (hm.mono (fun k hk => by first | omega | exact hk.elim | (dsimp only at hk ⊢; omega)))
    refine wp_if (fun c2 => ?_) (fun c2 => ?_)
    · exact wp_some mM1
    · exact absurd hA (by simp [c2])
  have mM1 : Same (fun k => k = 1) M M1 := (hm.mono (fun k hk => by first | omega | exact hk.elim | (dsimp only at hk ⊢; omega)))
  exact wp_some mM1
theorem T_LAW_meet (x1 : Int32) (x2 : Int32) (M : Mem) : wpO (F_LAW_meet x1 x2 M) (fun r => Same (fun k => k = 79 ∨ k = 121) M r.2) := by
  unfold F_LAW_meet
  refine wp_h (T_KW_meet x1 x2 M) (fun E1 M1 hA hm => ?_) (fun r1 M1 hm => ?_)
  · have mM1 : Same (fun k => k = 79 ∨ k = 121) M M1 := (hm.mono (fun k hk => by first | omega | exact hk.elim | (dsimp only at hk ⊢; omega)))
    refine wp_if (fun c2 => ?_) (fun c2 => ?_)
    · exact wp_some mM1
    · refine wp_if (fun c3 => ?_) (fun c3 => ?_)
      · exact wp_some mM1
      · exact absurd hA (by simp [c2, c3])
  have mM1 : Same (fun k => k = 79 ∨ k = 121) M M1 := (hm.mono (fun k hk => by first | omega | exact hk.elim | (dsimp only at hk ⊢; omega)))
  refine wp_t ib01 ?_
  exact wp_some ((mM1).sL (by first | omega | (dsimp only; omega)))
theorem T_LAW_grow (x1 : Int32) (M : Mem) : wpO (F_LAW_grow x1 M) (fun r => Same (fun k => k = 9 ∨ k = 79 ∨ (82 ≤ k ∧ k ≤ 90) ∨ k = 121) M r.2) := by
  unfold F_LAW_grow
  refine wp_h (T_KW_grow x1 M) (fun E1 M1 hA hm => ?_) (fun r1 M1 hm => ?_)
  · have mM1 : Same (fun k => k = 9 ∨ k = 79 ∨ (82 ≤ k ∧ k ≤ 90) ∨ k = 121) M M1 := (hm.mono (fun k hk => by first | omega | exact hk.elim | (dsimp only at hk ⊢; omega)))
    refine wp_if (fun c2 => ?_) (fun c2 => ?_)
    · exact wp_some mM1
    · exact absurd hA (by simp [c2])
  have mM1 : Same (fun k => k = 9 ∨ k = 79 ∨ (82 ≤ k ∧ k ≤ 90) ∨ k = 121) M M1 := (hm.mono (fun k hk => by first | omega | exact hk.elim | (dsimp only at hk ⊢; omega)))
  refine wp_t ib01 ?_
  exact wp_some ((mM1).sL (by first | omega | (dsimp only; omega)))
theorem T_LAW_beings (x1 : Int32) (M : Mem) : wpO (F_LAW_beings x1 M) (fun r => Same (fun k => k = 121) M r.2) := by
  unfold F_LAW_beings
  refine wp_h (T_KW_beings x1 M) (fun E1 M1 hA hm => ?_) (fun r1 M1 hm => ?_)
  · have mM1 : Same (fun k => k = 121) M M1 := (hm.mono (fun k hk => by first | omega | exact hk.elim | (dsimp only at hk ⊢; omega)))
    refine wp_if (fun c2 => ?_) (fun c2 => ?_)
    · exact wp_some mM1
    · exact absurd hA (by simp [c2])
  have mM1 : Same (fun k => k = 121) M M1 := (hm.mono (fun k hk => by first | omega | exact hk.elim | (dsimp only at hk ⊢; omega)))
  refine wp_t ib01 ?_
  exact wp_some ((mM1).sL (by first | omega | (dsimp only; omega)))
theorem T_LAW_stays (x1 : Int32) (M : Mem) : wpO (F_LAW_stays x1 M) (fun r => Same (fun k => k = 79 ∨ k = 82 ∨ k = 121) M r.2) := by
  unfold F_LAW_stays
  refine wp_h (T_KW_stays x1 M) (fun E1 M1 hA hm => ?_) (fun r1 M1 hm => ?_)
  · have mM1 : Same (fun k => k = 79 ∨ k = 82 ∨ k = 121) M M1 := (hm.mono (fun k hk => by first | omega | exact hk.elim | (dsimp only at hk ⊢; omega)))
    refine wp_if (fun c2 => ?_) (fun c2 => ?_)
    · exact wp_some mM1
    · refine wp_if (fun c3 => ?_) (fun c3 => ?_)
      · exact wp_some mM1
      · exact absurd hA (by simp [c2, c3])
  have mM1 : Same (fun k => k = 79 ∨ k = 82 ∨ k = 121) M M1 := (hm.mono (fun k hk => by first | omega | exact hk.elim | (dsimp only at hk ⊢; omega)))
  refine wp_if (fun c4 => ?_) (fun c4 => ?_)
  · refine wp_t ib01 ?_
    exact wp_some ((mM1).sL (by first | omega | (dsimp only; omega)))
  · refine wp_t ib01 ?_
    exact wp_some ((mM1).sL (by first | omega | (dsimp only; omega)))
theorem T_LAW_all (x1 : Int32) (x2 : Int32) (M : Mem) : wpO (F_LAW_all x1 x2 M) (fun r => Same (fun k => k = 5 ∨ (34 ≤ k ∧ k ≤ 47) ∨ (52 ≤ k ∧ k ≤ 67) ∨ k = 93 ∨ k = 121) M r.2) := by
  unfold F_LAW_all
  refine wp_h (T_KW_all x1 x2 M) (fun E1 M1 hA hm => ?_) (fun r1 M1 hm => ?_)
  · have mM1 : Same (fun k => k = 5 ∨ (34 ≤ k ∧ k ≤ 47) ∨ (52 ≤ k ∧ k ≤ 67) ∨ k = 93 ∨ k = 121) M M1 := (hm.mono (fun k hk => by first | omega | exact hk.elim | (dsimp only at hk ⊢; omega)))
    refine wp_if (fun c2 => ?_) (fun c2 => ?_)
    · exact wp_some mM1
    · refine wp_if (fun c3 => ?_) (fun c3 => ?_)
      · exact wp_some mM1
      · refine wp_if (fun c4 => ?_) (fun c4 => ?_)
        · exact wp_some mM1
        · exact absurd hA (by simp [c2, c3, c4])
  have mM1 : Same (fun k => k = 5 ∨ (34 ≤ k ∧ k ≤ 47) ∨ (52 ≤ k ∧ k ≤ 67) ∨ k = 93 ∨ k = 121) M M1 := (hm.mono (fun k hk => by first | omega | exact hk.elim | (dsimp only at hk ⊢; omega)))
  refine wp_t ib01 ?_
  exact wp_some ((mM1).sL (by first | omega | (dsimp only; omega)))
theorem T_LAW_begin (x1 : Int32) (x2 : Int32) (M : Mem) : wpO (F_LAW_begin x1 x2 M) (fun r => Same (fun k => (34 ≤ k ∧ k ≤ 47) ∨ k = 121) M r.2) := by
  unfold F_LAW_begin
  refine wp_h (T_KW_begin x1 x2 M) (fun E1 M1 hA hm => ?_) (fun r1 M1 hm => ?_)
  · have mM1 : Same (fun k => (34 ≤ k ∧ k ≤ 47) ∨ k = 121) M M1 := (hm.mono (fun k hk => by first | omega | exact hk.elim | (dsimp only at hk ⊢; omega)))
    refine wp_if (fun c2 => ?_) (fun c2 => ?_)
    · exact wp_some mM1
    · refine wp_if (fun c3 => ?_) (fun c3 => ?_)
      · exact wp_some mM1
      · exact absurd hA (by simp [c2, c3])
  have mM1 : Same (fun k => (34 ≤ k ∧ k ≤ 47) ∨ k = 121) M M1 := (hm.mono (fun k hk => by first | omega | exact hk.elim | (dsimp only at hk ⊢; omega)))
  refine wp_t ib01 ?_
  exact wp_some ((mM1).sL (by first | omega | (dsimp only; omega)))
theorem T_LAW_villager (x1 : Int32) (x2 : Int32) (M : Mem) : wpO (F_LAW_villager x1 x2 M) (fun r => Same (fun k => k = 1 ∨ (11 ≤ k ∧ k ≤ 13) ∨ k = 121) M r.2) := by
  unfold F_LAW_villager
  refine wp_h (T_KW_villager x1 x2 M) (fun E1 M1 hA hm => ?_) (fun r1 M1 hm => ?_)
  · have mM1 : Same (fun k => k = 1 ∨ (11 ≤ k ∧ k ≤ 13) ∨ k = 121) M M1 := (hm.mono (fun k hk => by first | omega | exact hk.elim | (dsimp only at hk ⊢; omega)))
    refine wp_if (fun c2 => ?_) (fun c2 => ?_)
    · exact wp_some mM1
    · refine wp_if (fun c3 => ?_) (fun c3 => ?_)
      · exact wp_some mM1
      · exact absurd hA (by simp [c2, c3])
  have mM1 : Same (fun k => k = 1 ∨ (11 ≤ k ∧ k ≤ 13) ∨ k = 121) M M1 := (hm.mono (fun k hk => by first | omega | exact hk.elim | (dsimp only at hk ⊢; omega)))
  refine wp_t ib01 ?_
  exact wp_some ((mM1).sL (by first | omega | (dsimp only; omega)))
theorem T_LAW_villageEdge (x1 : Int32) (x2 : Int32) (M : Mem) : wpO (F_LAW_villageEdge x1 x2 M) (fun r => Same (fun k => k = 93 ∨ k = 121) M r.2) := by
  unfold F_LAW_villageEdge
  refine wp_h (T_KW_villageEdge x1 x2 M) (fun E1 M1 hA hm => ?_) (fun r1 M1 hm => ?_)
  · have mM1 : Same (fun k => k = 93 ∨ k = 121) M M1 := (hm.mono (fun k hk => by first | omega | exact hk.elim | (dsimp only at hk ⊢; omega)))
    refine wp_if (fun c2 => ?_) (fun c2 => ?_)
    · exact wp_some mM1
    · exact absurd hA (by simp [c2])
  have mM1 : Same (fun k => k = 93 ∨ k = 121) M M1 := (hm.mono (fun k hk => by first | omega | exact hk.elim | (dsimp only at hk ⊢; omega)))
  refine wp_t ib01 ?_
  exact wp_some ((mM1).sL (by first | omega | (dsimp only; omega)))
theorem T_LAW_village (x1 : Int32) (M : Mem) : wpO (F_LAW_village x1 M) (fun r => Same (fun k => k = 92 ∨ k = 121) M r.2) := by
  unfold F_LAW_village
  refine wp_h (T_KW_village x1 M) (fun E1 M1 hA hm => ?_) (fun r1 M1 hm => ?_)
  · have mM1 : Same (fun k => k = 92 ∨ k = 121) M M1 := (hm.mono (fun k hk => by first | omega | exact hk.elim | (dsimp only at hk ⊢; omega)))
    refine wp_if (fun c2 => ?_) (fun c2 => ?_)
    · exact wp_some mM1
    · exact absurd hA (by simp [c2])
  have mM1 : Same (fun k => k = 92 ∨ k = 121) M M1 := (hm.mono (fun k hk => by first | omega | exact hk.elim | (dsimp only at hk ⊢; omega)))
  refine wp_t ib01 ?_
  exact wp_some ((mM1).sL (by first | omega | (dsimp only; omega)))
