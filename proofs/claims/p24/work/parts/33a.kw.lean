theorem T_KW_feed (x1 : Int32) (x2 : Int32) (x3 : Int32) (x4 : Int32) (x5 : Int32) (M : Mem) : wpO (F_KW_feed x1 x2 x3 x4 x5 M) (fun r => Same (fun k => (27 ≤ k ∧ k ≤ 29)) M r.2) := by
  unfold F_KW_feed
  refine wp_bind (T_Tape_hasRoom M) (fun r1 hr1 => ?_)
  refine wp_if (fun c1 => ?_) (fun c1 => ?_)
  · refine wp_bind (T_Tape_append x1 M) (fun r2 hr2 => ?_)
    have mr2 : Same (fun k => (27 ≤ k ∧ k ≤ 29)) M r2 := hr2.mono (fun k hk => by first | omega | exact hk.elim | (dsimp only at hk ⊢; omega))
    refine wp_bind (T_Tape_append x2 r2) (fun r3 hr3 => ?_)
    have mr3 : Same (fun k => (27 ≤ k ∧ k ≤ 29)) M r3 := (mr2).trans (hr3.mono (fun k hk => by first | omega | exact hk.elim | (dsimp only at hk ⊢; omega)))
    refine wp_bind (T_Tape_append x3 r3) (fun r4 hr4 => ?_)
    have mr4 : Same (fun k => (27 ≤ k ∧ k ≤ 29)) M r4 := (mr3).trans (hr4.mono (fun k hk => by first | omega | exact hk.elim | (dsimp only at hk ⊢; omega)))
    refine wp_bind (T_Tape_append x4 r4) (fun r5 hr5 => ?_)
    have mr5 : Same (fun k => (27 ≤ k ∧ k ≤ 29)) M r5 := (mr4).trans (hr5.mono (fun k hk => by first | omega | exact hk.elim | (dsimp only at hk ⊢; omega)))
    refine wp_bind (T_Tape_append x5 r5) (fun r6 hr6 => ?_)
    have mr6 : Same (fun k => (27 ≤ k ∧ k ≤ 29)) M r6 := (mr5).trans (hr6.mono (fun k hk => by first | omega | exact hk.elim | (dsimp only at hk ⊢; omega)))
    exact wp_some mr6
  · exact wp_some Same.rfl'
theorem T_KW_end (x1 : Int32) (M : Mem) : wpO (F_KW_end x1 M) (fun r => Same (fun k => k = 27) M r.2) := by
  unfold F_KW_end
  refine wp_if (fun c1 => ?_) (fun c1 => ?_)
  · exact wp_some Same.rfl'
  · refine wp_if (fun c2 => ?_) (fun c2 => ?_)
    · exact wp_some ((Same.rfl').sI (by first | omega | (dsimp only; omega)))
    · exact wp_some Same.rfl'
theorem T_KW_needNumber (x1 : Int32) (x2 : Int32) (x3 : Int32) (M : Mem) : wpO (F_KW_needNumber x1 x2 x3 M) (fun r => (∀ E, r.1 = .inl E → E ∈ (["java/lang/IllegalArgumentException"] : List String)) ∧ Same (fun k => False) M r.2) := by
  unfold F_KW_needNumber
  refine wp_if (fun c1 => ?_) (fun c1 => ?_)
  · exact wp_some ⟨(fun E he => by cases he; decide), Same.rfl'⟩
  · refine wp_if (fun c2 => ?_) (fun c2 => ?_)
    · exact wp_some ⟨(fun E he => nomatch he), Same.rfl'⟩
    · exact wp_some ⟨(fun E he => by cases he; decide), Same.rfl'⟩
theorem T_KW_acts (x1 : Int32) (M : Mem) : wpO (F_KW_acts x1 M) (fun r => (∀ E, r.1 = .inl E → E ∈ (["java/lang/IllegalArgumentException"] : List String)) ∧ Same (fun k => k = 1) M r.2) := by
  unfold F_KW_acts
  refine wp_x (T_KW_needNumber x1 2 3 M) (fun E M1 hA hm => ?_) (fun u1 M1 hm => ?_)
  · exact ⟨fun E2 he => by cases he; exact (show ∀ E ∈ (["java/lang/IllegalArgumentException"] : List String), E ∈ (["java/lang/IllegalArgumentException"] : List String) by decide) E hA, (hm.mono (fun k hk => by first | omega | exact hk.elim | (dsimp only at hk ⊢; omega)))⟩
  have mM1 : Same (fun k => k = 1) M M1 := (hm.mono (fun k hk => by first | omega | exact hk.elim | (dsimp only at hk ⊢; omega)))
  exact wp_some ⟨(fun E he => nomatch he), ((mM1).sI (by first | omega | (dsimp only; omega)))⟩
theorem T_KW_needAct (x1 : Int32) (M : Mem) : wpO (F_KW_needAct x1 M) (fun r => (∀ E, r.1 = .inl E → E ∈ (["java/lang/IndexOutOfBoundsException"] : List String)) ∧ Same (fun k => False) M r.2) := by
  unfold F_KW_needAct
  refine wp_if (fun c1 => ?_) (fun c1 => ?_)
  · exact wp_some ⟨(fun E he => by cases he; decide), Same.rfl'⟩
  · refine wp_if (fun c2 => ?_) (fun c2 => ?_)
    · exact wp_some ⟨(fun E he => nomatch he), Same.rfl'⟩
    · exact wp_some ⟨(fun E he => by cases he; decide), Same.rfl'⟩
theorem T_KW_bring (x1 : Int32) (x2 : Int32) (x3 : Int32) (x4 : Int32) (M : Mem) : wpO (F_KW_bring x1 x2 x3 x4 M) (fun r => (∀ E, r.1 = .inl E → E ∈ (["java/lang/IndexOutOfBoundsException", "java/lang/IllegalArgumentException"] : List String)) ∧ Same (fun k => k = 3) M r.2) := by
  unfold F_KW_bring
  refine wp_x (T_KW_needAct x1 M) (fun E M1 hA hm => ?_) (fun u1 M1 hm => ?_)
  · exact ⟨fun E2 he => by cases he; exact (show ∀ E ∈ (["java/lang/IndexOutOfBoundsException"] : List String), E ∈ (["java/lang/IndexOutOfBoundsException", "java/lang/IllegalArgumentException"] : List String) by decide) E hA, (hm.mono (fun k hk => by first | omega | exact hk.elim | (dsimp only at hk ⊢; omega)))⟩
  have mM1 : Same (fun k => k = 3) M M1 := (hm.mono (fun k hk => by first | omega | exact hk.elim | (dsimp only at hk ⊢; omega)))
  refine wp_x (T_KW_needAct x2 M1) (fun E M2 hA hm => ?_) (fun u2 M2 hm => ?_)
  · exact ⟨fun E2 he => by cases he; exact (show ∀ E ∈ (["java/lang/IndexOutOfBoundsException"] : List String), E ∈ (["java/lang/IndexOutOfBoundsException", "java/lang/IllegalArgumentException"] : List String) by decide) E hA, ((mM1).trans (hm.mono (fun k hk => by first | omega | exact hk.elim | (dsimp only at hk ⊢; omega))))⟩
  have mM2 : Same (fun k => k = 3) M M2 := ((mM1).trans (hm.mono (fun k hk => by first | omega | exact hk.elim | (dsimp only at hk ⊢; omega))))
  refine wp_x (T_KW_needNumber x3 ((-99)) 99 M2) (fun E M3 hA hm => ?_) (fun u3 M3 hm => ?_)
  · exact ⟨fun E2 he => by cases he; exact (show ∀ E ∈ (["java/lang/IllegalArgumentException"] : List String), E ∈ (["java/lang/IndexOutOfBoundsException", "java/lang/IllegalArgumentException"] : List String) by decide) E hA, ((mM2).trans (hm.mono (fun k hk => by first | omega | exact hk.elim | (dsimp only at hk ⊢; omega))))⟩
  have mM3 : Same (fun k => k = 3) M M3 := ((mM2).trans (hm.mono (fun k hk => by first | omega | exact hk.elim | (dsimp only at hk ⊢; omega))))
  refine wp_x (T_KW_needNumber x4 ((-99)) 99 M3) (fun E M4 hA hm => ?_) (fun u4 M4 hm => ?_)
  · exact ⟨fun E2 he => by cases he; exact (show ∀ E ∈ (["java/lang/IllegalArgumentException"] : List String), E ∈ (["java/lang/IndexOutOfBoundsException", "java/lang/IllegalArgumentException"] : List String) by decide) E hA, ((mM3).trans (hm.mono (fun k hk => by first | omega | exact hk.elim | (dsimp only at hk ⊢; omega))))⟩
  have mM4 : Same (fun k => k = 3) M M4 := ((mM3).trans (hm.mono (fun k hk => by first | omega | exact hk.elim | (dsimp only at hk ⊢; omega))))
  refine wp_bind (T_Well_setBrings x1 x2 x3 x4 M4) (fun r5 hr5 => ?_)
  have mr5 : Same (fun k => k = 3) M r5 := (mM4).trans (hr5.mono (fun k hk => by first | omega | exact hk.elim | (dsimp only at hk ⊢; omega)))
  exact wp_some ⟨(fun E he => nomatch he), mr5⟩
theorem T_KW_tomorrow (x1 : Int32) (x2 : Int32) (M : Mem) : wpO (F_KW_tomorrow x1 x2 M) (fun r => (∀ E, r.1 = .inl E → E ∈ (["java/lang/IllegalArgumentException"] : List String)) ∧ Same (fun k => k = 1) M r.2) := by
  unfold F_KW_tomorrow
  refine wp_x (T_KW_needNumber x2 2 9 M) (fun E M1 hA hm => ?_) (fun u1 M1 hm => ?_)
  · exact ⟨fun E2 he => by cases he; exact (show ∀ E ∈ (["java/lang/IllegalArgumentException"] : List String), E ∈ (["java/lang/IllegalArgumentException"] : List String) by decide) E hA, (hm.mono (fun k hk => by first | omega | exact hk.elim | (dsimp only at hk ⊢; omega)))⟩
  have mM1 : Same (fun k => k = 1) M M1 := (hm.mono (fun k hk => by first | omega | exact hk.elim | (dsimp only at hk ⊢; omega)))
  refine wp_x (T_KW_needNumber x1 1 (x2 - 1) M1) (fun E M2 hA hm => ?_) (fun u2 M2 hm => ?_)
  · exact ⟨fun E2 he => by cases he; exact (show ∀ E ∈ (["java/lang/IllegalArgumentException"] : List String), E ∈ (["java/lang/IllegalArgumentException"] : List String) by decide) E hA, ((mM1).trans (hm.mono (fun k hk => by first | omega | exact hk.elim | (dsimp only at hk ⊢; omega))))⟩
  have mM2 : Same (fun k => k = 1) M M2 := ((mM1).trans (hm.mono (fun k hk => by first | omega | exact hk.elim | (dsimp only at hk ⊢; omega))))
  exact wp_some ⟨(fun E he => nomatch he), ((((mM2).sI (by first | omega | (dsimp only; omega)))).sI (by first | omega | (dsimp only; omega)))⟩
theorem T_KW_way (M : Mem) : wpO (F_KW_way M) (fun r => (∀ E, r.1 = .inl E → E ∈ (["java/lang/UnsupportedOperationException", "java/lang/IllegalArgumentException"] : List String)) ∧ Same (fun k => (0 ≤ k ∧ k ≤ 1) ∨ k = 5 ∨ k = 27 ∨ (31 ≤ k ∧ k ≤ 33)) M r.2) := by
  unfold F_KW_way
  refine wp_bind (T_Tape_readWay M) (fun r1 hr1 => ?_)
  have mr1 : Same (fun k => (0 ≤ k ∧ k ≤ 1) ∨ k = 5 ∨ k = 27 ∨ (31 ≤ k ∧ k ≤ 33)) M r1.2 := hr1.mono (fun k hk => by first | omega | exact hk.elim | (dsimp only at hk ⊢; omega))
  refine wp_if (fun c1 => ?_) (fun c1 => ?_)
  · refine wp_if (fun c2 => ?_) (fun c2 => ?_)
    · refine wp_bind (T_Well_putWay 31 13 ((mSI (mSI r1.2 0 4 r1.1) 27 1 0).1 1 6) (mSI (mSI r1.2 0 4 r1.1) 27 1 0)) (fun r2 hr2 => ?_)
      have mr2 : Same (fun k => (0 ≤ k ∧ k ≤ 1) ∨ k = 5 ∨ k = 27 ∨ (31 ≤ k ∧ k ≤ 33)) M r2 := (((((mr1).sI (by first | omega | (dsimp only; omega)))).sI (by first | omega | (dsimp only; omega)))).trans (hr2.mono (fun k hk => by first | omega | exact hk.elim | (dsimp only at hk ⊢; omega)))
      exact wp_some ⟨(fun E he => nomatch he), ((mr2).sI (by first | omega | (dsimp only; omega)))⟩
    · exact wp_some ⟨(fun E he => by cases he; decide), ((((mr1).sI (by first | omega | (dsimp only; omega)))).sI (by first | omega | (dsimp only; omega)))⟩
  · exact wp_some ⟨(fun E he => by cases he; decide), ((((mr1).sI (by first | omega | (dsimp only; omega)))).sI (by first | omega | (dsimp only; omega)))⟩
theorem T_KW_fault (M : Mem) : wpO (F_KW_fault M) (fun r => True) := by
  unfold F_KW_fault
  exact wp_some trivial
theorem T_KW_needWay (x1 : Int32) (M : Mem) : wpO (F_KW_needWay x1 M) (fun r => (∀ E, r.1 = .inl E → E ∈ (["java/lang/IndexOutOfBoundsException"] : List String)) ∧ Same (fun k => False) M r.2) := by
  unfold F_KW_needWay
  refine wp_if (fun c1 => ?_) (fun c1 => ?_)
  · exact wp_some ⟨(fun E he => by cases he; decide), Same.rfl'⟩
  · refine wp_if (fun c2 => ?_) (fun c2 => ?_)
    · exact wp_some ⟨(fun E he => nomatch he), Same.rfl'⟩
    · exact wp_some ⟨(fun E he => by cases he; decide), Same.rfl'⟩
theorem T_KW_needWhat (x1 : Int32) (x2 : Int32) (M : Mem) : wpO (F_KW_needWhat x1 x2 M) (fun r => (∀ E, r.1 = .inl E → E ∈ (["java/util/NoSuchElementException"] : List String)) ∧ Same (fun k => False) M r.2) := by
  unfold F_KW_needWhat
  refine wp_if (fun c1 => ?_) (fun c1 => ?_)
  · exact wp_some ⟨(fun E he => by cases he; decide), Same.rfl'⟩
  · refine wp_if (fun c2 => ?_) (fun c2 => ?_)
    · exact wp_some ⟨(fun E he => nomatch he), Same.rfl'⟩
    · exact wp_some ⟨(fun E he => by cases he; decide), Same.rfl'⟩
theorem T_KW_needMood (x1 : Int32) (x2 : Int32) (M : Mem) : wpO (F_KW_needMood x1 x2 M) (fun r => (∀ E, r.1 = .inl E → E ∈ (["java/lang/IndexOutOfBoundsException"] : List String)) ∧ Same (fun k => False) M r.2) := by
  unfold F_KW_needMood
  refine wp_if (fun c1 => ?_) (fun c1 => ?_)
  · exact wp_some ⟨(fun E he => by cases he; decide), Same.rfl'⟩
  · refine wp_bind (T_Well_moodsOf x1 M) (fun r1 hr1 => ?_)
    refine wp_if (fun c2 => ?_) (fun c2 => ?_)
    · exact wp_some ⟨(fun E he => nomatch he), Same.rfl'⟩
    · exact wp_some ⟨(fun E he => by cases he; decide), Same.rfl'⟩
theorem T_KW_mood (x1 : Int32) (x2 : Int32) (x3 : Int32) (M : Mem) : wpO (F_KW_mood x1 x2 x3 M) (fun r => (∀ E, r.1 = .inl E → E ∈ (["java/lang/IndexOutOfBoundsException", "java/util/NoSuchElementException"] : List String)) ∧ Same (fun k => False) M r.2) := by
  unfold F_KW_mood
  refine wp_x (T_KW_needWay x1 M) (fun E M1 hA hm => ?_) (fun u1 M1 hm => ?_)
  · exact ⟨fun E2 he => by cases he; exact (show ∀ E ∈ (["java/lang/IndexOutOfBoundsException"] : List String), E ∈ (["java/lang/IndexOutOfBoundsException", "java/util/NoSuchElementException"] : List String) by decide) E hA, (hm.mono (fun k hk => by first | omega | exact hk.elim | (dsimp only at hk ⊢; omega)))⟩
  have mM1 : Same (fun k => False) M M1 := (hm.mono (fun k hk => by first | omega | exact hk.elim | (dsimp only at hk ⊢; omega)))
  refine wp_if (fun c2 => ?_) (fun c2 => ?_)
  · refine wp_bind (T_Well_moodsOf x1 M1) (fun r7 hr7 => ?_)
    exact wp_some ⟨(fun E he => nomatch he), mM1⟩
  · refine wp_if (fun c3 => ?_) (fun c3 => ?_)
    · refine wp_bind (T_Well_isBarred x1 M1) (fun r6 hr6 => ?_)
      refine wp_if (fun c4 => ?_) (fun c4 => ?_)
      · exact wp_some ⟨(fun E he => nomatch he), mM1⟩
      · exact wp_some ⟨(fun E he => nomatch he), mM1⟩
    · refine wp_x (T_KW_needWhat x3 5 M1) (fun E M2 hA hm => ?_) (fun u5 M2 hm => ?_)
      · exact ⟨fun E2 he => by cases he; exact (show ∀ E ∈ (["java/util/NoSuchElementException"] : List String), E ∈ (["java/lang/IndexOutOfBoundsException", "java/util/NoSuchElementException"] : List String) by decide) E hA, ((mM1).trans (hm.mono (fun k hk => by first | omega | exact hk.elim | (dsimp only at hk ⊢; omega))))⟩
      have mM2 : Same (fun k => False) M M2 := ((mM1).trans (hm.mono (fun k hk => by first | omega | exact hk.elim | (dsimp only at hk ⊢; omega))))
      refine wp_x (T_KW_needMood x1 x2 M2) (fun E M3 hA hm => ?_) (fun u6 M3 hm => ?_)
      · exact ⟨fun E2 he => by cases he; exact (show ∀ E ∈ (["java/lang/IndexOutOfBoundsException"] : List String), E ∈ (["java/lang/IndexOutOfBoundsException", "java/util/NoSuchElementException"] : List String) by decide) E hA, ((mM2).trans (hm.mono (fun k hk => by first | omega | exact hk.elim | (dsimp only at hk ⊢; omega))))⟩
      have mM3 : Same (fun k => False) M M3 := ((mM2).trans (hm.mono (fun k hk => by first | omega | exact hk.elim | (dsimp only at hk ⊢; omega))))
      refine wp_if (fun c7 => ?_) (fun c7 => ?_)
      · refine wp_bind (T_Well_actOf x1 x2 M3) (fun r5 hr5 => ?_)
        exact wp_some ⟨(fun E he => nomatch he), mM3⟩
      · refine wp_bind (T_Well_nextOf x1 x2 (x3 - 3) M3) (fun r4 hr4 => ?_)
        exact wp_some ⟨(fun E he => nomatch he), mM3⟩
theorem T_KW_needPerson (x1 : Int32) (M : Mem) : wpO (F_KW_needPerson x1 M) (fun r => (∀ E, r.1 = .inl E → E ∈ (["java/lang/IndexOutOfBoundsException"] : List String)) ∧ Same (fun k => False) M r.2) := by
  unfold F_KW_needPerson
  refine wp_if (fun c1 => ?_) (fun c1 => ?_)
  · exact wp_some ⟨(fun E he => by cases he; decide), Same.rfl'⟩
  · refine wp_if (fun c2 => ?_) (fun c2 => ?_)
    · exact wp_some ⟨(fun E he => nomatch he), Same.rfl'⟩
    · exact wp_some ⟨(fun E he => by cases he; decide), Same.rfl'⟩
theorem T_KW_needFree (x1 : Int32) (M : Mem) : wpO (F_KW_needFree x1 M) (fun r => (∀ E, r.1 = .inl E → E ∈ (["java/lang/IllegalStateException"] : List String)) ∧ Same (fun k => False) M r.2) := by
  unfold F_KW_needFree
  refine wp_bind (T_Well_isBarred x1 M) (fun r1 hr1 => ?_)
  refine wp_if (fun c1 => ?_) (fun c1 => ?_)
  · exact wp_some ⟨(fun E he => by cases he; decide), Same.rfl'⟩
  · exact wp_some ⟨(fun E he => nomatch he), Same.rfl'⟩
theorem T_KW_worth (x1 : Int32) (x2 : Int32) (x3 : Int32) (x4 : Int32) (x5 : Int32) (x6 : Int32) (M : Mem) : wpO (F_KW_worth x1 x2 x3 x4 x5 x6 M) (fun r => (∀ E, r.1 = .inl E → E ∈ (["java/lang/IndexOutOfBoundsException", "java/lang/IllegalStateException"] : List String)) ∧ Same (fun k => (34 ≤ k ∧ k ≤ 47) ∨ k = 93) M r.2) := by
  unfold F_KW_worth
  refine wp_x (T_KW_needWay x1 M) (fun E M1 hA hm => ?_) (fun u1 M1 hm => ?_)
  · exact ⟨fun E2 he => by cases he; exact (show ∀ E ∈ (["java/lang/IndexOutOfBoundsException"] : List String), E ∈ (["java/lang/IndexOutOfBoundsException", "java/lang/IllegalStateException"] : List String) by decide) E hA, (hm.mono (fun k hk => by first | omega | exact hk.elim | (dsimp only at hk ⊢; omega)))⟩
  have mM1 : Same (fun k => (34 ≤ k ∧ k ≤ 47) ∨ k = 93) M M1 := (hm.mono (fun k hk => by first | omega | exact hk.elim | (dsimp only at hk ⊢; omega)))
  refine wp_x (T_KW_needMood x1 x2 M1) (fun E M2 hA hm => ?_) (fun u2 M2 hm => ?_)
  · exact ⟨fun E2 he => by cases he; exact (show ∀ E ∈ (["java/lang/IndexOutOfBoundsException"] : List String), E ∈ (["java/lang/IndexOutOfBoundsException", "java/lang/IllegalStateException"] : List String) by decide) E hA, ((mM1).trans (hm.mono (fun k hk => by first | omega | exact hk.elim | (dsimp only at hk ⊢; omega))))⟩
  have mM2 : Same (fun k => (34 ≤ k ∧ k ≤ 47) ∨ k = 93) M M2 := ((mM1).trans (hm.mono (fun k hk => by first | omega | exact hk.elim | (dsimp only at hk ⊢; omega))))
  refine wp_x (T_KW_needWay x3 M2) (fun E M3 hA hm => ?_) (fun u3 M3 hm => ?_)
  · exact ⟨fun E2 he => by cases he; exact (show ∀ E ∈ (["java/lang/IndexOutOfBoundsException"] : List String), E ∈ (["java/lang/IndexOutOfBoundsException", "java/lang/IllegalStateException"] : List String) by decide) E hA, ((mM2).trans (hm.mono (fun k hk => by first | omega | exact hk.elim | (dsimp only at hk ⊢; omega))))⟩
  have mM3 : Same (fun k => (34 ≤ k ∧ k ≤ 47) ∨ k = 93) M M3 := ((mM2).trans (hm.mono (fun k hk => by first | omega | exact hk.elim | (dsimp only at hk ⊢; omega))))
  refine wp_x (T_KW_needMood x3 x4 M3) (fun E M4 hA hm => ?_) (fun u4 M4 hm => ?_)
  · exact ⟨fun E2 he => by cases he; exact (show ∀ E ∈ (["java/lang/IndexOutOfBoundsException"] : List String), E ∈ (["java/lang/IndexOutOfBoundsException", "java/lang/IllegalStateException"] : List String) by decide) E hA, ((mM3).trans (hm.mono (fun k hk => by first | omega | exact hk.elim | (dsimp only at hk ⊢; omega))))⟩
  have mM4 : Same (fun k => (34 ≤ k ∧ k ≤ 47) ∨ k = 93) M M4 := ((mM3).trans (hm.mono (fun k hk => by first | omega | exact hk.elim | (dsimp only at hk ⊢; omega))))
  refine wp_x (T_KW_needPerson x5 M4) (fun E M5 hA hm => ?_) (fun u5 M5 hm => ?_)
  · exact ⟨fun E2 he => by cases he; exact (show ∀ E ∈ (["java/lang/IndexOutOfBoundsException"] : List String), E ∈ (["java/lang/IndexOutOfBoundsException", "java/lang/IllegalStateException"] : List String) by decide) E hA, ((mM4).trans (hm.mono (fun k hk => by first | omega | exact hk.elim | (dsimp only at hk ⊢; omega))))⟩
  have mM5 : Same (fun k => (34 ≤ k ∧ k ≤ 47) ∨ k = 93) M M5 := ((mM4).trans (hm.mono (fun k hk => by first | omega | exact hk.elim | (dsimp only at hk ⊢; omega))))
  refine wp_x (T_KW_needFree x1 M5) (fun E M6 hA hm => ?_) (fun u6 M6 hm => ?_)
  · exact ⟨fun E2 he => by cases he; exact (show ∀ E ∈ (["java/lang/IllegalStateException"] : List String), E ∈ (["java/lang/IndexOutOfBoundsException", "java/lang/IllegalStateException"] : List String) by decide) E hA, ((mM5).trans (hm.mono (fun k hk => by first | omega | exact hk.elim | (dsimp only at hk ⊢; omega))))⟩
  have mM6 : Same (fun k => (34 ≤ k ∧ k ≤ 47) ∨ k = 93) M M6 := ((mM5).trans (hm.mono (fun k hk => by first | omega | exact hk.elim | (dsimp only at hk ⊢; omega))))
  refine wp_x (T_KW_needFree x3 M6) (fun E M7 hA hm => ?_) (fun u7 M7 hm => ?_)
  · exact ⟨fun E2 he => by cases he; exact (show ∀ E ∈ (["java/lang/IllegalStateException"] : List String), E ∈ (["java/lang/IndexOutOfBoundsException", "java/lang/IllegalStateException"] : List String) by decide) E hA, ((mM6).trans (hm.mono (fun k hk => by first | omega | exact hk.elim | (dsimp only at hk ⊢; omega))))⟩
  have mM7 : Same (fun k => (34 ≤ k ∧ k ≤ 47) ∨ k = 93) M M7 := ((mM6).trans (hm.mono (fun k hk => by first | omega | exact hk.elim | (dsimp only at hk ⊢; omega))))
  refine wp_bind (T_Pair_look x1 x3 ((M7.1 1 1).toInt64) ((M7.1 1 2).toInt64) M7) (fun r8 hr8 => ?_)
  have mr8 : Same (fun k => (34 ≤ k ∧ k ≤ 47) ∨ k = 93) M r8 := (mM7).trans (hr8.mono (fun k hk => by first | omega | exact hk.elim | (dsimp only at hk ⊢; omega)))
  refine wp_bind (T_Pair_tellWorth 93 x2 x4 x5 r8) (fun r9 hr9 => ?_)
  have mr9 : Same (fun k => (34 ≤ k ∧ k ≤ 47) ∨ k = 93) M r9 := (mr8).trans (hr9.mono (fun k hk => by first | omega | exact hk.elim | (dsimp only at hk ⊢; omega)))
  refine wp_bind (T_Fraction_part 93 x6 r9) (fun r10 hr10 => ?_)
  exact wp_some ⟨(fun E he => nomatch he), mr9⟩
theorem T_KW_needPair (x1 : Int32) (x2 : Int32) (M : Mem) : wpO (F_KW_needPair x1 x2 M) (fun r => (∀ E, r.1 = .inl E → E ∈ (["java/lang/IndexOutOfBoundsException", "java/lang/IllegalStateException"] : List String)) ∧ Same (fun k => False) M r.2) := by
  unfold F_KW_needPair
  refine wp_x (T_KW_needWay x1 M) (fun E M1 hA hm => ?_) (fun u1 M1 hm => ?_)
  · exact ⟨fun E2 he => by cases he; exact (show ∀ E ∈ (["java/lang/IndexOutOfBoundsException"] : List String), E ∈ (["java/lang/IndexOutOfBoundsException", "java/lang/IllegalStateException"] : List String) by decide) E hA, (hm.mono (fun k hk => by first | omega | exact hk.elim | (dsimp only at hk ⊢; omega)))⟩
  have mM1 : Same (fun k => False) M M1 := (hm.mono (fun k hk => by first | omega | exact hk.elim | (dsimp only at hk ⊢; omega)))
  refine wp_x (T_KW_needWay x2 M1) (fun E M2 hA hm => ?_) (fun u2 M2 hm => ?_)
  · exact ⟨fun E2 he => by cases he; exact (show ∀ E ∈ (["java/lang/IndexOutOfBoundsException"] : List String), E ∈ (["java/lang/IndexOutOfBoundsException", "java/lang/IllegalStateException"] : List String) by decide) E hA, ((mM1).trans (hm.mono (fun k hk => by first | omega | exact hk.elim | (dsimp only at hk ⊢; omega))))⟩
  have mM2 : Same (fun k => False) M M2 := ((mM1).trans (hm.mono (fun k hk => by first | omega | exact hk.elim | (dsimp only at hk ⊢; omega))))
  refine wp_x (T_KW_needFree x1 M2) (fun E M3 hA hm => ?_) (fun u3 M3 hm => ?_)
  · exact ⟨fun E2 he => by cases he; exact (show ∀ E ∈ (["java/lang/IllegalStateException"] : List String), E ∈ (["java/lang/IndexOutOfBoundsException", "java/lang/IllegalStateException"] : List String) by decide) E hA, ((mM2).trans (hm.mono (fun k hk => by first | omega | exact hk.elim | (dsimp only at hk ⊢; omega))))⟩
  have mM3 : Same (fun k => False) M M3 := ((mM2).trans (hm.mono (fun k hk => by first | omega | exact hk.elim | (dsimp only at hk ⊢; omega))))
  refine wp_x (T_KW_needFree x2 M3) (fun E M4 hA hm => ?_) (fun u4 M4 hm => ?_)
  · exact ⟨fun E2 he => by cases he; exact (show ∀ E ∈ (["java/lang/IllegalStateException"] : List String), E ∈ (["java/lang/IndexOutOfBoundsException", "java/lang/IllegalStateException"] : List String) by decide) E hA, ((mM3).trans (hm.mono (fun k hk => by first | omega | exact hk.elim | (dsimp only at hk ⊢; omega))))⟩
  have mM4 : Same (fun k => False) M M4 := ((mM3).trans (hm.mono (fun k hk => by first | omega | exact hk.elim | (dsimp only at hk ⊢; omega))))
  exact wp_some ⟨(fun E he => nomatch he), mM4⟩
theorem T_KW_hold (x1 : Int32) (x2 : Int32) (M : Mem) : wpO (F_KW_hold x1 x2 M) (fun r => (∀ E, r.1 = .inl E → E ∈ (["java/lang/IndexOutOfBoundsException", "java/lang/IllegalStateException"] : List String)) ∧ Same (fun k => (34 ≤ k ∧ k ≤ 47)) M r.2) := by
  unfold F_KW_hold
  refine wp_x (T_KW_needPair x1 x2 M) (fun E M1 hA hm => ?_) (fun u1 M1 hm => ?_)
  · exact ⟨fun E2 he => by cases he; exact (show ∀ E ∈ (["java/lang/IndexOutOfBoundsException", "java/lang/IllegalStateException"] : List String), E ∈ (["java/lang/IndexOutOfBoundsException", "java/lang/IllegalStateException"] : List String) by decide) E hA, (hm.mono (fun k hk => by first | omega | exact hk.elim | (dsimp only at hk ⊢; omega)))⟩
  have mM1 : Same (fun k => (34 ≤ k ∧ k ≤ 47)) M M1 := (hm.mono (fun k hk => by first | omega | exact hk.elim | (dsimp only at hk ⊢; omega)))
  refine wp_bind (T_Pair_look x1 x2 ((M1.1 1 1).toInt64) ((M1.1 1 2).toInt64) M1) (fun r2 hr2 => ?_)
  have mr2 : Same (fun k => (34 ≤ k ∧ k ≤ 47)) M r2 := (mM1).trans (hr2.mono (fun k hk => by first | omega | exact hk.elim | (dsimp only at hk ⊢; omega)))
  refine wp_bind (T_Pair_firstGain r2) (fun r3 hr3 => ?_)
  refine wp_if (fun c2 => ?_) (fun c2 => ?_)
  · exact wp_some ⟨(fun E he => nomatch he), mr2⟩
  · exact wp_some ⟨(fun E he => nomatch he), mr2⟩
theorem T_KW_first (x1 : Int32) (x2 : Int32) (M : Mem) : wpO (F_KW_first x1 x2 M) (fun r => (∀ E, r.1 = .inl E → E ∈ (["java/lang/IndexOutOfBoundsException", "java/lang/IllegalStateException"] : List String)) ∧ Same (fun k => (34 ≤ k ∧ k ≤ 47)) M r.2) := by
  unfold F_KW_first
  refine wp_x (T_KW_needPair x1 x2 M) (fun E M1 hA hm => ?_) (fun u1 M1 hm => ?_)
  · exact ⟨fun E2 he => by cases he; exact (show ∀ E ∈ (["java/lang/IndexOutOfBoundsException", "java/lang/IllegalStateException"] : List String), E ∈ (["java/lang/IndexOutOfBoundsException", "java/lang/IllegalStateException"] : List String) by decide) E hA, (hm.mono (fun k hk => by first | omega | exact hk.elim | (dsimp only at hk ⊢; omega)))⟩
  have mM1 : Same (fun k => (34 ≤ k ∧ k ≤ 47)) M M1 := (hm.mono (fun k hk => by first | omega | exact hk.elim | (dsimp only at hk ⊢; omega)))
  refine wp_bind (T_Pair_look x1 x2 ((M1.1 1 1).toInt64) ((M1.1 1 2).toInt64) M1) (fun r2 hr2 => ?_)
  have mr2 : Same (fun k => (34 ≤ k ∧ k ≤ 47)) M r2 := (mM1).trans (hr2.mono (fun k hk => by first | omega | exact hk.elim | (dsimp only at hk ⊢; omega)))
  refine wp_bind (T_Pair_firstGain r2) (fun r3 hr3 => ?_)
  exact wp_some ⟨(fun E he => nomatch he), mr2⟩
theorem T_KW_edge (x1 : Int32) (x2 : Int32) (x3 : Int32) (M : Mem) : wpO (F_KW_edge x1 x2 x3 M) (fun r => (∀ E, r.1 = .inl E → E ∈ (["java/lang/IndexOutOfBoundsException", "java/lang/IllegalArgumentException", "java/lang/IllegalStateException"] : List String)) ∧ Same (fun k => (34 ≤ k ∧ k ≤ 47)) M r.2) := by
  unfold F_KW_edge
  refine wp_x (T_KW_needWay x1 M) (fun E M1 hA hm => ⟨fun E2 he => by cases he; exact (show ∀ E ∈ (["java/lang/IndexOutOfBoundsException"] : List String), E ∈ (["java/lang/IndexOutOfBoundsException", "java/lang/IllegalArgumentException", "java/lang/IllegalStateException"] : List String) by decide) E hA, hm.mono (fun k hk => hk.elim)⟩) (fun _ M1 hm1 => ?_)
  refine wp_x (T_KW_needWay x2 M1) (fun E M2 hA hm => ⟨fun E2 he => by cases he; exact (show ∀ E ∈ (["java/lang/IndexOutOfBoundsException"] : List String), E ∈ (["java/lang/IndexOutOfBoundsException", "java/lang/IllegalArgumentException", "java/lang/IllegalStateException"] : List String) by decide) E hA, (hm1.trans hm).mono (fun k hk => hk.elim)⟩) (fun _ M2 hm2 => ?_)
  by_cases hr : 2 ≤ x3 ∧ x3 ≤ 12
  · rw [S_num_ok hr, xb_inr]
    refine wp_x (T_KW_needFree x1 M2) (fun E M3 hA hm => ⟨fun E2 he => by cases he; exact (show ∀ E ∈ (["java/lang/IllegalStateException"] : List String), E ∈ (["java/lang/IndexOutOfBoundsException", "java/lang/IllegalArgumentException", "java/lang/IllegalStateException"] : List String) by decide) E hA, (hm1.trans (hm2.trans hm)).mono (fun k hk => hk.elim)⟩) (fun _ M3 hm3 => ?_)
    refine wp_x (T_KW_needFree x2 M3) (fun E M4 hA hm => ⟨fun E2 he => by cases he; exact (show ∀ E ∈ (["java/lang/IllegalStateException"] : List String), E ∈ (["java/lang/IndexOutOfBoundsException", "java/lang/IllegalArgumentException", "java/lang/IllegalStateException"] : List String) by decide) E hA, (hm1.trans (hm2.trans (hm3.trans hm))).mono (fun k hk => hk.elim)⟩) (fun _ M4 hm4 => ?_)
    refine wp_bind (T_Pair_leastToHold x1 x2 x3 M4 hr.2) (fun r6 h6 => wp_some ⟨(fun E he => nomatch he), ?_⟩)
    exact ((hm1.trans (hm2.trans (hm3.trans hm4))).mono (fun k hk => hk.elim)).trans (h6.mono (fun k hk => by first | omega | exact hk.elim | (dsimp only at hk ⊢; omega)))
  · rw [S_num_no hr, xb_inl]
    exact wp_some ⟨fun E he => by cases he; decide, (hm1.trans hm2).mono (fun k hk => hk.elim)⟩

theorem T_KW_together (M : Mem) : wpO (F_KW_together M) (fun r => Same (fun k => (34 ≤ k ∧ k ≤ 47)) M r.2) := by
  unfold F_KW_together
  refine wp_bind (T_Pair_bestTogether M) (fun r1 hr1 => ?_)
  have mr1 : Same (fun k => (34 ≤ k ∧ k ≤ 47)) M r1.2 := hr1.mono (fun k hk => by first | omega | exact hk.elim | (dsimp only at hk ⊢; omega))
  exact wp_some mr1
theorem T_KW_begin (x1 : Int32) (x2 : Int32) (M : Mem) : wpO (F_KW_begin x1 x2 M) (fun r => (∀ E, r.1 = .inl E → E ∈ (["java/lang/IndexOutOfBoundsException", "java/lang/IllegalStateException"] : List String)) ∧ Same (fun k => (34 ≤ k ∧ k ≤ 47)) M r.2) := by
  unfold F_KW_begin
  refine wp_x (T_KW_needPair x1 x2 M) (fun E M1 hA hm => ?_) (fun u1 M1 hm => ?_)
  · exact ⟨fun E2 he => by cases he; exact (show ∀ E ∈ (["java/lang/IndexOutOfBoundsException", "java/lang/IllegalStateException"] : List String), E ∈ (["java/lang/IndexOutOfBoundsException", "java/lang/IllegalStateException"] : List String) by decide) E hA, (hm.mono (fun k hk => by first | omega | exact hk.elim | (dsimp only at hk ⊢; omega)))⟩
  have mM1 : Same (fun k => (34 ≤ k ∧ k ≤ 47)) M M1 := (hm.mono (fun k hk => by first | omega | exact hk.elim | (dsimp only at hk ⊢; omega)))
  refine wp_bind (T_Pair_look x1 x2 ((M1.1 1 1).toInt64) ((M1.1 1 2).toInt64) M1) (fun r2 hr2 => ?_)
  have mr2 : Same (fun k => (34 ≤ k ∧ k ≤ 47)) M r2 := (mM1).trans (hr2.mono (fun k hk => by first | omega | exact hk.elim | (dsimp only at hk ⊢; omega)))
  refine wp_bind (T_Pair_costToLeave r2) (fun r3 hr3 => ?_)
  exact wp_some ⟨(fun E he => nomatch he), mr2⟩
theorem T_KW_needAnswer (x1 : Int32) (x2 : Int32) (x3 : Int32) (M : Mem) : wpO (F_KW_needAnswer x1 x2 x3 M) (fun r => (∀ E, r.1 = .inl E → E ∈ (["java/lang/IndexOutOfBoundsException", "java/lang/IllegalStateException"] : List String)) ∧ Same (fun k => False) M r.2) := by
  unfold F_KW_needAnswer
  refine wp_x (T_KW_needPerson x1 M) (fun E M1 hA hm => ?_) (fun u1 M1 hm => ?_)
  · exact ⟨fun E2 he => by cases he; exact (show ∀ E ∈ (["java/lang/IndexOutOfBoundsException"] : List String), E ∈ (["java/lang/IndexOutOfBoundsException", "java/lang/IllegalStateException"] : List String) by decide) E hA, (hm.mono (fun k hk => by first | omega | exact hk.elim | (dsimp only at hk ⊢; omega)))⟩
  have mM1 : Same (fun k => False) M M1 := (hm.mono (fun k hk => by first | omega | exact hk.elim | (dsimp only at hk ⊢; omega)))
  refine wp_x (T_KW_needWay x2 M1) (fun E M2 hA hm => ?_) (fun u2 M2 hm => ?_)
  · exact ⟨fun E2 he => by cases he; exact (show ∀ E ∈ (["java/lang/IndexOutOfBoundsException"] : List String), E ∈ (["java/lang/IndexOutOfBoundsException", "java/lang/IllegalStateException"] : List String) by decide) E hA, ((mM1).trans (hm.mono (fun k hk => by first | omega | exact hk.elim | (dsimp only at hk ⊢; omega))))⟩
  have mM2 : Same (fun k => False) M M2 := ((mM1).trans (hm.mono (fun k hk => by first | omega | exact hk.elim | (dsimp only at hk ⊢; omega))))
  refine wp_x (T_KW_needMood x2 x3 M2) (fun E M3 hA hm => ?_) (fun u3 M3 hm => ?_)
  · exact ⟨fun E2 he => by cases he; exact (show ∀ E ∈ (["java/lang/IndexOutOfBoundsException"] : List String), E ∈ (["java/lang/IndexOutOfBoundsException", "java/lang/IllegalStateException"] : List String) by decide) E hA, ((mM2).trans (hm.mono (fun k hk => by first | omega | exact hk.elim | (dsimp only at hk ⊢; omega))))⟩
  have mM3 : Same (fun k => False) M M3 := ((mM2).trans (hm.mono (fun k hk => by first | omega | exact hk.elim | (dsimp only at hk ⊢; omega))))
  refine wp_x (T_KW_needFree x2 M3) (fun E M4 hA hm => ?_) (fun u4 M4 hm => ?_)
  · exact ⟨fun E2 he => by cases he; exact (show ∀ E ∈ (["java/lang/IllegalStateException"] : List String), E ∈ (["java/lang/IndexOutOfBoundsException", "java/lang/IllegalStateException"] : List String) by decide) E hA, ((mM3).trans (hm.mono (fun k hk => by first | omega | exact hk.elim | (dsimp only at hk ⊢; omega))))⟩
  have mM4 : Same (fun k => False) M M4 := ((mM3).trans (hm.mono (fun k hk => by first | omega | exact hk.elim | (dsimp only at hk ⊢; omega))))
  exact wp_some ⟨(fun E he => nomatch he), mM4⟩
theorem T_KW_best (x1 : Int32) (x2 : Int32) (x3 : Int32) (M : Mem) : wpO (F_KW_best x1 x2 x3 M) (fun r => (∀ E, r.1 = .inl E → E ∈ (["java/lang/IndexOutOfBoundsException", "java/lang/IllegalStateException"] : List String)) ∧ Same (fun k => (52 ≤ k ∧ k ≤ 67)) M r.2) := by
  unfold F_KW_best
  refine wp_x (T_KW_needAnswer x1 x2 x3 M) (fun E M1 hA hm => ?_) (fun u1 M1 hm => ?_)
  · exact ⟨fun E2 he => by cases he; exact (show ∀ E ∈ (["java/lang/IndexOutOfBoundsException", "java/lang/IllegalStateException"] : List String), E ∈ (["java/lang/IndexOutOfBoundsException", "java/lang/IllegalStateException"] : List String) by decide) E hA, (hm.mono (fun k hk => by first | omega | exact hk.elim | (dsimp only at hk ⊢; omega)))⟩
  have mM1 : Same (fun k => (52 ≤ k ∧ k ≤ 67)) M M1 := (hm.mono (fun k hk => by first | omega | exact hk.elim | (dsimp only at hk ⊢; omega)))
  refine wp_bind (T_Answer_look x1 x2 M1) (fun r2 hr2 => ?_)
  have mr2 : Same (fun k => (52 ≤ k ∧ k ≤ 67)) M r2 := (mM1).trans (hr2.mono (fun k hk => by first | omega | exact hk.elim | (dsimp only at hk ⊢; omega)))
  refine wp_bind (T_Answer_actIn x3 r2) (fun r3 hr3 => ?_)
  exact wp_some ⟨(fun E he => nomatch he), mr2⟩
theorem T_KW_answer (x1 : Int32) (x2 : Int32) (x3 : Int32) (x4 : Int32) (M : Mem) : wpO (F_KW_answer x1 x2 x3 x4 M) (fun r => (∀ E, r.1 = .inl E → E ∈ (["java/lang/IndexOutOfBoundsException", "java/lang/IllegalStateException"] : List String)) ∧ Same (fun k => (52 ≤ k ∧ k ≤ 67) ∨ k = 93) M r.2) := by
  unfold F_KW_answer
  refine wp_x (T_KW_needAnswer x1 x2 x3 M) (fun E M1 hA hm => ?_) (fun u1 M1 hm => ?_)
  · exact ⟨fun E2 he => by cases he; exact (show ∀ E ∈ (["java/lang/IndexOutOfBoundsException", "java/lang/IllegalStateException"] : List String), E ∈ (["java/lang/IndexOutOfBoundsException", "java/lang/IllegalStateException"] : List String) by decide) E hA, (hm.mono (fun k hk => by first | omega | exact hk.elim | (dsimp only at hk ⊢; omega)))⟩
  have mM1 : Same (fun k => (52 ≤ k ∧ k ≤ 67) ∨ k = 93) M M1 := (hm.mono (fun k hk => by first | omega | exact hk.elim | (dsimp only at hk ⊢; omega)))
  refine wp_bind (T_Answer_look x1 x2 M1) (fun r2 hr2 => ?_)
  have mr2 : Same (fun k => (52 ≤ k ∧ k ≤ 67) ∨ k = 93) M r2 := (mM1).trans (hr2.mono (fun k hk => by first | omega | exact hk.elim | (dsimp only at hk ⊢; omega)))
  refine wp_bind (T_Answer_tellWorth 93 x3 r2) (fun r3 hr3 => ?_)
  have mr3 : Same (fun k => (52 ≤ k ∧ k ≤ 67) ∨ k = 93) M r3 := (mr2).trans (hr3.mono (fun k hk => by first | omega | exact hk.elim | (dsimp only at hk ⊢; omega)))
  refine wp_bind (T_Fraction_part 93 x4 r3) (fun r4 hr4 => ?_)
  exact wp_some ⟨(fun E he => nomatch he), mr3⟩
theorem T_KW_needTwoActs (M : Mem) : wpO (F_KW_needTwoActs M) (fun r => (∀ E, r.1 = .inl E → E ∈ (["java/lang/IllegalStateException"] : List String)) ∧ Same (fun k => False) M r.2) := by
  unfold F_KW_needTwoActs
  refine wp_if (fun c1 => ?_) (fun c1 => ?_)
  · exact wp_some ⟨(fun E he => nomatch he), Same.rfl'⟩
  · exact wp_some ⟨(fun E he => by cases he; decide), Same.rfl'⟩
theorem T_KW_isBestAnswer (M : Mem) : wpO (F_KW_isBestAnswer M) (fun r => Same (fun k => k = 93) M r.2) := by
  unfold F_KW_isBestAnswer
  refine wp_bind (T_Pair_tellWorth 93 0 0 1 M) (fun r1 hr1 => ?_)
  have mr1 : Same (fun k => k = 93) M r1 := hr1.mono (fun k hk => by first | omega | exact hk.elim | (dsimp only at hk ⊢; omega))
  refine wp_bind (T_Answer_tellWorth 93 0 r1) (fun r2 hr2 => ?_)
  have mr2 : Same (fun k => k = 93) M r2 := (mr1).trans (hr2.mono (fun k hk => by first | omega | exact hk.elim | (dsimp only at hk ⊢; omega)))
  refine wp_if (fun c1 => ?_) (fun c1 => ?_)
  · refine wp_if (fun c2 => ?_) (fun c2 => ?_)
    · exact wp_some mr2
    · exact wp_some mr2
  · exact wp_some mr2
theorem T_KW_all_b53 (x1 : Int32) (x2 : Int32) (x3 : Bool) (z : Int32 × Int32 × Int32 × Mem) : wpO (F_KW_all_b53 x1 x2 x3 z) (fun r => (match r with | .inl s => Same (fun k => k = 5 ∨ (34 ≤ k ∧ k ≤ 47) ∨ k = 93) z.2.2.2 s.2.2.2 ∧ muU s.2.2.1 < muU z.2.2.1 | .inr r => Same (fun k => k = 5 ∨ (34 ≤ k ∧ k ≤ 47) ∨ k = 93) z.2.2.2 r.2.2)) := by
  unfold F_KW_all_b53
  refine wp_if (fun c1 => ?_) (fun c1 => ?_)
  · exact wp_some Same.rfl'
  · refine wp_bind (T_Well_putSpareWay z.2.2.1 z.2.2.2) (fun r6 hr6 => ?_)
    have mr6 : Same (fun k => k = 5 ∨ (34 ≤ k ∧ k ≤ 47) ∨ k = 93) z.2.2.2 r6 := hr6.mono (fun k hk => by first | omega | exact hk.elim | (dsimp only at hk ⊢; omega))
    refine wp_bind (T_Pair_look x1 8 ((r6.1 1 1).toInt64) ((r6.1 1 2).toInt64) r6) (fun r7 hr7 => ?_)
    have mr7 : Same (fun k => k = 5 ∨ (34 ≤ k ∧ k ≤ 47) ∨ k = 93) z.2.2.2 r7 := (mr6).trans (hr7.mono (fun k hk => by first | omega | exact hk.elim | (dsimp only at hk ⊢; omega)))
    refine wp_if (fun c2 => ?_) (fun c2 => ?_)
    · refine wp_bind (T_Pair_firstGain r7) (fun r9 hr9 => ?_)
      refine wp_if (fun c3 => ?_) (fun c3 => ?_)
      · unfold F_KW_all_j120
        refine wp_if (fun c4 => ?_) (fun c4 => ?_)
        · exact wp_some ⟨mr7, (muU_le c1)⟩
        · exact wp_some ⟨mr7, (muU_le c1)⟩
      · exact wp_some ⟨mr7, (muU_le c1)⟩
    · refine wp_bind (T_KW_isBestAnswer r7) (fun r8 hr8 => ?_)
      have mr8 : Same (fun k => k = 5 ∨ (34 ≤ k ∧ k ≤ 47) ∨ k = 93) z.2.2.2 r8.2 := (mr7).trans (hr8.mono (fun k hk => by first | omega | exact hk.elim | (dsimp only at hk ⊢; omega)))
      refine wp_if (fun c5 => ?_) (fun c5 => ?_)
      · unfold F_KW_all_j120
        refine wp_if (fun c6 => ?_) (fun c6 => ?_)
        · exact wp_some ⟨mr8, (muU_le c1)⟩
        · exact wp_some ⟨mr8, (muU_le c1)⟩
      · exact wp_some ⟨mr8, (muU_le c1)⟩
theorem T_KW_all (x1 : Int32) (x2 : Int32) (M : Mem) : wpO (F_KW_all x1 x2 M) (fun r => (∀ E, r.1 = .inl E → E ∈ (["java/lang/IndexOutOfBoundsException", "java/lang/IllegalStateException", "java/util/NoSuchElementException"] : List String)) ∧ Same (fun k => k = 5 ∨ (34 ≤ k ∧ k ≤ 47) ∨ (52 ≤ k ∧ k ≤ 67) ∨ k = 93) M r.2) := by
  unfold F_KW_all
  refine wp_x (T_KW_needWay x1 M) (fun E M1 hA hm => ?_) (fun u1 M1 hm => ?_)
  · exact ⟨fun E2 he => by cases he; exact (show ∀ E ∈ (["java/lang/IndexOutOfBoundsException"] : List String), E ∈ (["java/lang/IndexOutOfBoundsException", "java/lang/IllegalStateException", "java/util/NoSuchElementException"] : List String) by decide) E hA, (hm.mono (fun k hk => by first | omega | exact hk.elim | (dsimp only at hk ⊢; omega)))⟩
  have mM1 : Same (fun k => k = 5 ∨ (34 ≤ k ∧ k ≤ 47) ∨ (52 ≤ k ∧ k ≤ 67) ∨ k = 93) M M1 := (hm.mono (fun k hk => by first | omega | exact hk.elim | (dsimp only at hk ⊢; omega)))
  refine wp_x (T_KW_needTwoActs M1) (fun E M2 hA hm => ?_) (fun u2 M2 hm => ?_)
  · exact ⟨fun E2 he => by cases he; exact (show ∀ E ∈ (["java/lang/IllegalStateException"] : List String), E ∈ (["java/lang/IndexOutOfBoundsException", "java/lang/IllegalStateException", "java/util/NoSuchElementException"] : List String) by decide) E hA, ((mM1).trans (hm.mono (fun k hk => by first | omega | exact hk.elim | (dsimp only at hk ⊢; omega))))⟩
  have mM2 : Same (fun k => k = 5 ∨ (34 ≤ k ∧ k ≤ 47) ∨ (52 ≤ k ∧ k ≤ 67) ∨ k = 93) M M2 := ((mM1).trans (hm.mono (fun k hk => by first | omega | exact hk.elim | (dsimp only at hk ⊢; omega))))
  refine wp_x (T_KW_needFree x1 M2) (fun E M3 hA hm => ?_) (fun u3 M3 hm => ?_)
  · exact ⟨fun E2 he => by cases he; exact (show ∀ E ∈ (["java/lang/IllegalStateException"] : List String), E ∈ (["java/lang/IndexOutOfBoundsException", "java/lang/IllegalStateException", "java/util/NoSuchElementException"] : List String) by decide) E hA, ((mM2).trans (hm.mono (fun k hk => by first | omega | exact hk.elim | (dsimp only at hk ⊢; omega))))⟩
  have mM3 : Same (fun k => k = 5 ∨ (34 ≤ k ∧ k ≤ 47) ∨ (52 ≤ k ∧ k ≤ 67) ∨ k = 93) M M3 := ((mM2).trans (hm.mono (fun k hk => by first | omega | exact hk.elim | (dsimp only at hk ⊢; omega))))
  refine wp_x (T_KW_needWhat x2 3 M3) (fun E M4 hA hm => ?_) (fun u4 M4 hm => ?_)
  · exact ⟨fun E2 he => by cases he; exact (show ∀ E ∈ (["java/util/NoSuchElementException"] : List String), E ∈ (["java/lang/IndexOutOfBoundsException", "java/lang/IllegalStateException", "java/util/NoSuchElementException"] : List String) by decide) E hA, ((mM3).trans (hm.mono (fun k hk => by first | omega | exact hk.elim | (dsimp only at hk ⊢; omega))))⟩
  have mM4 : Same (fun k => k = 5 ∨ (34 ≤ k ∧ k ≤ 47) ∨ (52 ≤ k ∧ k ≤ 67) ∨ k = 93) M M4 := ((mM3).trans (hm.mono (fun k hk => by first | omega | exact hk.elim | (dsimp only at hk ⊢; omega))))
  refine wp_if (fun c5 => ?_) (fun c5 => ?_)
  · unfold F_KW_all_j34
    refine wp_bind (T_Answer_look 1 x1 M4) (fun r5_498 hr5_498 => ?_)
    have mr5_498 : Same (fun k => k = 5 ∨ (34 ≤ k ∧ k ≤ 47) ∨ (52 ≤ k ∧ k ≤ 67) ∨ k = 93) M r5_498 := (mM4).trans (hr5_498.mono (fun k hk => by first | omega | exact hk.elim | (dsimp only at hk ⊢; omega)))
    unfold F_KW_all_l53
    refine wp_bind (Ψ := fun r_499 => Same (fun k => k = 5 ∨ (34 ≤ k ∧ k ≤ 47) ∨ (52 ≤ k ∧ k ≤ 67) ∨ k = 93) M r_499.2.2) (wp_while (P := fun w9 => Same (fun k => k = 5 ∨ (34 ≤ k ∧ k ≤ 47) ∨ (52 ≤ k ∧ k ≤ 67) ∨ k = 93) M w9.2.2.2) (μ := fun w9 => muU w9.2.2.1) (fun w9 hz => wp_mono (T_KW_all_b53 x1 x2 true w9) (fun x hx => ?_)) FUEL ((0 : Int32), (-1 : Int32), (0 : Int32), r5_498) mr5_498 (mu_fuel _)) ?_
    · rcases x with x | x
      · exact ⟨hz.trans (hx.1.mono (fun k hk => by first | omega | exact hk.elim | (dsimp only at hk ⊢; omega))), hx.2⟩
      · exact hz.trans (hx.mono (fun k hk => by first | omega | exact hk.elim | (dsimp only at hk ⊢; omega)))
    intro r_499 hr_499
    unfold F_KW_all_j144
    refine wp_if (fun c6 => ?_) (fun c6 => ?_)
    · exact wp_some ⟨(fun E he => nomatch he), hr_499⟩
    · exact wp_some ⟨(fun E he => nomatch he), hr_499⟩
  · refine wp_if (fun c7 => ?_) (fun c7 => ?_)
    · unfold F_KW_all_j34
      refine wp_bind (T_Answer_look 1 x1 M4) (fun r5_500 hr5_500 => ?_)
      have mr5_500 : Same (fun k => k = 5 ∨ (34 ≤ k ∧ k ≤ 47) ∨ (52 ≤ k ∧ k ≤ 67) ∨ k = 93) M r5_500 := (mM4).trans (hr5_500.mono (fun k hk => by first | omega | exact hk.elim | (dsimp only at hk ⊢; omega)))
      unfold F_KW_all_l53
      refine wp_bind (Ψ := fun r_501 => Same (fun k => k = 5 ∨ (34 ≤ k ∧ k ≤ 47) ∨ (52 ≤ k ∧ k ≤ 67) ∨ k = 93) M r_501.2.2) (wp_while (P := fun w9 => Same (fun k => k = 5 ∨ (34 ≤ k ∧ k ≤ 47) ∨ (52 ≤ k ∧ k ≤ 67) ∨ k = 93) M w9.2.2.2) (μ := fun w9 => muU w9.2.2.1) (fun w9 hz => wp_mono (T_KW_all_b53 x1 x2 true w9) (fun x hx => ?_)) FUEL ((0 : Int32), (-1 : Int32), (0 : Int32), r5_500) mr5_500 (mu_fuel _)) ?_
      · rcases x with x | x
        · exact ⟨hz.trans (hx.1.mono (fun k hk => by first | omega | exact hk.elim | (dsimp only at hk ⊢; omega))), hx.2⟩
        · exact hz.trans (hx.mono (fun k hk => by first | omega | exact hk.elim | (dsimp only at hk ⊢; omega)))
      intro r_501 hr_501
      unfold F_KW_all_j144
      refine wp_if (fun c8 => ?_) (fun c8 => ?_)
      · exact wp_some ⟨(fun E he => nomatch he), hr_501⟩
      · exact wp_some ⟨(fun E he => nomatch he), hr_501⟩
    · unfold F_KW_all_j34
      refine wp_bind (T_Answer_look 1 x1 M4) (fun r5_502 hr5_502 => ?_)
      have mr5_502 : Same (fun k => k = 5 ∨ (34 ≤ k ∧ k ≤ 47) ∨ (52 ≤ k ∧ k ≤ 67) ∨ k = 93) M r5_502 := (mM4).trans (hr5_502.mono (fun k hk => by first | omega | exact hk.elim | (dsimp only at hk ⊢; omega)))
      unfold F_KW_all_l53
      refine wp_bind (Ψ := fun r_503 => Same (fun k => k = 5 ∨ (34 ≤ k ∧ k ≤ 47) ∨ (52 ≤ k ∧ k ≤ 67) ∨ k = 93) M r_503.2.2) (wp_while (P := fun w9 => Same (fun k => k = 5 ∨ (34 ≤ k ∧ k ≤ 47) ∨ (52 ≤ k ∧ k ≤ 67) ∨ k = 93) M w9.2.2.2) (μ := fun w9 => muU w9.2.2.1) (fun w9 hz => wp_mono (T_KW_all_b53 x1 x2 false w9) (fun x hx => ?_)) FUEL ((0 : Int32), (-1 : Int32), (0 : Int32), r5_502) mr5_502 (mu_fuel _)) ?_
      · rcases x with x | x
        · exact ⟨hz.trans (hx.1.mono (fun k hk => by first | omega | exact hk.elim | (dsimp only at hk ⊢; omega))), hx.2⟩
        · exact hz.trans (hx.mono (fun k hk => by first | omega | exact hk.elim | (dsimp only at hk ⊢; omega)))
      intro r_503 hr_503
      unfold F_KW_all_j144
      refine wp_if (fun c9 => ?_) (fun c9 => ?_)
      · exact wp_some ⟨(fun E he => nomatch he), hr_503⟩
      · exact wp_some ⟨(fun E he => nomatch he), hr_503⟩
theorem T_KW_least (x1 : Int32) (x2 : Int32) (M : Mem) : wpO (F_KW_least x1 x2 M) (fun r => (∀ E, r.1 = .inl E → E ∈ (["java/lang/IndexOutOfBoundsException"] : List String)) ∧ Same (fun k => False) M r.2) := by
  unfold F_KW_least
  refine wp_x (T_KW_needPerson x1 M) (fun E M1 hA hm => ?_) (fun u1 M1 hm => ?_)
  · exact ⟨fun E2 he => by cases he; exact (show ∀ E ∈ (["java/lang/IndexOutOfBoundsException"] : List String), E ∈ (["java/lang/IndexOutOfBoundsException"] : List String) by decide) E hA, (hm.mono (fun k hk => by first | omega | exact hk.elim | (dsimp only at hk ⊢; omega)))⟩
  have mM1 : Same (fun k => False) M M1 := (hm.mono (fun k hk => by first | omega | exact hk.elim | (dsimp only at hk ⊢; omega)))
  refine wp_if (fun c2 => ?_) (fun c2 => ?_)
  · refine wp_bind (T_Day_leastOf x1 M1) (fun r2 hr2 => ?_)
    exact wp_some ⟨(fun E he => nomatch he), mM1⟩
  · refine wp_bind (T_Day_threatTo x1 M1) (fun r3 hr3 => ?_)
    exact wp_some ⟨(fun E he => nomatch he), mM1⟩
theorem T_KW_lots (x1 : Int32) (x2 : Int32) (M : Mem) : wpO (F_KW_lots x1 x2 M) (fun r => (∀ E, r.1 = .inl E → E ∈ (["java/lang/IndexOutOfBoundsException"] : List String)) ∧ Same (fun k => (68 ≤ k ∧ k ≤ 72) ∨ k = 93) M r.2) := by
  unfold F_KW_lots
  refine wp_x (T_KW_needPerson x1 M) (fun E M1 hA hm => ?_) (fun u1 M1 hm => ?_)
  · exact ⟨fun E2 he => by cases he; exact (show ∀ E ∈ (["java/lang/IndexOutOfBoundsException"] : List String), E ∈ (["java/lang/IndexOutOfBoundsException"] : List String) by decide) E hA, (hm.mono (fun k hk => by first | omega | exact hk.elim | (dsimp only at hk ⊢; omega)))⟩
  have mM1 : Same (fun k => (68 ≤ k ∧ k ≤ 72) ∨ k = 93) M M1 := (hm.mono (fun k hk => by first | omega | exact hk.elim | (dsimp only at hk ⊢; omega)))
  refine wp_bind (T_Day_tellLots 93 x1 M1) (fun r2 hr2 => ?_)
  have mr2 : Same (fun k => (68 ≤ k ∧ k ≤ 72) ∨ k = 93) M r2 := (mM1).trans (hr2.mono (fun k hk => by first | omega | exact hk.elim | (dsimp only at hk ⊢; omega)))
  refine wp_bind (T_Fraction_part 93 x2 r2) (fun r3 hr3 => ?_)
  exact wp_some ⟨(fun E he => nomatch he), mr2⟩
theorem T_KW_once (M : Mem) : wpO (F_KW_once M) (fun r => True) := by
  unfold F_KW_once
  refine wp_bind (T_Day_steadyPairs M) (fun r1 hr1 => ?_)
  exact wp_some trivial
theorem T_KW_corner (x1 : Int32) (x2 : Int32) (M : Mem) : wpO (F_KW_corner x1 x2 M) (fun r => Same (fun k => (68 ≤ k ∧ k ≤ 76)) M r.2) := by
  unfold F_KW_corner
  refine wp_bind (T_Day_findCorners M) (fun r1 hr1 => ?_)
  have mr1 : Same (fun k => (68 ≤ k ∧ k ≤ 76)) M r1 := hr1.mono (fun k hk => by first | omega | exact hk.elim | (dsimp only at hk ⊢; omega))
  refine wp_if (fun c1 => ?_) (fun c1 => ?_)
  · exact wp_some mr1
  · refine wp_if (fun c2 => ?_) (fun c2 => ?_)
    · refine wp_if (fun c3 => ?_) (fun c3 => ?_)
      · refine wp_bind (T_Row_small 74 9 x1 r1) (fun r2 hr2 => ?_)
        exact wp_some mr1
      · refine wp_bind (T_Row_small 76 9 x1 r1) (fun r3 hr3 => ?_)
        exact wp_some mr1
    · exact wp_some mr1
theorem T_KW_in (x1 : Int32) (x2 : Int32) (x3 : Int32) (x4 : Int32) (M : Mem) : wpO (F_KW_in x1 x2 x3 x4 M) (fun r => (∀ E, r.1 = .inl E → E ∈ (["java/lang/IllegalArgumentException"] : List String)) ∧ Same (fun k => (68 ≤ k ∧ k ≤ 76)) M r.2) := by
  unfold F_KW_in
  refine wp_x (T_KW_needNumber x3 1 1000 M) (fun E M1 hA hm => ?_) (fun u1 M1 hm => ?_)
  · exact ⟨fun E2 he => by cases he; exact (show ∀ E ∈ (["java/lang/IllegalArgumentException"] : List String), E ∈ (["java/lang/IllegalArgumentException"] : List String) by decide) E hA, (hm.mono (fun k hk => by first | omega | exact hk.elim | (dsimp only at hk ⊢; omega)))⟩
  have mM1 : Same (fun k => (68 ≤ k ∧ k ≤ 76)) M M1 := (hm.mono (fun k hk => by first | omega | exact hk.elim | (dsimp only at hk ⊢; omega)))
  refine wp_x (T_KW_needNumber x1 ((-100000)) 100000 M1) (fun E M2 hA hm => ?_) (fun u2 M2 hm => ?_)
  · exact ⟨fun E2 he => by cases he; exact (show ∀ E ∈ (["java/lang/IllegalArgumentException"] : List String), E ∈ (["java/lang/IllegalArgumentException"] : List String) by decide) E hA, ((mM1).trans (hm.mono (fun k hk => by first | omega | exact hk.elim | (dsimp only at hk ⊢; omega))))⟩
  have mM2 : Same (fun k => (68 ≤ k ∧ k ≤ 76)) M M2 := ((mM1).trans (hm.mono (fun k hk => by first | omega | exact hk.elim | (dsimp only at hk ⊢; omega))))
  refine wp_x (T_KW_needNumber x2 ((-100000)) 100000 M2) (fun E M3 hA hm => ?_) (fun u3 M3 hm => ?_)
  · exact ⟨fun E2 he => by cases he; exact (show ∀ E ∈ (["java/lang/IllegalArgumentException"] : List String), E ∈ (["java/lang/IllegalArgumentException"] : List String) by decide) E hA, ((mM2).trans (hm.mono (fun k hk => by first | omega | exact hk.elim | (dsimp only at hk ⊢; omega))))⟩
  have mM3 : Same (fun k => (68 ≤ k ∧ k ≤ 76)) M M3 := ((mM2).trans (hm.mono (fun k hk => by first | omega | exact hk.elim | (dsimp only at hk ⊢; omega))))
  refine wp_bind (T_Day_findCorners M3) (fun r4 hr4 => ?_)
  have mr4 : Same (fun k => (68 ≤ k ∧ k ≤ 76)) M r4 := (mM3).trans (hr4.mono (fun k hk => by first | omega | exact hk.elim | (dsimp only at hk ⊢; omega)))
  refine wp_bind (T_Day_bodyHas x1 x2 x3 r4) (fun r5 hr5 => ?_)
  refine wp_if (fun c4 => ?_) (fun c4 => ?_)
  · refine wp_if (fun c5 => ?_) (fun c5 => ?_)
    · exact wp_some ⟨(fun E he => nomatch he), mr4⟩
    · refine wp_bind (T_Day_mustBeKept x1 x2 x3 r4) (fun r6 hr6 => ?_)
      refine wp_if (fun c6 => ?_) (fun c6 => ?_)
      · exact wp_some ⟨(fun E he => nomatch he), mr4⟩
      · exact wp_some ⟨(fun E he => nomatch he), mr4⟩
  · exact wp_some ⟨(fun E he => nomatch he), mr4⟩
theorem T_KW_mild (x1 : Int32) (x2 : Int32) (x3 : Int32) (x4 : Int32) (M : Mem) : wpO (F_KW_mild x1 x2 x3 x4 M) (fun r => (∀ E, r.1 = .inl E → E ∈ (["java/lang/IndexOutOfBoundsException"] : List String)) ∧ Same (fun k => k = 78) M r.2) := by
  unfold F_KW_mild
  refine wp_x (T_KW_needAct x1 M) (fun E M1 hA hm => ?_) (fun u1 M1 hm => ?_)
  · exact ⟨fun E2 he => by cases he; exact (show ∀ E ∈ (["java/lang/IndexOutOfBoundsException"] : List String), E ∈ (["java/lang/IndexOutOfBoundsException"] : List String) by decide) E hA, (hm.mono (fun k hk => by first | omega | exact hk.elim | (dsimp only at hk ⊢; omega)))⟩
  have mM1 : Same (fun k => k = 78) M M1 := (hm.mono (fun k hk => by first | omega | exact hk.elim | (dsimp only at hk ⊢; omega)))
  refine wp_x (T_KW_needAct x2 M1) (fun E M2 hA hm => ?_) (fun u2 M2 hm => ?_)
  · exact ⟨fun E2 he => by cases he; exact (show ∀ E ∈ (["java/lang/IndexOutOfBoundsException"] : List String), E ∈ (["java/lang/IndexOutOfBoundsException"] : List String) by decide) E hA, ((mM1).trans (hm.mono (fun k hk => by first | omega | exact hk.elim | (dsimp only at hk ⊢; omega))))⟩
  have mM2 : Same (fun k => k = 78) M M2 := ((mM1).trans (hm.mono (fun k hk => by first | omega | exact hk.elim | (dsimp only at hk ⊢; omega))))
  refine wp_x (T_KW_needAct x3 M2) (fun E M3 hA hm => ?_) (fun u3 M3 hm => ?_)
  · exact ⟨fun E2 he => by cases he; exact (show ∀ E ∈ (["java/lang/IndexOutOfBoundsException"] : List String), E ∈ (["java/lang/IndexOutOfBoundsException"] : List String) by decide) E hA, ((mM2).trans (hm.mono (fun k hk => by first | omega | exact hk.elim | (dsimp only at hk ⊢; omega))))⟩
  have mM3 : Same (fun k => k = 78) M M3 := ((mM2).trans (hm.mono (fun k hk => by first | omega | exact hk.elim | (dsimp only at hk ⊢; omega))))
  refine wp_x (T_KW_needAct x4 M3) (fun E M4 hA hm => ?_) (fun u4 M4 hm => ?_)
  · exact ⟨fun E2 he => by cases he; exact (show ∀ E ∈ (["java/lang/IndexOutOfBoundsException"] : List String), E ∈ (["java/lang/IndexOutOfBoundsException"] : List String) by decide) E hA, ((mM3).trans (hm.mono (fun k hk => by first | omega | exact hk.elim | (dsimp only at hk ⊢; omega))))⟩
  have mM4 : Same (fun k => k = 78) M M4 := ((mM3).trans (hm.mono (fun k hk => by first | omega | exact hk.elim | (dsimp only at hk ⊢; omega))))
  refine wp_bind (T_Day_fewestThreatDays x1 x2 x3 x4 M4) (fun r5 hr5 => ?_)
  have mr5 : Same (fun k => k = 78) M r5.2 := (mM4).trans (hr5.mono (fun k hk => by first | omega | exact hk.elim | (dsimp only at hk ⊢; omega)))
  exact wp_some ⟨(fun E he => nomatch he), mr5⟩
theorem T_KW_mistakes (x1 : Int32) (x2 : Int32) (M : Mem) : wpO (F_KW_mistakes x1 x2 M) (fun r => (∀ E, r.1 = .inl E → E ∈ (["java/lang/IllegalArgumentException"] : List String)) ∧ Same (fun k => k = 1) M r.2) := by
  unfold F_KW_mistakes
  refine wp_x (T_KW_needNumber x2 1 9 M) (fun E M1 hA hm => ?_) (fun u1 M1 hm => ?_)
  · exact ⟨fun E2 he => by cases he; exact (show ∀ E ∈ (["java/lang/IllegalArgumentException"] : List String), E ∈ (["java/lang/IllegalArgumentException"] : List String) by decide) E hA, (hm.mono (fun k hk => by first | omega | exact hk.elim | (dsimp only at hk ⊢; omega)))⟩
  have mM1 : Same (fun k => k = 1) M M1 := (hm.mono (fun k hk => by first | omega | exact hk.elim | (dsimp only at hk ⊢; omega)))
  refine wp_x (T_KW_needNumber x1 0 (x2 - 1) M1) (fun E M2 hA hm => ?_) (fun u2 M2 hm => ?_)
  · exact ⟨fun E2 he => by cases he; exact (show ∀ E ∈ (["java/lang/IllegalArgumentException"] : List String), E ∈ (["java/lang/IllegalArgumentException"] : List String) by decide) E hA, ((mM1).trans (hm.mono (fun k hk => by first | omega | exact hk.elim | (dsimp only at hk ⊢; omega))))⟩
  have mM2 : Same (fun k => k = 1) M M2 := ((mM1).trans (hm.mono (fun k hk => by first | omega | exact hk.elim | (dsimp only at hk ⊢; omega))))
  exact wp_some ⟨(fun E he => nomatch he), ((((mM2).sI (by first | omega | (dsimp only; omega)))).sI (by first | omega | (dsimp only; omega)))⟩
theorem T_KW_needTwoMoods (x1 : Int32) (M : Mem) : wpO (F_KW_needTwoMoods x1 M) (fun r => (∀ E, r.1 = .inl E → E ∈ (["java/lang/IllegalStateException"] : List String)) ∧ Same (fun k => False) M r.2) := by
  unfold F_KW_needTwoMoods
  refine wp_bind (T_Well_moodsOf x1 M) (fun r1 hr1 => ?_)
  refine wp_if (fun c1 => ?_) (fun c1 => ?_)
  · exact wp_some ⟨(fun E he => nomatch he), Same.rfl'⟩
  · exact wp_some ⟨(fun E he => by cases he; decide), Same.rfl'⟩
theorem T_KW_doubt (x1 : Int32) (x2 : Int32) (x3 : Int32) (x4 : Int32) (x5 : Int32) (M : Mem) : wpO (F_KW_doubt x1 x2 x3 x4 x5 M) (fun r => (∀ E, r.1 = .inl E → E ∈ (["java/lang/IndexOutOfBoundsException", "java/lang/IllegalStateException"] : List String)) ∧ Same (fun k => (34 ≤ k ∧ k ≤ 51) ∨ k = 93) M r.2) := by
  unfold F_KW_doubt
  refine wp_x (T_KW_needWay x1 M) (fun E M1 hA hm => ?_) (fun u1 M1 hm => ?_)
  · exact ⟨fun E2 he => by cases he; exact (show ∀ E ∈ (["java/lang/IndexOutOfBoundsException"] : List String), E ∈ (["java/lang/IndexOutOfBoundsException", "java/lang/IllegalStateException"] : List String) by decide) E hA, (hm.mono (fun k hk => by first | omega | exact hk.elim | (dsimp only at hk ⊢; omega)))⟩
  have mM1 : Same (fun k => (34 ≤ k ∧ k ≤ 51) ∨ k = 93) M M1 := (hm.mono (fun k hk => by first | omega | exact hk.elim | (dsimp only at hk ⊢; omega)))
  refine wp_x (T_KW_needWay x2 M1) (fun E M2 hA hm => ?_) (fun u2 M2 hm => ?_)
  · exact ⟨fun E2 he => by cases he; exact (show ∀ E ∈ (["java/lang/IndexOutOfBoundsException"] : List String), E ∈ (["java/lang/IndexOutOfBoundsException", "java/lang/IllegalStateException"] : List String) by decide) E hA, ((mM1).trans (hm.mono (fun k hk => by first | omega | exact hk.elim | (dsimp only at hk ⊢; omega))))⟩
  have mM2 : Same (fun k => (34 ≤ k ∧ k ≤ 51) ∨ k = 93) M M2 := ((mM1).trans (hm.mono (fun k hk => by first | omega | exact hk.elim | (dsimp only at hk ⊢; omega))))
  refine wp_x (T_KW_needPerson x3 M2) (fun E M3 hA hm => ?_) (fun u3 M3 hm => ?_)
  · exact ⟨fun E2 he => by cases he; exact (show ∀ E ∈ (["java/lang/IndexOutOfBoundsException"] : List String), E ∈ (["java/lang/IndexOutOfBoundsException", "java/lang/IllegalStateException"] : List String) by decide) E hA, ((mM2).trans (hm.mono (fun k hk => by first | omega | exact hk.elim | (dsimp only at hk ⊢; omega))))⟩
  have mM3 : Same (fun k => (34 ≤ k ∧ k ≤ 51) ∨ k = 93) M M3 := ((mM2).trans (hm.mono (fun k hk => by first | omega | exact hk.elim | (dsimp only at hk ⊢; omega))))
  refine wp_x (T_KW_needFree x1 M3) (fun E M4 hA hm => ?_) (fun u4 M4 hm => ?_)
  · exact ⟨fun E2 he => by cases he; exact (show ∀ E ∈ (["java/lang/IllegalStateException"] : List String), E ∈ (["java/lang/IndexOutOfBoundsException", "java/lang/IllegalStateException"] : List String) by decide) E hA, ((mM3).trans (hm.mono (fun k hk => by first | omega | exact hk.elim | (dsimp only at hk ⊢; omega))))⟩
  have mM4 : Same (fun k => (34 ≤ k ∧ k ≤ 51) ∨ k = 93) M M4 := ((mM3).trans (hm.mono (fun k hk => by first | omega | exact hk.elim | (dsimp only at hk ⊢; omega))))
  refine wp_x (T_KW_needFree x2 M4) (fun E M5 hA hm => ?_) (fun u5 M5 hm => ?_)
  · exact ⟨fun E2 he => by cases he; exact (show ∀ E ∈ (["java/lang/IllegalStateException"] : List String), E ∈ (["java/lang/IndexOutOfBoundsException", "java/lang/IllegalStateException"] : List String) by decide) E hA, ((mM4).trans (hm.mono (fun k hk => by first | omega | exact hk.elim | (dsimp only at hk ⊢; omega))))⟩
  have mM5 : Same (fun k => (34 ≤ k ∧ k ≤ 51) ∨ k = 93) M M5 := ((mM4).trans (hm.mono (fun k hk => by first | omega | exact hk.elim | (dsimp only at hk ⊢; omega))))
  refine wp_x (T_KW_needTwoActs M5) (fun E M6 hA hm => ?_) (fun u6 M6 hm => ?_)
  · exact ⟨fun E2 he => by cases he; exact (show ∀ E ∈ (["java/lang/IllegalStateException"] : List String), E ∈ (["java/lang/IndexOutOfBoundsException", "java/lang/IllegalStateException"] : List String) by decide) E hA, ((mM5).trans (hm.mono (fun k hk => by first | omega | exact hk.elim | (dsimp only at hk ⊢; omega))))⟩
  have mM6 : Same (fun k => (34 ≤ k ∧ k ≤ 51) ∨ k = 93) M M6 := ((mM5).trans (hm.mono (fun k hk => by first | omega | exact hk.elim | (dsimp only at hk ⊢; omega))))
  refine wp_x (T_KW_needTwoMoods x1 M6) (fun E M7 hA hm => ?_) (fun u7 M7 hm => ?_)
  · exact ⟨fun E2 he => by cases he; exact (show ∀ E ∈ (["java/lang/IllegalStateException"] : List String), E ∈ (["java/lang/IndexOutOfBoundsException", "java/lang/IllegalStateException"] : List String) by decide) E hA, ((mM6).trans (hm.mono (fun k hk => by first | omega | exact hk.elim | (dsimp only at hk ⊢; omega))))⟩
  have mM7 : Same (fun k => (34 ≤ k ∧ k ≤ 51) ∨ k = 93) M M7 := ((mM6).trans (hm.mono (fun k hk => by first | omega | exact hk.elim | (dsimp only at hk ⊢; omega))))
  refine wp_x (T_KW_needTwoMoods x2 M7) (fun E M8 hA hm => ?_) (fun u8 M8 hm => ?_)
  · exact ⟨fun E2 he => by cases he; exact (show ∀ E ∈ (["java/lang/IllegalStateException"] : List String), E ∈ (["java/lang/IndexOutOfBoundsException", "java/lang/IllegalStateException"] : List String) by decide) E hA, ((mM7).trans (hm.mono (fun k hk => by first | omega | exact hk.elim | (dsimp only at hk ⊢; omega))))⟩
  have mM8 : Same (fun k => (34 ≤ k ∧ k ≤ 51) ∨ k = 93) M M8 := ((mM7).trans (hm.mono (fun k hk => by first | omega | exact hk.elim | (dsimp only at hk ⊢; omega))))
  refine wp_bind (T_Pair_look x1 x2 ((M8.1 1 1).toInt64) ((M8.1 1 2).toInt64) M8) (fun r9 hr9 => ?_)
  have mr9 : Same (fun k => (34 ≤ k ∧ k ≤ 51) ∨ k = 93) M r9 := (mM8).trans (hr9.mono (fun k hk => by first | omega | exact hk.elim | (dsimp only at hk ⊢; omega)))
  refine wp_bind (T_Pair_tellDoubted 93 x3 x4 r9) (fun r10 hr10 => ?_)
  have mr10 : Same (fun k => (34 ≤ k ∧ k ≤ 51) ∨ k = 93) M r10 := (mr9).trans (hr10.mono (fun k hk => by first | omega | exact hk.elim | (dsimp only at hk ⊢; omega)))
  refine wp_bind (T_Fraction_part 93 x5 r10) (fun r11 hr11 => ?_)
  exact wp_some ⟨(fun E he => nomatch he), mr10⟩
theorem T_KW_row (M : Mem) : wpO (F_KW_row M) (fun r => (∀ E, r.1 = .inl E → E ∈ (["java/lang/IllegalArgumentException"] : List String)) ∧ Same (fun k => k = 1 ∨ k = 7 ∨ k = 27) M r.2) := by
  unfold F_KW_row
  refine wp_bind (T_Tape_isRowOfDays M) (fun r1 hr1 => ?_)
  refine wp_if (fun c1 => ?_) (fun c1 => ?_)
  · refine wp_bind (T_Row_takeFrom 7 400 29 400 M) (fun r2 hr2 => ?_)
    have mr2 : Same (fun k => k = 1 ∨ k = 7 ∨ k = 27) M r2 := hr2.mono (fun k hk => by first | omega | exact hk.elim | (dsimp only at hk ⊢; omega))
    unfold F_KW_row_j45
    refine wp_if (fun c2 => ?_) (fun c2 => ?_)
    · exact wp_some ⟨(fun E he => nomatch he), ((((mr2).sI (by first | omega | (dsimp only; omega)))).sI (by first | omega | (dsimp only; omega)))⟩
    · exact wp_some ⟨(fun E he => by cases he; decide), ((((mr2).sI (by first | omega | (dsimp only; omega)))).sI (by first | omega | (dsimp only; omega)))⟩
  · unfold F_KW_row_j45
    refine wp_if (fun c3 => ?_) (fun c3 => ?_)
    · exact wp_some ⟨(fun E he => nomatch he), ((Same.rfl').sI (by first | omega | (dsimp only; omega)))⟩
    · exact wp_some ⟨(fun E he => by cases he; decide), ((Same.rfl').sI (by first | omega | (dsimp only; omega)))⟩
theorem T_KW_judge (x1 : Int32) (x2 : Int32) (M : Mem) : wpO (F_KW_judge x1 x2 M) (fun r => (∀ E, r.1 = .inl E → E ∈ (["java/lang/IndexOutOfBoundsException", "java/lang/IllegalStateException"] : List String)) ∧ Same (fun k => k = 79) M r.2) := by
  unfold F_KW_judge
  refine wp_x (T_KW_needPair x1 x2 M) (fun E M1 hA hm => ?_) (fun u1 M1 hm => ?_)
  · exact ⟨fun E2 he => by cases he; exact (show ∀ E ∈ (["java/lang/IndexOutOfBoundsException", "java/lang/IllegalStateException"] : List String), E ∈ (["java/lang/IndexOutOfBoundsException", "java/lang/IllegalStateException"] : List String) by decide) E hA, (hm.mono (fun k hk => by first | omega | exact hk.elim | (dsimp only at hk ⊢; omega)))⟩
  have mM1 : Same (fun k => k = 79) M M1 := (hm.mono (fun k hk => by first | omega | exact hk.elim | (dsimp only at hk ⊢; omega)))
  refine wp_bind (T_Well_doesUnknownAct M1) (fun r2 hr2 => ?_)
  refine wp_if (fun c2 => ?_) (fun c2 => ?_)
  · exact wp_some ⟨(fun E he => by cases he; decide), mM1⟩
  · refine wp_bind (T_Walk_firstOtherwise x1 x2 M1) (fun r3 hr3 => ?_)
    have mr3 : Same (fun k => k = 79) M r3.2 := (mM1).trans (hr3.mono (fun k hk => by first | omega | exact hk.elim | (dsimp only at hk ⊢; omega)))
    exact wp_some ⟨(fun E he => nomatch he), mr3⟩
theorem T_KW_brought (x1 : Int32) (M : Mem) : wpO (F_KW_brought x1 M) (fun r => (∀ E, r.1 = .inl E → E ∈ (["java/lang/IndexOutOfBoundsException"] : List String)) ∧ Same (fun k => False) M r.2) := by
  unfold F_KW_brought
  refine wp_x (T_KW_needPerson x1 M) (fun E M1 hA hm => ?_) (fun u1 M1 hm => ?_)
  · exact ⟨fun E2 he => by cases he; exact (show ∀ E ∈ (["java/lang/IndexOutOfBoundsException"] : List String), E ∈ (["java/lang/IndexOutOfBoundsException"] : List String) by decide) E hA, (hm.mono (fun k hk => by first | omega | exact hk.elim | (dsimp only at hk ⊢; omega)))⟩
  have mM1 : Same (fun k => False) M M1 := (hm.mono (fun k hk => by first | omega | exact hk.elim | (dsimp only at hk ⊢; omega)))
  refine wp_bind (T_Walk_broughtByRow x1 M1) (fun r2 hr2 => ?_)
  exact wp_some ⟨(fun E he => nomatch he), mM1⟩
theorem T_KW_drawn (x1 : Int32) (x2 : Int32) (x3 : Int32) (x4 : Int32) (x5 : Int32) (M : Mem) : wpO (F_KW_drawn x1 x2 x3 x4 x5 M) (fun r => (∀ E, r.1 = .inl E → E ∈ (["java/lang/IndexOutOfBoundsException", "java/lang/IllegalArgumentException", "java/lang/IllegalStateException", "java/util/NoSuchElementException"] : List String)) ∧ Same (fun k => k = 79) M r.2) := by
  unfold F_KW_drawn
  refine wp_x (T_KW_needWay x1 M) (fun E M1 hA hm => ?_) (fun u1 M1 hm => ?_)
  · exact ⟨fun E2 he => by cases he; exact (show ∀ E ∈ (["java/lang/IndexOutOfBoundsException"] : List String), E ∈ (["java/lang/IndexOutOfBoundsException", "java/lang/IllegalArgumentException", "java/lang/IllegalStateException", "java/util/NoSuchElementException"] : List String) by decide) E hA, (hm.mono (fun k hk => by first | omega | exact hk.elim | (dsimp only at hk ⊢; omega)))⟩
  have mM1 : Same (fun k => k = 79) M M1 := (hm.mono (fun k hk => by first | omega | exact hk.elim | (dsimp only at hk ⊢; omega)))
  refine wp_x (T_KW_needWay x2 M1) (fun E M2 hA hm => ?_) (fun u2 M2 hm => ?_)
  · exact ⟨fun E2 he => by cases he; exact (show ∀ E ∈ (["java/lang/IndexOutOfBoundsException"] : List String), E ∈ (["java/lang/IndexOutOfBoundsException", "java/lang/IllegalArgumentException", "java/lang/IllegalStateException", "java/util/NoSuchElementException"] : List String) by decide) E hA, ((mM1).trans (hm.mono (fun k hk => by first | omega | exact hk.elim | (dsimp only at hk ⊢; omega))))⟩
  have mM2 : Same (fun k => k = 79) M M2 := ((mM1).trans (hm.mono (fun k hk => by first | omega | exact hk.elim | (dsimp only at hk ⊢; omega))))
  refine wp_x (T_KW_needNumber x3 0 100 M2) (fun E M3 hA hm => ?_) (fun u3 M3 hm => ?_)
  · exact ⟨fun E2 he => by cases he; exact (show ∀ E ∈ (["java/lang/IllegalArgumentException"] : List String), E ∈ (["java/lang/IndexOutOfBoundsException", "java/lang/IllegalArgumentException", "java/lang/IllegalStateException", "java/util/NoSuchElementException"] : List String) by decide) E hA, ((mM2).trans (hm.mono (fun k hk => by first | omega | exact hk.elim | (dsimp only at hk ⊢; omega))))⟩
  have mM3 : Same (fun k => k = 79) M M3 := ((mM2).trans (hm.mono (fun k hk => by first | omega | exact hk.elim | (dsimp only at hk ⊢; omega))))
  refine wp_x (T_KW_needFree x1 M3) (fun E M4 hA hm => ?_) (fun u4 M4 hm => ?_)
  · exact ⟨fun E2 he => by cases he; exact (show ∀ E ∈ (["java/lang/IllegalStateException"] : List String), E ∈ (["java/lang/IndexOutOfBoundsException", "java/lang/IllegalArgumentException", "java/lang/IllegalStateException", "java/util/NoSuchElementException"] : List String) by decide) E hA, ((mM3).trans (hm.mono (fun k hk => by first | omega | exact hk.elim | (dsimp only at hk ⊢; omega))))⟩
  have mM4 : Same (fun k => k = 79) M M4 := ((mM3).trans (hm.mono (fun k hk => by first | omega | exact hk.elim | (dsimp only at hk ⊢; omega))))
  refine wp_x (T_KW_needFree x2 M4) (fun E M5 hA hm => ?_) (fun u5 M5 hm => ?_)
  · exact ⟨fun E2 he => by cases he; exact (show ∀ E ∈ (["java/lang/IllegalStateException"] : List String), E ∈ (["java/lang/IndexOutOfBoundsException", "java/lang/IllegalArgumentException", "java/lang/IllegalStateException", "java/util/NoSuchElementException"] : List String) by decide) E hA, ((mM4).trans (hm.mono (fun k hk => by first | omega | exact hk.elim | (dsimp only at hk ⊢; omega))))⟩
  have mM5 : Same (fun k => k = 79) M M5 := ((mM4).trans (hm.mono (fun k hk => by first | omega | exact hk.elim | (dsimp only at hk ⊢; omega))))
  refine wp_if (fun c6 => ?_) (fun c6 => ?_)
  · unfold F_KW_drawn_j42
    refine wp_x (T_KW_needWhat x5 3 M5) (fun E M6_504 hA hm => ?_) (fun u7 M6_504 hm => ?_)
    · exact ⟨fun E2 he => by cases he; exact (show ∀ E ∈ (["java/util/NoSuchElementException"] : List String), E ∈ (["java/lang/IndexOutOfBoundsException", "java/lang/IllegalArgumentException", "java/lang/IllegalStateException", "java/util/NoSuchElementException"] : List String) by decide) E hA, ((mM5).trans (hm.mono (fun k hk => by first | omega | exact hk.elim | (dsimp only at hk ⊢; omega))))⟩
    have mM6_504 : Same (fun k => k = 79) M M6_504 := ((mM5).trans (hm.mono (fun k hk => by first | omega | exact hk.elim | (dsimp only at hk ⊢; omega))))
    refine wp_bind (T_Walk_draw x1 x2 x3 x4 x5 M6_504) (fun r7_505 hr7_505 => ?_)
    have mr7_505 : Same (fun k => k = 79) M r7_505.2 := (mM6_504).trans (hr7_505.mono (fun k hk => by first | omega | exact hk.elim | (dsimp only at hk ⊢; omega)))
    exact wp_some ⟨(fun E he => nomatch he), mr7_505⟩
  · refine wp_x (T_KW_needTwoActs M5) (fun E M8 hA hm => ?_) (fun u8 M8 hm => ?_)
    · exact ⟨fun E2 he => by cases he; exact (show ∀ E ∈ (["java/lang/IllegalStateException"] : List String), E ∈ (["java/lang/IndexOutOfBoundsException", "java/lang/IllegalArgumentException", "java/lang/IllegalStateException", "java/util/NoSuchElementException"] : List String) by decide) E hA, ((mM5).trans (hm.mono (fun k hk => by first | omega | exact hk.elim | (dsimp only at hk ⊢; omega))))⟩
    have mM8 : Same (fun k => k = 79) M M8 := ((mM5).trans (hm.mono (fun k hk => by first | omega | exact hk.elim | (dsimp only at hk ⊢; omega))))
    unfold F_KW_drawn_j42
    refine wp_x (T_KW_needWhat x5 3 M8) (fun E M6_506 hA hm => ?_) (fun u9 M6_506 hm => ?_)
    · exact ⟨fun E2 he => by cases he; exact (show ∀ E ∈ (["java/util/NoSuchElementException"] : List String), E ∈ (["java/lang/IndexOutOfBoundsException", "java/lang/IllegalArgumentException", "java/lang/IllegalStateException", "java/util/NoSuchElementException"] : List String) by decide) E hA, ((mM8).trans (hm.mono (fun k hk => by first | omega | exact hk.elim | (dsimp only at hk ⊢; omega))))⟩
    have mM6_506 : Same (fun k => k = 79) M M6_506 := ((mM8).trans (hm.mono (fun k hk => by first | omega | exact hk.elim | (dsimp only at hk ⊢; omega))))
    refine wp_bind (T_Walk_draw x1 x2 x3 x4 x5 M6_506) (fun r7_507 hr7_507 => ?_)
    have mr7_507 : Same (fun k => k = 79) M r7_507.2 := (mM6_506).trans (hr7_507.mono (fun k hk => by first | omega | exact hk.elim | (dsimp only at hk ⊢; omega)))
    exact wp_some ⟨(fun E he => nomatch he), mr7_507⟩
theorem T_KW_field (x1 : Int32) (x2 : Int32) (M : Mem) : wpO (F_KW_field x1 x2 M) (fun r => (∀ E, r.1 = .inl E → E ∈ (["java/lang/IndexOutOfBoundsException", "java/lang/IllegalArgumentException"] : List String)) ∧ Same (fun k => k = 9) M r.2) := by
  unfold F_KW_field
  refine wp_x (T_KW_needWay x1 M) (fun E M1 hA hm => ?_) (fun u1 M1 hm => ?_)
  · exact ⟨fun E2 he => by cases he; exact (show ∀ E ∈ (["java/lang/IndexOutOfBoundsException"] : List String), E ∈ (["java/lang/IndexOutOfBoundsException", "java/lang/IllegalArgumentException"] : List String) by decide) E hA, (hm.mono (fun k hk => by first | omega | exact hk.elim | (dsimp only at hk ⊢; omega)))⟩
  have mM1 : Same (fun k => k = 9) M M1 := (hm.mono (fun k hk => by first | omega | exact hk.elim | (dsimp only at hk ⊢; omega)))
  refine wp_x (T_KW_needNumber x2 0 1000 M1) (fun E M2 hA hm => ?_) (fun u2 M2 hm => ?_)
  · exact ⟨fun E2 he => by cases he; exact (show ∀ E ∈ (["java/lang/IllegalArgumentException"] : List String), E ∈ (["java/lang/IndexOutOfBoundsException", "java/lang/IllegalArgumentException"] : List String) by decide) E hA, ((mM1).trans (hm.mono (fun k hk => by first | omega | exact hk.elim | (dsimp only at hk ⊢; omega))))⟩
  have mM2 : Same (fun k => k = 9) M M2 := ((mM1).trans (hm.mono (fun k hk => by first | omega | exact hk.elim | (dsimp only at hk ⊢; omega))))
  refine wp_bind (T_Row_put 9 8 x1 x2.toInt64 M2) (fun r3 hr3 => ?_)
  have mr3 : Same (fun k => k = 9) M r3 := (mM2).trans (hr3.mono (fun k hk => by first | omega | exact hk.elim | (dsimp only at hk ⊢; omega)))
  exact wp_some ⟨(fun E he => nomatch he), mr3⟩
theorem T_KW_rounds (x1 : Int32) (M : Mem) : wpO (F_KW_rounds x1 M) (fun r => (∀ E, r.1 = .inl E → E ∈ (["java/lang/IllegalArgumentException"] : List String)) ∧ Same (fun k => k = 1) M r.2) := by
  unfold F_KW_rounds
  refine wp_x (T_KW_needNumber x1 1 30 M) (fun E M1 hA hm => ?_) (fun u1 M1 hm => ?_)
  · exact ⟨fun E2 he => by cases he; exact (show ∀ E ∈ (["java/lang/IllegalArgumentException"] : List String), E ∈ (["java/lang/IllegalArgumentException"] : List String) by decide) E hA, (hm.mono (fun k hk => by first | omega | exact hk.elim | (dsimp only at hk ⊢; omega)))⟩
  have mM1 : Same (fun k => k = 1) M M1 := (hm.mono (fun k hk => by first | omega | exact hk.elim | (dsimp only at hk ⊢; omega)))
  exact wp_some ⟨(fun E he => nomatch he), ((mM1).sI (by first | omega | (dsimp only; omega)))⟩
theorem T_KW_meet (x1 : Int32) (x2 : Int32) (M : Mem) : wpO (F_KW_meet x1 x2 M) (fun r => (∀ E, r.1 = .inl E → E ∈ (["java/lang/IndexOutOfBoundsException", "java/lang/IllegalStateException"] : List String)) ∧ Same (fun k => k = 79) M r.2) := by
  unfold F_KW_meet
  refine wp_x (T_KW_needPair x1 x2 M) (fun E M1 hA hm => ?_) (fun u1 M1 hm => ?_)
  · exact ⟨fun E2 he => by cases he; exact (show ∀ E ∈ (["java/lang/IndexOutOfBoundsException", "java/lang/IllegalStateException"] : List String), E ∈ (["java/lang/IndexOutOfBoundsException", "java/lang/IllegalStateException"] : List String) by decide) E hA, (hm.mono (fun k hk => by first | omega | exact hk.elim | (dsimp only at hk ⊢; omega)))⟩
  have mM1 : Same (fun k => k = 79) M M1 := (hm.mono (fun k hk => by first | omega | exact hk.elim | (dsimp only at hk ⊢; omega)))
  refine wp_bind (T_Walk_gotInRounds x1 x2 M1) (fun r2 hr2 => ?_)
  have mr2 : Same (fun k => k = 79) M r2.2 := (mM1).trans (hr2.mono (fun k hk => by first | omega | exact hk.elim | (dsimp only at hk ⊢; omega)))
  exact wp_some ⟨(fun E he => nomatch he), mr2⟩
theorem T_KW_grow (x1 : Int32) (M : Mem) : wpO (F_KW_grow x1 M) (fun r => (∀ E, r.1 = .inl E → E ∈ (["java/lang/IllegalArgumentException"] : List String)) ∧ Same (fun k => k = 9 ∨ k = 79 ∨ (82 ≤ k ∧ k ≤ 90)) M r.2) := by
  unfold F_KW_grow
  refine wp_x (T_KW_needNumber x1 0 50 M) (fun E M1 hA hm => ?_) (fun u1 M1 hm => ?_)
  · exact ⟨fun E2 he => by cases he; exact (show ∀ E ∈ (["java/lang/IllegalArgumentException"] : List String), E ∈ (["java/lang/IllegalArgumentException"] : List String) by decide) E hA, (hm.mono (fun k hk => by first | omega | exact hk.elim | (dsimp only at hk ⊢; omega)))⟩
  have mM1 : Same (fun k => k = 9 ∨ k = 79 ∨ (82 ≤ k ∧ k ≤ 90)) M M1 := (hm.mono (fun k hk => by first | omega | exact hk.elim | (dsimp only at hk ⊢; omega)))
  refine wp_bind (T_Crowd_growSteps x1 M1) (fun r2 hr2 => ?_)
  have mr2 : Same (fun k => k = 9 ∨ k = 79 ∨ (82 ≤ k ∧ k ≤ 90)) M r2.2 := (mM1).trans (hr2.mono (fun k hk => by first | omega | exact hk.elim | (dsimp only at hk ⊢; omega)))
  exact wp_some ⟨(fun E he => nomatch he), mr2⟩
theorem T_KW_beings (x1 : Int32) (M : Mem) : wpO (F_KW_beings x1 M) (fun r => (∀ E, r.1 = .inl E → E ∈ (["java/lang/IndexOutOfBoundsException"] : List String)) ∧ Same (fun k => False) M r.2) := by
  unfold F_KW_beings
  refine wp_x (T_KW_needWay x1 M) (fun E M1 hA hm => ?_) (fun u1 M1 hm => ?_)
  · exact ⟨fun E2 he => by cases he; exact (show ∀ E ∈ (["java/lang/IndexOutOfBoundsException"] : List String), E ∈ (["java/lang/IndexOutOfBoundsException"] : List String) by decide) E hA, (hm.mono (fun k hk => by first | omega | exact hk.elim | (dsimp only at hk ⊢; omega)))⟩
  have mM1 : Same (fun k => False) M M1 := (hm.mono (fun k hk => by first | omega | exact hk.elim | (dsimp only at hk ⊢; omega)))
  refine wp_bind (T_Row_small 9 8 x1 M1) (fun r2 hr2 => ?_)
  exact wp_some ⟨(fun E he => nomatch he), mM1⟩
theorem T_KW_stays (x1 : Int32) (M : Mem) : wpO (F_KW_stays x1 M) (fun r => (∀ E, r.1 = .inl E → E ∈ (["java/lang/IndexOutOfBoundsException", "java/lang/IllegalStateException"] : List String)) ∧ Same (fun k => k = 79 ∨ k = 82) M r.2) := by
  unfold F_KW_stays
  refine wp_x (T_KW_needWay x1 M) (fun E M1 hA hm => ?_) (fun u1 M1 hm => ?_)
  · exact ⟨fun E2 he => by cases he; exact (show ∀ E ∈ (["java/lang/IndexOutOfBoundsException"] : List String), E ∈ (["java/lang/IndexOutOfBoundsException", "java/lang/IllegalStateException"] : List String) by decide) E hA, (hm.mono (fun k hk => by first | omega | exact hk.elim | (dsimp only at hk ⊢; omega)))⟩
  have mM1 : Same (fun k => k = 79 ∨ k = 82) M M1 := (hm.mono (fun k hk => by first | omega | exact hk.elim | (dsimp only at hk ⊢; omega)))
  refine wp_x (T_KW_needFree x1 M1) (fun E M2 hA hm => ?_) (fun u2 M2 hm => ?_)
  · exact ⟨fun E2 he => by cases he; exact (show ∀ E ∈ (["java/lang/IllegalStateException"] : List String), E ∈ (["java/lang/IndexOutOfBoundsException", "java/lang/IllegalStateException"] : List String) by decide) E hA, ((mM1).trans (hm.mono (fun k hk => by first | omega | exact hk.elim | (dsimp only at hk ⊢; omega))))⟩
  have mM2 : Same (fun k => k = 79 ∨ k = 82) M M2 := ((mM1).trans (hm.mono (fun k hk => by first | omega | exact hk.elim | (dsimp only at hk ⊢; omega))))
  refine wp_bind (T_Crowd_keepsOthersOut x1 M2) (fun r3 hr3 => ?_)
  have mr3 : Same (fun k => k = 79 ∨ k = 82) M r3.2 := (mM2).trans (hr3.mono (fun k hk => by first | omega | exact hk.elim | (dsimp only at hk ⊢; omega)))
  exact wp_some ⟨(fun E he => nomatch he), mr3⟩
theorem T_KW_villager (x1 : Int32) (x2 : Int32) (M : Mem) : wpO (F_KW_villager x1 x2 M) (fun r => (∀ E, r.1 = .inl E → E ∈ (["java/lang/IllegalArgumentException", "java/lang/UnsupportedOperationException"] : List String)) ∧ Same (fun k => k = 1 ∨ (11 ≤ k ∧ k ≤ 13)) M r.2) := by
  unfold F_KW_villager
  refine wp_x (T_KW_needNumber x1 0 999 M) (fun E M1 hA hm => ?_) (fun u1 M1 hm => ?_)
  · exact ⟨fun E2 he => by cases he; exact (show ∀ E ∈ (["java/lang/IllegalArgumentException"] : List String), E ∈ (["java/lang/IllegalArgumentException", "java/lang/UnsupportedOperationException"] : List String) by decide) E hA, (hm.mono (fun k hk => by first | omega | exact hk.elim | (dsimp only at hk ⊢; omega)))⟩
  have mM1 : Same (fun k => k = 1 ∨ (11 ≤ k ∧ k ≤ 13)) M M1 := (hm.mono (fun k hk => by first | omega | exact hk.elim | (dsimp only at hk ⊢; omega)))
  refine wp_x (T_KW_needNumber x2 1 99 M1) (fun E M2 hA hm => ?_) (fun u2 M2 hm => ?_)
  · exact ⟨fun E2 he => by cases he; exact (show ∀ E ∈ (["java/lang/IllegalArgumentException"] : List String), E ∈ (["java/lang/IllegalArgumentException", "java/lang/UnsupportedOperationException"] : List String) by decide) E hA, ((mM1).trans (hm.mono (fun k hk => by first | omega | exact hk.elim | (dsimp only at hk ⊢; omega))))⟩
  have mM2 : Same (fun k => k = 1 ∨ (11 ≤ k ∧ k ≤ 13)) M M2 := ((mM1).trans (hm.mono (fun k hk => by first | omega | exact hk.elim | (dsimp only at hk ⊢; omega))))
  refine wp_if (fun c3 => ?_) (fun c3 => ?_)
  · refine wp_bind (T_Row_put 11 6 (M2.1 1 8) x1.toInt64 M2) (fun r3 hr3 => ?_)
    have mr3 : Same (fun k => k = 1 ∨ (11 ≤ k ∧ k ≤ 13)) M r3 := (mM2).trans (hr3.mono (fun k hk => by first | omega | exact hk.elim | (dsimp only at hk ⊢; omega)))
    refine wp_bind (T_Row_put 13 6 (r3.1 1 8) x2.toInt64 r3) (fun r4 hr4 => ?_)
    have mr4 : Same (fun k => k = 1 ∨ (11 ≤ k ∧ k ≤ 13)) M r4 := (mr3).trans (hr4.mono (fun k hk => by first | omega | exact hk.elim | (dsimp only at hk ⊢; omega)))
    exact wp_some ⟨(fun E he => nomatch he), ((mr4).sI (by first | omega | (dsimp only; omega)))⟩
  · exact wp_some ⟨(fun E he => by cases he; decide), mM2⟩
theorem T_KW_villageEdge (x1 : Int32) (x2 : Int32) (M : Mem) : wpO (F_KW_villageEdge x1 x2 M) (fun r => (∀ E, r.1 = .inl E → E ∈ (["java/lang/IndexOutOfBoundsException"] : List String)) ∧ Same (fun k => k = 93) M r.2) := by
  unfold F_KW_villageEdge
  refine wp_if (fun c1 => ?_) (fun c1 => ?_)
  · exact wp_some ⟨(fun E he => by cases he; decide), Same.rfl'⟩
  · refine wp_if (fun c2 => ?_) (fun c2 => ?_)
    · refine wp_bind (T_Bridge_tellEdge 93 x1 (M.1 1 8) M) (fun r1 hr1 => ?_)
      have mr1 : Same (fun k => k = 93) M r1 := hr1.mono (fun k hk => by first | omega | exact hk.elim | (dsimp only at hk ⊢; omega))
      refine wp_bind (T_Fraction_part 93 x2 r1) (fun r2 hr2 => ?_)
      exact wp_some ⟨(fun E he => nomatch he), mr1⟩
    · exact wp_some ⟨(fun E he => by cases he; decide), Same.rfl'⟩
theorem T_KW_village (x1 : Int32) (M : Mem) : wpO (F_KW_village x1 M) (fun r => (∀ E, r.1 = .inl E → E ∈ (["java/util/NoSuchElementException"] : List String)) ∧ Same (fun k => k = 92) M r.2) := by
  unfold F_KW_village
  refine wp_x (T_KW_needWhat x1 2 M) (fun E M1 hA hm => ?_) (fun u1 M1 hm => ?_)
  · exact ⟨fun E2 he => by cases he; exact (show ∀ E ∈ (["java/util/NoSuchElementException"] : List String), E ∈ (["java/util/NoSuchElementException"] : List String) by decide) E hA, (hm.mono (fun k hk => by first | omega | exact hk.elim | (dsimp only at hk ⊢; omega)))⟩
  have mM1 : Same (fun k => k = 92) M M1 := (hm.mono (fun k hk => by first | omega | exact hk.elim | (dsimp only at hk ⊢; omega)))
  refine wp_if (fun c2 => ?_) (fun c2 => ?_)
  · refine wp_bind (T_Bridge_weakest M1) (fun r4 hr4 => ?_)
    have mr4 : Same (fun k => k = 92) M r4.2 := (mM1).trans (hr4.mono (fun k hk => by first | omega | exact hk.elim | (dsimp only at hk ⊢; omega)))
    exact wp_some ⟨(fun E he => nomatch he), mr4⟩
  · refine wp_if (fun c3 => ?_) (fun c3 => ?_)
    · refine wp_bind (T_Bridge_isHeldWithout 0 M1) (fun r3 hr3 => ?_)
      have mr3 : Same (fun k => k = 92) M r3.2 := (mM1).trans (hr3.mono (fun k hk => by first | omega | exact hk.elim | (dsimp only at hk ⊢; omega)))
      refine wp_if (fun c4 => ?_) (fun c4 => ?_)
      · exact wp_some ⟨(fun E he => nomatch he), mr3⟩
      · exact wp_some ⟨(fun E he => nomatch he), mr3⟩
    · refine wp_bind (T_Bridge_fewestOut M1) (fun r2 hr2 => ?_)
      have mr2 : Same (fun k => k = 92) M r2.2 := (mM1).trans (hr2.mono (fun k hk => by first | omega | exact hk.elim | (dsimp only at hk ⊢; omega)))
      exact wp_some ⟨(fun E he => nomatch he), mr2⟩
theorem T_KW_image (M : Mem) : wpO (F_KW_image M) (fun r => Same (fun k => k = 0 ∨ (14 ≤ k ∧ k ≤ 26)) M r) := by
  unfold F_KW_image
  refine wp_bind (T_Well_takeFrom 14 1 M) (fun r1 hr1 => ?_)
  have mr1 : Same (fun k => k = 0 ∨ (14 ≤ k ∧ k ≤ 26)) M r1 := hr1.mono (fun k hk => by first | omega | exact hk.elim | (dsimp only at hk ⊢; omega))
  exact wp_some ((mr1).sI (by first | omega | (dsimp only; omega)))
theorem T_KW_back (M : Mem) : wpO (F_KW_back M) (fun r => Same (fun k => (1 ≤ k ∧ k ≤ 13)) M r.2) := by
  unfold F_KW_back
  refine wp_if (fun c1 => ?_) (fun c1 => ?_)
  · exact wp_some Same.rfl'
  · refine wp_bind (T_Well_takeFrom 1 14 M) (fun r1 hr1 => ?_)
    have mr1 : Same (fun k => (1 ≤ k ∧ k ≤ 13)) M r1 := hr1.mono (fun k hk => by first | omega | exact hk.elim | (dsimp only at hk ⊢; omega))
    exact wp_some mr1
theorem T_KW_count (x1 : Int32) (M : Mem) : wpO (F_KW_count x1 M) (fun r => Same (fun k => (68 ≤ k ∧ k ≤ 76)) M r.2) := by
  unfold F_KW_count
  refine wp_if (fun c1 => ?_) (fun c1 => ?_)
  · exact wp_some Same.rfl'
  · refine wp_if (fun c2 => ?_) (fun c2 => ?_)
    · exact wp_some Same.rfl'
    · refine wp_if (fun c3 => ?_) (fun c3 => ?_)
      · refine wp_bind (T_Well_barredWays M) (fun r1 hr1 => ?_)
        exact wp_some Same.rfl'
      · refine wp_if (fun c4 => ?_) (fun c4 => ?_)
        · exact wp_some Same.rfl'
        · refine wp_if (fun c5 => ?_) (fun c5 => ?_)
          · exact wp_some Same.rfl'
          · refine wp_if (fun c6 => ?_) (fun c6 => ?_)
            · exact wp_some Same.rfl'
            · refine wp_if (fun c7 => ?_) (fun c7 => ?_)
              · exact wp_some Same.rfl'
              · refine wp_if (fun c8 => ?_) (fun c8 => ?_)
                · exact wp_some Same.rfl'
                · refine wp_if (fun c9 => ?_) (fun c9 => ?_)
                  · refine wp_bind (T_Well_allBeings M) (fun r2 hr2 => ?_)
                    exact wp_some Same.rfl'
                  · refine wp_if (fun c10 => ?_) (fun c10 => ?_)
                    · exact wp_some Same.rfl'
                    · refine wp_if (fun c11 => ?_) (fun c11 => ?_)
                      · exact wp_some Same.rfl'
                      · refine wp_if (fun c12 => ?_) (fun c12 => ?_)
                        · refine wp_bind (T_Day_findCorners M) (fun r3 hr3 => ?_)
                          have mr3 : Same (fun k => (68 ≤ k ∧ k ≤ 76)) M r3 := hr3.mono (fun k hk => by first | omega | exact hk.elim | (dsimp only at hk ⊢; omega))
                          exact wp_some mr3
                        · exact wp_some Same.rfl'
