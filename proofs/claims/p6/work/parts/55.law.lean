/-! ===== the law's cases: what the reference's cells hold stays so ===== -/
theorem InvR.sm {S : Nat → Prop} {M N : Mem} (h : InvR M) (f : Same S M N) (hs : ∀ k, S k → k ≠ 94 ∧ k ≠ 95 ∧ k ≠ 96) : InvR N := by
  have e94 := f 94 (fun q => (hs _ q).1 rfl)
  exact h.of (by rw [show N.1 95 = M.1 95 from funext (f 95 (fun q => (hs _ q).2.1 rfl)).1]; exact h.1) (funext (f 96 (fun q => (hs _ q).2.2 rfl)).1) (e94.1 3) (e94.1 5)
theorem L_0 {xs : Nat → Int32} {L : Nat} {x4 : Int32} {M : Mem} (hi : ∀ j : Int32, 1 ≤ j → j ≤ 6 → inb (x4 + j) L) (h : InvR M) : wpO (F_LAWc_0 xs L x4 M) InvR := by
  unfold F_LAWc_0
  refine wp_t (hi 1 (by decide) (by decide)) ?_
  refine wp_t (hi 2 (by decide) (by decide)) ?_
  refine wp_t (hi 3 (by decide) (by decide)) ?_
  refine wp_t (hi 4 (by decide) (by decide)) ?_
  refine wp_t (hi 5 (by decide) (by decide)) ?_
  refine wp_bind (T_KW_feed (xs (x4 + 1).toNatClampNeg) (xs (x4 + 2).toNatClampNeg) (xs (x4 + 3).toNatClampNeg) (xs (x4 + 4).toNatClampNeg) (xs (x4 + 5).toNatClampNeg) M) (fun r1 fr1 => ?_)
  have hr1 : InvR r1.2 := h.sm fr1 (fun k q => by first | omega | exact q.elim | (dsimp only at q; omega))
  refine wp_t (hi 1 (by decide) (by decide)) ?_
  refine wp_t (hi 2 (by decide) (by decide)) ?_
  refine wp_t (hi 3 (by decide) (by decide)) ?_
  refine wp_t (hi 4 (by decide) (by decide)) ?_
  refine wp_t (hi 5 (by decide) (by decide)) ?_
  refine wp_bind (K_feed hr1) (fun r2 hr2 => ?_)
  exact wp_some hr2
theorem L_1 {xs : Nat → Int32} {L : Nat} {x4 : Int32} {M : Mem} (hi : ∀ j : Int32, 1 ≤ j → j ≤ 6 → inb (x4 + j) L) (h : InvR M) : wpO (F_LAWc_1 xs L x4 M) InvR := by
  unfold F_LAWc_1
  refine wp_t (hi 1 (by decide) (by decide)) ?_
  refine wp_bind (T_KW_end (xs (x4 + 1).toNatClampNeg) M) (fun r1 fr1 => ?_)
  have hr1 : InvR r1.2 := h.sm fr1 (fun k q => by first | omega | exact q.elim | (dsimp only at q; omega))
  refine wp_t (hi 1 (by decide) (by decide)) ?_
  refine wp_bind (K_end hr1) (fun r2 hr2 => ?_)
  exact wp_some hr2
theorem L_2 {xs : Nat → Int32} {L : Nat} {x4 : Int32} {M : Mem} (hi : ∀ j : Int32, 1 ≤ j → j ≤ 6 → inb (x4 + j) L) (h : InvR M) : wpO (F_LAWc_2 xs L x4 M) InvR := by
  unfold F_LAWc_2
  refine wp_t (hi 1 (by decide) (by decide)) ?_
  refine wp_bind (T_LAW_acts (xs (x4 + 1).toNatClampNeg) M) (fun r1 fr1 => ?_)
  have hr1 : InvR r1.2 := h.sm fr1 (fun k q => by first | omega | exact q.elim | (dsimp only at q; omega))
  refine wp_t (hi 1 (by decide) (by decide)) ?_
  refine wp_bind (K_acts hr1) (fun r2 hr2 => ?_)
  exact wp_some hr2
theorem L_3 {xs : Nat → Int32} {L : Nat} {x4 : Int32} {M : Mem} (hi : ∀ j : Int32, 1 ≤ j → j ≤ 6 → inb (x4 + j) L) (h : InvR M) : wpO (F_LAWc_3 xs L x4 M) InvR := by
  unfold F_LAWc_3
  refine wp_t (hi 1 (by decide) (by decide)) ?_
  refine wp_t (hi 2 (by decide) (by decide)) ?_
  refine wp_t (hi 3 (by decide) (by decide)) ?_
  refine wp_t (hi 4 (by decide) (by decide)) ?_
  refine wp_bind (T_LAW_bring (xs (x4 + 1).toNatClampNeg) (xs (x4 + 2).toNatClampNeg) (xs (x4 + 3).toNatClampNeg) (xs (x4 + 4).toNatClampNeg) M) (fun r1 fr1 => ?_)
  have hr1 : InvR r1.2 := h.sm fr1 (fun k q => by first | omega | exact q.elim | (dsimp only at q; omega))
  refine wp_t (hi 1 (by decide) (by decide)) ?_
  refine wp_t (hi 2 (by decide) (by decide)) ?_
  refine wp_t (hi 3 (by decide) (by decide)) ?_
  refine wp_t (hi 4 (by decide) (by decide)) ?_
  refine wp_bind (K_bring hr1) (fun r2 hr2 => ?_)
  exact wp_some hr2
theorem L_5 {xs : Nat → Int32} {L : Nat} {x4 : Int32} {M : Mem} (hi : ∀ j : Int32, 1 ≤ j → j ≤ 6 → inb (x4 + j) L) (h : InvR M) : wpO (F_LAWc_5 xs L x4 M) InvR := by
  unfold F_LAWc_5
  refine wp_bind (T_LAW_way M) (fun r1 fr1 => ?_)
  have hr1 : InvR r1.2 := h.sm fr1 (fun k q => by first | omega | exact q.elim | (dsimp only at q; omega))
  refine wp_bind (K_way hr1) (fun r2 hr2 => ?_)
  exact wp_some hr2
theorem L_6 {xs : Nat → Int32} {L : Nat} {x4 : Int32} {M : Mem} (hi : ∀ j : Int32, 1 ≤ j → j ≤ 6 → inb (x4 + j) L) (h : InvR M) : wpO (F_LAWc_6 xs L x4 M) InvR := by
  unfold F_LAWc_6
  refine wp_bind (T_KW_fault M) (fun r1 fr1 => ?_)
  refine wp_bind (K_fault h) (fun r2 hr2 => ?_)
  exact wp_some hr2
theorem L_7 {xs : Nat → Int32} {L : Nat} {x4 : Int32} {M : Mem} (hi : ∀ j : Int32, 1 ≤ j → j ≤ 6 → inb (x4 + j) L) (h : InvR M) : wpO (F_LAWc_7 xs L x4 M) InvR := by
  unfold F_LAWc_7
  refine wp_t (hi 1 (by decide) (by decide)) ?_
  refine wp_t (hi 2 (by decide) (by decide)) ?_
  refine wp_t (hi 3 (by decide) (by decide)) ?_
  refine wp_bind (T_LAW_mood (xs (x4 + 1).toNatClampNeg) (xs (x4 + 2).toNatClampNeg) (xs (x4 + 3).toNatClampNeg) M) (fun r1 fr1 => ?_)
  have hr1 : InvR r1.2 := h.sm fr1 (fun k q => by first | omega | exact q.elim | (dsimp only at q; omega))
  refine wp_t (hi 1 (by decide) (by decide)) ?_
  refine wp_t (hi 2 (by decide) (by decide)) ?_
  refine wp_t (hi 3 (by decide) (by decide)) ?_
  refine wp_bind (K_mood hr1) (fun r2 hr2 => ?_)
  exact wp_some hr2
theorem L_8 {xs : Nat → Int32} {L : Nat} {x4 : Int32} {M : Mem} (hi : ∀ j : Int32, 1 ≤ j → j ≤ 6 → inb (x4 + j) L) (h : InvR M) : wpO (F_LAWc_8 xs L x4 M) InvR := by
  unfold F_LAWc_8
  refine wp_t (hi 1 (by decide) (by decide)) ?_
  refine wp_t (hi 2 (by decide) (by decide)) ?_
  refine wp_t (hi 3 (by decide) (by decide)) ?_
  refine wp_t (hi 4 (by decide) (by decide)) ?_
  refine wp_t (hi 5 (by decide) (by decide)) ?_
  refine wp_t (hi 6 (by decide) (by decide)) ?_
  refine wp_if (fun _ => ?_) (fun _ => ?_)
  · unfold F_LAWc_8_j579
    refine wp_bind (T_LAW_worth (xs (x4 + 1).toNatClampNeg) (xs (x4 + 2).toNatClampNeg) (xs (x4 + 3).toNatClampNeg) (xs (x4 + 4).toNatClampNeg) (xs (x4 + 5).toNatClampNeg) ((b2i false)) M) (fun r1_1 fr1_1 => ?_)
    have hr1_1 : InvR r1_1.2 := h.sm fr1_1 (fun k q => by first | omega | exact q.elim | (dsimp only at q; omega))
    refine wp_t (hi 1 (by decide) (by decide)) ?_
    refine wp_t (hi 2 (by decide) (by decide)) ?_
    refine wp_t (hi 3 (by decide) (by decide)) ?_
    refine wp_t (hi 4 (by decide) (by decide)) ?_
    refine wp_t (hi 5 (by decide) (by decide)) ?_
    refine wp_t (hi 6 (by decide) (by decide)) ?_
    refine wp_if (fun _ => ?_) (fun _ => ?_)
    · unfold F_LAWc_8_j631
      refine wp_bind (K_worth hr1_1) (fun r2_2 hr2_2 => ?_)
      exact wp_some hr2_2
    · unfold F_LAWc_8_j631
      refine wp_bind (K_worth hr1_1) (fun r2_3 hr2_3 => ?_)
      exact wp_some hr2_3
  · unfold F_LAWc_8_j579
    refine wp_bind (T_LAW_worth (xs (x4 + 1).toNatClampNeg) (xs (x4 + 2).toNatClampNeg) (xs (x4 + 3).toNatClampNeg) (xs (x4 + 4).toNatClampNeg) (xs (x4 + 5).toNatClampNeg) ((b2i true)) M) (fun r1_4 fr1_4 => ?_)
    have hr1_4 : InvR r1_4.2 := h.sm fr1_4 (fun k q => by first | omega | exact q.elim | (dsimp only at q; omega))
    refine wp_t (hi 1 (by decide) (by decide)) ?_
    refine wp_t (hi 2 (by decide) (by decide)) ?_
    refine wp_t (hi 3 (by decide) (by decide)) ?_
    refine wp_t (hi 4 (by decide) (by decide)) ?_
    refine wp_t (hi 5 (by decide) (by decide)) ?_
    refine wp_t (hi 6 (by decide) (by decide)) ?_
    refine wp_if (fun _ => ?_) (fun _ => ?_)
    · unfold F_LAWc_8_j631
      refine wp_bind (K_worth hr1_4) (fun r2_5 hr2_5 => ?_)
      exact wp_some hr2_5
    · unfold F_LAWc_8_j631
      refine wp_bind (K_worth hr1_4) (fun r2_6 hr2_6 => ?_)
      exact wp_some hr2_6
theorem L_9 {xs : Nat → Int32} {L : Nat} {x4 : Int32} {M : Mem} (hi : ∀ j : Int32, 1 ≤ j → j ≤ 6 → inb (x4 + j) L) (h : InvR M) : wpO (F_LAWc_9 xs L x4 M) InvR := by
  unfold F_LAWc_9
  refine wp_t (hi 1 (by decide) (by decide)) ?_
  refine wp_t (hi 2 (by decide) (by decide)) ?_
  refine wp_bind (T_LAW_hold (xs (x4 + 1).toNatClampNeg) (xs (x4 + 2).toNatClampNeg) M) (fun r1 fr1 => ?_)
  have hr1 : InvR r1.2 := h.sm fr1 (fun k q => by first | omega | exact q.elim | (dsimp only at q; omega))
  refine wp_t (hi 1 (by decide) (by decide)) ?_
  refine wp_t (hi 2 (by decide) (by decide)) ?_
  refine wp_bind (K_hold hr1) (fun r2 hr2 => ?_)
  exact wp_some hr2
theorem L_10 {xs : Nat → Int32} {L : Nat} {x4 : Int32} {M : Mem} (hi : ∀ j : Int32, 1 ≤ j → j ≤ 6 → inb (x4 + j) L) (h : InvR M) : wpO (F_LAWc_10 xs L x4 M) InvR := by
  unfold F_LAWc_10
  refine wp_t (hi 1 (by decide) (by decide)) ?_
  refine wp_t (hi 2 (by decide) (by decide)) ?_
  refine wp_bind (T_LAW_first (xs (x4 + 1).toNatClampNeg) (xs (x4 + 2).toNatClampNeg) M) (fun r1 fr1 => ?_)
  have hr1 : InvR r1.2 := h.sm fr1 (fun k q => by first | omega | exact q.elim | (dsimp only at q; omega))
  refine wp_t (hi 1 (by decide) (by decide)) ?_
  refine wp_t (hi 2 (by decide) (by decide)) ?_
  refine wp_bind (K_first hr1) (fun r2 hr2 => ?_)
  exact wp_some hr2
theorem L_11 {xs : Nat → Int32} {L : Nat} {x4 : Int32} {M : Mem} (hi : ∀ j : Int32, 1 ≤ j → j ≤ 6 → inb (x4 + j) L) (h : InvR M) : wpO (F_LAWc_11 xs L x4 M) InvR := by
  unfold F_LAWc_11
  refine wp_t (hi 1 (by decide) (by decide)) ?_
  refine wp_t (hi 2 (by decide) (by decide)) ?_
  refine wp_t (hi 3 (by decide) (by decide)) ?_
  refine wp_bind (T_LAW_best (xs (x4 + 1).toNatClampNeg) (xs (x4 + 2).toNatClampNeg) (xs (x4 + 3).toNatClampNeg) M) (fun r1 fr1 => ?_)
  have hr1 : InvR r1.2 := h.sm fr1 (fun k q => by first | omega | exact q.elim | (dsimp only at q; omega))
  refine wp_t (hi 1 (by decide) (by decide)) ?_
  refine wp_t (hi 2 (by decide) (by decide)) ?_
  refine wp_t (hi 3 (by decide) (by decide)) ?_
  refine wp_bind (K_best hr1) (fun r2 hr2 => ?_)
  exact wp_some hr2
theorem L_12 {xs : Nat → Int32} {L : Nat} {x4 : Int32} {M : Mem} (hi : ∀ j : Int32, 1 ≤ j → j ≤ 6 → inb (x4 + j) L) (h : InvR M) : wpO (F_LAWc_12 xs L x4 M) InvR := by
  unfold F_LAWc_12
  refine wp_t (hi 1 (by decide) (by decide)) ?_
  refine wp_t (hi 2 (by decide) (by decide)) ?_
  refine wp_t (hi 3 (by decide) (by decide)) ?_
  refine wp_t (hi 4 (by decide) (by decide)) ?_
  refine wp_if (fun _ => ?_) (fun _ => ?_)
  · unfold F_LAWc_12_j804
    refine wp_bind (T_LAW_answer (xs (x4 + 1).toNatClampNeg) (xs (x4 + 2).toNatClampNeg) (xs (x4 + 3).toNatClampNeg) ((b2i false)) M) (fun r1_7 fr1_7 => ?_)
    have hr1_7 : InvR r1_7.2 := h.sm fr1_7 (fun k q => by first | omega | exact q.elim | (dsimp only at q; omega))
    refine wp_t (hi 1 (by decide) (by decide)) ?_
    refine wp_t (hi 2 (by decide) (by decide)) ?_
    refine wp_t (hi 3 (by decide) (by decide)) ?_
    refine wp_t (hi 4 (by decide) (by decide)) ?_
    refine wp_if (fun _ => ?_) (fun _ => ?_)
    · unfold F_LAWc_12_j843
      refine wp_bind (K_answer hr1_7) (fun r2_8 hr2_8 => ?_)
      exact wp_some hr2_8
    · unfold F_LAWc_12_j843
      refine wp_bind (K_answer hr1_7) (fun r2_9 hr2_9 => ?_)
      exact wp_some hr2_9
  · unfold F_LAWc_12_j804
    refine wp_bind (T_LAW_answer (xs (x4 + 1).toNatClampNeg) (xs (x4 + 2).toNatClampNeg) (xs (x4 + 3).toNatClampNeg) ((b2i true)) M) (fun r1_10 fr1_10 => ?_)
    have hr1_10 : InvR r1_10.2 := h.sm fr1_10 (fun k q => by first | omega | exact q.elim | (dsimp only at q; omega))
    refine wp_t (hi 1 (by decide) (by decide)) ?_
    refine wp_t (hi 2 (by decide) (by decide)) ?_
    refine wp_t (hi 3 (by decide) (by decide)) ?_
    refine wp_t (hi 4 (by decide) (by decide)) ?_
    refine wp_if (fun _ => ?_) (fun _ => ?_)
    · unfold F_LAWc_12_j843
      refine wp_bind (K_answer hr1_10) (fun r2_11 hr2_11 => ?_)
      exact wp_some hr2_11
    · unfold F_LAWc_12_j843
      refine wp_bind (K_answer hr1_10) (fun r2_12 hr2_12 => ?_)
      exact wp_some hr2_12
theorem L_13 {xs : Nat → Int32} {L : Nat} {x4 : Int32} {M : Mem} (hi : ∀ j : Int32, 1 ≤ j → j ≤ 6 → inb (x4 + j) L) (h : InvR M) : wpO (F_LAWc_13 xs L x4 M) InvR := by
  unfold F_LAWc_13
  refine wp_t (hi 1 (by decide) (by decide)) ?_
  refine wp_t (hi 2 (by decide) (by decide)) ?_
  refine wp_if (fun _ => ?_) (fun _ => ?_)
  · unfold F_LAWc_13_j872
    refine wp_bind (T_LAW_least (xs (x4 + 1).toNatClampNeg) ((b2i false)) M) (fun r1_13 fr1_13 => ?_)
    have hr1_13 : InvR r1_13.2 := h.sm fr1_13 (fun k q => by first | omega | exact q.elim | (dsimp only at q; omega))
    refine wp_t (hi 1 (by decide) (by decide)) ?_
    refine wp_t (hi 2 (by decide) (by decide)) ?_
    refine wp_if (fun _ => ?_) (fun _ => ?_)
    · unfold F_LAWc_13_j899
      refine wp_bind (K_least hr1_13) (fun r2_14 hr2_14 => ?_)
      exact wp_some hr2_14
    · unfold F_LAWc_13_j899
      refine wp_bind (K_least hr1_13) (fun r2_15 hr2_15 => ?_)
      exact wp_some hr2_15
  · unfold F_LAWc_13_j872
    refine wp_bind (T_LAW_least (xs (x4 + 1).toNatClampNeg) ((b2i true)) M) (fun r1_16 fr1_16 => ?_)
    have hr1_16 : InvR r1_16.2 := h.sm fr1_16 (fun k q => by first | omega | exact q.elim | (dsimp only at q; omega))
    refine wp_t (hi 1 (by decide) (by decide)) ?_
    refine wp_t (hi 2 (by decide) (by decide)) ?_
    refine wp_if (fun _ => ?_) (fun _ => ?_)
    · unfold F_LAWc_13_j899
      refine wp_bind (K_least hr1_16) (fun r2_17 hr2_17 => ?_)
      exact wp_some hr2_17
    · unfold F_LAWc_13_j899
      refine wp_bind (K_least hr1_16) (fun r2_18 hr2_18 => ?_)
      exact wp_some hr2_18
theorem L_14 {xs : Nat → Int32} {L : Nat} {x4 : Int32} {M : Mem} (hi : ∀ j : Int32, 1 ≤ j → j ≤ 6 → inb (x4 + j) L) (h : InvR M) : wpO (F_LAWc_14 xs L x4 M) InvR := by
  unfold F_LAWc_14
  refine wp_t (hi 1 (by decide) (by decide)) ?_
  refine wp_t (hi 2 (by decide) (by decide)) ?_
  refine wp_if (fun _ => ?_) (fun _ => ?_)
  · unfold F_LAWc_14_j928
    refine wp_bind (T_LAW_lots (xs (x4 + 1).toNatClampNeg) ((b2i false)) M) (fun r1_19 fr1_19 => ?_)
    have hr1_19 : InvR r1_19.2 := h.sm fr1_19 (fun k q => by first | omega | exact q.elim | (dsimp only at q; omega))
    refine wp_t (hi 1 (by decide) (by decide)) ?_
    refine wp_t (hi 2 (by decide) (by decide)) ?_
    refine wp_if (fun _ => ?_) (fun _ => ?_)
    · unfold F_LAWc_14_j955
      refine wp_bind (K_lots hr1_19) (fun r2_20 hr2_20 => ?_)
      exact wp_some hr2_20
    · unfold F_LAWc_14_j955
      refine wp_bind (K_lots hr1_19) (fun r2_21 hr2_21 => ?_)
      exact wp_some hr2_21
  · unfold F_LAWc_14_j928
    refine wp_bind (T_LAW_lots (xs (x4 + 1).toNatClampNeg) ((b2i true)) M) (fun r1_22 fr1_22 => ?_)
    have hr1_22 : InvR r1_22.2 := h.sm fr1_22 (fun k q => by first | omega | exact q.elim | (dsimp only at q; omega))
    refine wp_t (hi 1 (by decide) (by decide)) ?_
    refine wp_t (hi 2 (by decide) (by decide)) ?_
    refine wp_if (fun _ => ?_) (fun _ => ?_)
    · unfold F_LAWc_14_j955
      refine wp_bind (K_lots hr1_22) (fun r2_23 hr2_23 => ?_)
      exact wp_some hr2_23
    · unfold F_LAWc_14_j955
      refine wp_bind (K_lots hr1_22) (fun r2_24 hr2_24 => ?_)
      exact wp_some hr2_24
theorem L_15 {xs : Nat → Int32} {L : Nat} {x4 : Int32} {M : Mem} (hi : ∀ j : Int32, 1 ≤ j → j ≤ 6 → inb (x4 + j) L) (h : InvR M) : wpO (F_LAWc_15 xs L x4 M) InvR := by
  unfold F_LAWc_15
  refine wp_bind (T_KW_once M) (fun r1 fr1 => ?_)
  refine wp_bind (K_once h) (fun r2 hr2 => ?_)
  exact wp_some hr2
theorem L_16 {xs : Nat → Int32} {L : Nat} {x4 : Int32} {M : Mem} (hi : ∀ j : Int32, 1 ≤ j → j ≤ 6 → inb (x4 + j) L) (h : InvR M) : wpO (F_LAWc_16 xs L x4 M) InvR := by
  unfold F_LAWc_16
  refine wp_t (hi 1 (by decide) (by decide)) ?_
  refine wp_t (hi 2 (by decide) (by decide)) ?_
  refine wp_if (fun _ => ?_) (fun _ => ?_)
  · unfold F_LAWc_16_j997
    refine wp_bind (T_KW_corner (xs (x4 + 1).toNatClampNeg) ((b2i false)) M) (fun r1_25 fr1_25 => ?_)
    have hr1_25 : InvR r1_25.2 := h.sm fr1_25 (fun k q => by first | omega | exact q.elim | (dsimp only at q; omega))
    refine wp_t (hi 1 (by decide) (by decide)) ?_
    refine wp_t (hi 2 (by decide) (by decide)) ?_
    refine wp_if (fun _ => ?_) (fun _ => ?_)
    · unfold F_LAWc_16_j1022
      refine wp_bind (K_corner hr1_25) (fun r2_26 hr2_26 => ?_)
      exact wp_some hr2_26
    · unfold F_LAWc_16_j1022
      refine wp_bind (K_corner hr1_25) (fun r2_27 hr2_27 => ?_)
      exact wp_some hr2_27
  · unfold F_LAWc_16_j997
    refine wp_bind (T_KW_corner (xs (x4 + 1).toNatClampNeg) ((b2i true)) M) (fun r1_28 fr1_28 => ?_)
    have hr1_28 : InvR r1_28.2 := h.sm fr1_28 (fun k q => by first | omega | exact q.elim | (dsimp only at q; omega))
    refine wp_t (hi 1 (by decide) (by decide)) ?_
    refine wp_t (hi 2 (by decide) (by decide)) ?_
    refine wp_if (fun _ => ?_) (fun _ => ?_)
    · unfold F_LAWc_16_j1022
      refine wp_bind (K_corner hr1_28) (fun r2_29 hr2_29 => ?_)
      exact wp_some hr2_29
    · unfold F_LAWc_16_j1022
      refine wp_bind (K_corner hr1_28) (fun r2_30 hr2_30 => ?_)
      exact wp_some hr2_30
theorem L_17 {xs : Nat → Int32} {L : Nat} {x4 : Int32} {M : Mem} (hi : ∀ j : Int32, 1 ≤ j → j ≤ 6 → inb (x4 + j) L) (h : InvR M) : wpO (F_LAWc_17 xs L x4 M) InvR := by
  unfold F_LAWc_17
  refine wp_t (hi 1 (by decide) (by decide)) ?_
  refine wp_t (hi 2 (by decide) (by decide)) ?_
  refine wp_t (hi 3 (by decide) (by decide)) ?_
  refine wp_t (hi 4 (by decide) (by decide)) ?_
  refine wp_if (fun _ => ?_) (fun _ => ?_)
  · unfold F_LAWc_17_j1062
    refine wp_bind (T_LAW_in (xs (x4 + 1).toNatClampNeg) (xs (x4 + 2).toNatClampNeg) (xs (x4 + 3).toNatClampNeg) ((b2i false)) M) (fun r1_31 fr1_31 => ?_)
    have hr1_31 : InvR r1_31.2 := h.sm fr1_31 (fun k q => by first | omega | exact q.elim | (dsimp only at q; omega))
    refine wp_t (hi 1 (by decide) (by decide)) ?_
    refine wp_t (hi 2 (by decide) (by decide)) ?_
    refine wp_t (hi 3 (by decide) (by decide)) ?_
    refine wp_t (hi 4 (by decide) (by decide)) ?_
    refine wp_if (fun _ => ?_) (fun _ => ?_)
    · unfold F_LAWc_17_j1101
      refine wp_bind (K_in hr1_31) (fun r2_32 hr2_32 => ?_)
      exact wp_some hr2_32
    · unfold F_LAWc_17_j1101
      refine wp_bind (K_in hr1_31) (fun r2_33 hr2_33 => ?_)
      exact wp_some hr2_33
  · unfold F_LAWc_17_j1062
    refine wp_bind (T_LAW_in (xs (x4 + 1).toNatClampNeg) (xs (x4 + 2).toNatClampNeg) (xs (x4 + 3).toNatClampNeg) ((b2i true)) M) (fun r1_34 fr1_34 => ?_)
    have hr1_34 : InvR r1_34.2 := h.sm fr1_34 (fun k q => by first | omega | exact q.elim | (dsimp only at q; omega))
    refine wp_t (hi 1 (by decide) (by decide)) ?_
    refine wp_t (hi 2 (by decide) (by decide)) ?_
    refine wp_t (hi 3 (by decide) (by decide)) ?_
    refine wp_t (hi 4 (by decide) (by decide)) ?_
    refine wp_if (fun _ => ?_) (fun _ => ?_)
    · unfold F_LAWc_17_j1101
      refine wp_bind (K_in hr1_34) (fun r2_35 hr2_35 => ?_)
      exact wp_some hr2_35
    · unfold F_LAWc_17_j1101
      refine wp_bind (K_in hr1_34) (fun r2_36 hr2_36 => ?_)
      exact wp_some hr2_36
theorem L_18 {xs : Nat → Int32} {L : Nat} {x4 : Int32} {M : Mem} (hi : ∀ j : Int32, 1 ≤ j → j ≤ 6 → inb (x4 + j) L) (h : InvR M) : wpO (F_LAWc_18 xs L x4 M) InvR := by
  unfold F_LAWc_18
  refine wp_t (hi 1 (by decide) (by decide)) ?_
  refine wp_t (hi 2 (by decide) (by decide)) ?_
  refine wp_t (hi 3 (by decide) (by decide)) ?_
  refine wp_t (hi 4 (by decide) (by decide)) ?_
  refine wp_bind (T_LAW_mild (xs (x4 + 1).toNatClampNeg) (xs (x4 + 2).toNatClampNeg) (xs (x4 + 3).toNatClampNeg) (xs (x4 + 4).toNatClampNeg) M) (fun r1 fr1 => ?_)
  have hr1 : InvR r1.2 := h.sm fr1 (fun k q => by first | omega | exact q.elim | (dsimp only at q; omega))
  refine wp_t (hi 1 (by decide) (by decide)) ?_
  refine wp_t (hi 2 (by decide) (by decide)) ?_
  refine wp_t (hi 3 (by decide) (by decide)) ?_
  refine wp_t (hi 4 (by decide) (by decide)) ?_
  refine wp_bind (K_mild hr1) (fun r2 hr2 => ?_)
  exact wp_some hr2
theorem L_19 {xs : Nat → Int32} {L : Nat} {x4 : Int32} {M : Mem} (hi : ∀ j : Int32, 1 ≤ j → j ≤ 6 → inb (x4 + j) L) (h : InvR M) : wpO (F_LAWc_19 xs L x4 M) InvR := by
  unfold F_LAWc_19
  refine wp_t (hi 1 (by decide) (by decide)) ?_
  refine wp_t (hi 2 (by decide) (by decide)) ?_
  refine wp_t (hi 3 (by decide) (by decide)) ?_
  refine wp_bind (T_LAW_edge (xs (x4 + 1).toNatClampNeg) (xs (x4 + 2).toNatClampNeg) (xs (x4 + 3).toNatClampNeg) M) (fun r1 fr1 => ?_)
  have hr1 : InvR r1.2 := h.sm fr1 (fun k q => by first | omega | exact q.elim | (dsimp only at q; omega))
  refine wp_t (hi 1 (by decide) (by decide)) ?_
  refine wp_t (hi 2 (by decide) (by decide)) ?_
  refine wp_t (hi 3 (by decide) (by decide)) ?_
  refine wp_bind (K_edge hr1) (fun r2 hr2 => ?_)
  exact wp_some hr2
theorem L_20 {xs : Nat → Int32} {L : Nat} {x4 : Int32} {M : Mem} (hi : ∀ j : Int32, 1 ≤ j → j ≤ 6 → inb (x4 + j) L) (h : InvR M) : wpO (F_LAWc_20 xs L x4 M) InvR := by
  unfold F_LAWc_20
  refine wp_bind (T_KW_together M) (fun r1 fr1 => ?_)
  have hr1 : InvR r1.2 := h.sm fr1 (fun k q => by first | omega | exact q.elim | (dsimp only at q; omega))
  refine wp_bind (K_together hr1) (fun r2 hr2 => ?_)
  exact wp_some hr2
theorem L_21 {xs : Nat → Int32} {L : Nat} {x4 : Int32} {M : Mem} (hi : ∀ j : Int32, 1 ≤ j → j ≤ 6 → inb (x4 + j) L) (h : InvR M) : wpO (F_LAWc_21 xs L x4 M) InvR := by
  unfold F_LAWc_21
  refine wp_t (hi 1 (by decide) (by decide)) ?_
  refine wp_t (hi 2 (by decide) (by decide)) ?_
  refine wp_bind (T_LAW_mistakes (xs (x4 + 1).toNatClampNeg) (xs (x4 + 2).toNatClampNeg) M) (fun r1 fr1 => ?_)
  have hr1 : InvR r1.2 := h.sm fr1 (fun k q => by first | omega | exact q.elim | (dsimp only at q; omega))
  refine wp_t (hi 1 (by decide) (by decide)) ?_
  refine wp_t (hi 2 (by decide) (by decide)) ?_
  refine wp_bind (K_mistakes hr1) (fun r2 hr2 => ?_)
  exact wp_some hr2
theorem L_22 {xs : Nat → Int32} {L : Nat} {x4 : Int32} {M : Mem} (hi : ∀ j : Int32, 1 ≤ j → j ≤ 6 → inb (x4 + j) L) (h : InvR M) : wpO (F_LAWc_22 xs L x4 M) InvR := by
  unfold F_LAWc_22
  refine wp_t (hi 1 (by decide) (by decide)) ?_
  refine wp_t (hi 2 (by decide) (by decide)) ?_
  refine wp_t (hi 3 (by decide) (by decide)) ?_
  refine wp_t (hi 4 (by decide) (by decide)) ?_
  refine wp_if (fun _ => ?_) (fun _ => ?_)
  · unfold F_LAWc_22_j1308
    refine wp_t (hi 5 (by decide) (by decide)) ?_
    refine wp_if (fun _ => ?_) (fun _ => ?_)
    · unfold F_LAWc_22_j1322
      refine wp_bind (T_LAW_doubt (xs (x4 + 1).toNatClampNeg) (xs (x4 + 2).toNatClampNeg) (xs (x4 + 3).toNatClampNeg) ((b2i false)) ((b2i false)) M) (fun r1_37 fr1_37 => ?_)
      have hr1_37 : InvR r1_37.2 := h.sm fr1_37 (fun k q => by first | omega | exact q.elim | (dsimp only at q; omega))
      refine wp_t (hi 1 (by decide) (by decide)) ?_
      refine wp_t (hi 2 (by decide) (by decide)) ?_
      refine wp_t (hi 3 (by decide) (by decide)) ?_
      refine wp_t (hi 4 (by decide) (by decide)) ?_
      refine wp_if (fun _ => ?_) (fun _ => ?_)
      · unfold F_LAWc_22_j1361
        refine wp_t (hi 5 (by decide) (by decide)) ?_
        refine wp_if (fun _ => ?_) (fun _ => ?_)
        · unfold F_LAWc_22_j1375
          refine wp_bind (K_doubt hr1_37) (fun r2_38 hr2_38 => ?_)
          exact wp_some hr2_38
        · unfold F_LAWc_22_j1375
          refine wp_bind (K_doubt hr1_37) (fun r2_39 hr2_39 => ?_)
          exact wp_some hr2_39
      · unfold F_LAWc_22_j1361
        refine wp_t (hi 5 (by decide) (by decide)) ?_
        refine wp_if (fun _ => ?_) (fun _ => ?_)
        · unfold F_LAWc_22_j1375
          refine wp_bind (K_doubt hr1_37) (fun r2_40 hr2_40 => ?_)
          exact wp_some hr2_40
        · unfold F_LAWc_22_j1375
          refine wp_bind (K_doubt hr1_37) (fun r2_41 hr2_41 => ?_)
          exact wp_some hr2_41
    · unfold F_LAWc_22_j1322
      refine wp_bind (T_LAW_doubt (xs (x4 + 1).toNatClampNeg) (xs (x4 + 2).toNatClampNeg) (xs (x4 + 3).toNatClampNeg) ((b2i false)) ((b2i true)) M) (fun r1_42 fr1_42 => ?_)
      have hr1_42 : InvR r1_42.2 := h.sm fr1_42 (fun k q => by first | omega | exact q.elim | (dsimp only at q; omega))
      refine wp_t (hi 1 (by decide) (by decide)) ?_
      refine wp_t (hi 2 (by decide) (by decide)) ?_
      refine wp_t (hi 3 (by decide) (by decide)) ?_
      refine wp_t (hi 4 (by decide) (by decide)) ?_
      refine wp_if (fun _ => ?_) (fun _ => ?_)
      · unfold F_LAWc_22_j1361
        refine wp_t (hi 5 (by decide) (by decide)) ?_
        refine wp_if (fun _ => ?_) (fun _ => ?_)
        · unfold F_LAWc_22_j1375
          refine wp_bind (K_doubt hr1_42) (fun r2_43 hr2_43 => ?_)
          exact wp_some hr2_43
        · unfold F_LAWc_22_j1375
          refine wp_bind (K_doubt hr1_42) (fun r2_44 hr2_44 => ?_)
          exact wp_some hr2_44
      · unfold F_LAWc_22_j1361
        refine wp_t (hi 5 (by decide) (by decide)) ?_
        refine wp_if (fun _ => ?_) (fun _ => ?_)
        · unfold F_LAWc_22_j1375
          refine wp_bind (K_doubt hr1_42) (fun r2_45 hr2_45 => ?_)
          exact wp_some hr2_45
        · unfold F_LAWc_22_j1375
          refine wp_bind (K_doubt hr1_42) (fun r2_46 hr2_46 => ?_)
          exact wp_some hr2_46
  · unfold F_LAWc_22_j1308
    refine wp_t (hi 5 (by decide) (by decide)) ?_
    refine wp_if (fun _ => ?_) (fun _ => ?_)
    · unfold F_LAWc_22_j1322
      refine wp_bind (T_LAW_doubt (xs (x4 + 1).toNatClampNeg) (xs (x4 + 2).toNatClampNeg) (xs (x4 + 3).toNatClampNeg) ((b2i true)) ((b2i false)) M) (fun r1_47 fr1_47 => ?_)
      have hr1_47 : InvR r1_47.2 := h.sm fr1_47 (fun k q => by first | omega | exact q.elim | (dsimp only at q; omega))
      refine wp_t (hi 1 (by decide) (by decide)) ?_
      refine wp_t (hi 2 (by decide) (by decide)) ?_
      refine wp_t (hi 3 (by decide) (by decide)) ?_
      refine wp_t (hi 4 (by decide) (by decide)) ?_
      refine wp_if (fun _ => ?_) (fun _ => ?_)
      · unfold F_LAWc_22_j1361
        refine wp_t (hi 5 (by decide) (by decide)) ?_
        refine wp_if (fun _ => ?_) (fun _ => ?_)
        · unfold F_LAWc_22_j1375
          refine wp_bind (K_doubt hr1_47) (fun r2_48 hr2_48 => ?_)
          exact wp_some hr2_48
        · unfold F_LAWc_22_j1375
          refine wp_bind (K_doubt hr1_47) (fun r2_49 hr2_49 => ?_)
          exact wp_some hr2_49
      · unfold F_LAWc_22_j1361
        refine wp_t (hi 5 (by decide) (by decide)) ?_
        refine wp_if (fun _ => ?_) (fun _ => ?_)
        · unfold F_LAWc_22_j1375
          refine wp_bind (K_doubt hr1_47) (fun r2_50 hr2_50 => ?_)
          exact wp_some hr2_50
        · unfold F_LAWc_22_j1375
          refine wp_bind (K_doubt hr1_47) (fun r2_51 hr2_51 => ?_)
          exact wp_some hr2_51
    · unfold F_LAWc_22_j1322
      refine wp_bind (T_LAW_doubt (xs (x4 + 1).toNatClampNeg) (xs (x4 + 2).toNatClampNeg) (xs (x4 + 3).toNatClampNeg) ((b2i true)) ((b2i true)) M) (fun r1_52 fr1_52 => ?_)
      have hr1_52 : InvR r1_52.2 := h.sm fr1_52 (fun k q => by first | omega | exact q.elim | (dsimp only at q; omega))
      refine wp_t (hi 1 (by decide) (by decide)) ?_
      refine wp_t (hi 2 (by decide) (by decide)) ?_
      refine wp_t (hi 3 (by decide) (by decide)) ?_
      refine wp_t (hi 4 (by decide) (by decide)) ?_
      refine wp_if (fun _ => ?_) (fun _ => ?_)
      · unfold F_LAWc_22_j1361
        refine wp_t (hi 5 (by decide) (by decide)) ?_
        refine wp_if (fun _ => ?_) (fun _ => ?_)
        · unfold F_LAWc_22_j1375
          refine wp_bind (K_doubt hr1_52) (fun r2_53 hr2_53 => ?_)
          exact wp_some hr2_53
        · unfold F_LAWc_22_j1375
          refine wp_bind (K_doubt hr1_52) (fun r2_54 hr2_54 => ?_)
          exact wp_some hr2_54
      · unfold F_LAWc_22_j1361
        refine wp_t (hi 5 (by decide) (by decide)) ?_
        refine wp_if (fun _ => ?_) (fun _ => ?_)
        · unfold F_LAWc_22_j1375
          refine wp_bind (K_doubt hr1_52) (fun r2_55 hr2_55 => ?_)
          exact wp_some hr2_55
        · unfold F_LAWc_22_j1375
          refine wp_bind (K_doubt hr1_52) (fun r2_56 hr2_56 => ?_)
          exact wp_some hr2_56
theorem L_23 {xs : Nat → Int32} {L : Nat} {x4 : Int32} {M : Mem} (hi : ∀ j : Int32, 1 ≤ j → j ≤ 6 → inb (x4 + j) L) (h : InvR M) : wpO (F_LAWc_23 xs L x4 M) InvR := by
  unfold F_LAWc_23
  refine wp_bind (T_LAW_row M) (fun r1 fr1 => ?_)
  have hr1 : InvR r1.2 := h.sm fr1 (fun k q => by first | omega | exact q.elim | (dsimp only at q; omega))
  refine wp_bind (K_row hr1) (fun r2 hr2 => ?_)
  exact wp_some hr2
theorem L_24 {xs : Nat → Int32} {L : Nat} {x4 : Int32} {M : Mem} (hi : ∀ j : Int32, 1 ≤ j → j ≤ 6 → inb (x4 + j) L) (h : InvR M) : wpO (F_LAWc_24 xs L x4 M) InvR := by
  unfold F_LAWc_24
  refine wp_t (hi 1 (by decide) (by decide)) ?_
  refine wp_t (hi 2 (by decide) (by decide)) ?_
  refine wp_bind (T_LAW_judge (xs (x4 + 1).toNatClampNeg) (xs (x4 + 2).toNatClampNeg) M) (fun r1 fr1 => ?_)
  have hr1 : InvR r1.2 := h.sm fr1 (fun k q => by first | omega | exact q.elim | (dsimp only at q; omega))
  refine wp_t (hi 1 (by decide) (by decide)) ?_
  refine wp_t (hi 2 (by decide) (by decide)) ?_
  refine wp_bind (K_judge hr1) (fun r2 hr2 => ?_)
  exact wp_some hr2
theorem L_25 {xs : Nat → Int32} {L : Nat} {x4 : Int32} {M : Mem} (hi : ∀ j : Int32, 1 ≤ j → j ≤ 6 → inb (x4 + j) L) (h : InvR M) : wpO (F_LAWc_25 xs L x4 M) InvR := by
  unfold F_LAWc_25
  refine wp_t (hi 1 (by decide) (by decide)) ?_
  refine wp_bind (T_LAW_brought (xs (x4 + 1).toNatClampNeg) M) (fun r1 fr1 => ?_)
  have hr1 : InvR r1.2 := h.sm fr1 (fun k q => by first | omega | exact q.elim | (dsimp only at q; omega))
  refine wp_t (hi 1 (by decide) (by decide)) ?_
  refine wp_bind (K_brought hr1) (fun r2 hr2 => ?_)
  exact wp_some hr2
theorem L_26 {xs : Nat → Int32} {L : Nat} {x4 : Int32} {M : Mem} (hi : ∀ j : Int32, 1 ≤ j → j ≤ 6 → inb (x4 + j) L) (h : InvR M) : wpO (F_LAWc_26 xs L x4 M) InvR := by
  unfold F_LAWc_26
  refine wp_t (hi 1 (by decide) (by decide)) ?_
  refine wp_t (hi 2 (by decide) (by decide)) ?_
  refine wp_t (hi 3 (by decide) (by decide)) ?_
  refine wp_t (hi 4 (by decide) (by decide)) ?_
  refine wp_t (hi 5 (by decide) (by decide)) ?_
  refine wp_bind (T_LAW_drawn (xs (x4 + 1).toNatClampNeg) (xs (x4 + 2).toNatClampNeg) (xs (x4 + 3).toNatClampNeg) (xs (x4 + 4).toNatClampNeg) (xs (x4 + 5).toNatClampNeg) M) (fun r1 fr1 => ?_)
  have hr1 : InvR r1.2 := h.sm fr1 (fun k q => by first | omega | exact q.elim | (dsimp only at q; omega))
  refine wp_t (hi 1 (by decide) (by decide)) ?_
  refine wp_t (hi 2 (by decide) (by decide)) ?_
  refine wp_t (hi 3 (by decide) (by decide)) ?_
  refine wp_t (hi 4 (by decide) (by decide)) ?_
  refine wp_t (hi 5 (by decide) (by decide)) ?_
  refine wp_bind (K_drawn hr1) (fun r2 hr2 => ?_)
  exact wp_some hr2
theorem L_27 {xs : Nat → Int32} {L : Nat} {x4 : Int32} {M : Mem} (hi : ∀ j : Int32, 1 ≤ j → j ≤ 6 → inb (x4 + j) L) (h : InvR M) : wpO (F_LAWc_27 xs L x4 M) InvR := by
  unfold F_LAWc_27
  refine wp_t (hi 1 (by decide) (by decide)) ?_
  refine wp_t (hi 2 (by decide) (by decide)) ?_
  refine wp_bind (T_LAW_field (xs (x4 + 1).toNatClampNeg) (xs (x4 + 2).toNatClampNeg) M) (fun r1 fr1 => ?_)
  have hr1 : InvR r1.2 := h.sm fr1 (fun k q => by first | omega | exact q.elim | (dsimp only at q; omega))
  refine wp_t (hi 1 (by decide) (by decide)) ?_
  refine wp_t (hi 2 (by decide) (by decide)) ?_
  refine wp_bind (K_field hr1) (fun r2 hr2 => ?_)
  exact wp_some hr2
theorem L_28 {xs : Nat → Int32} {L : Nat} {x4 : Int32} {M : Mem} (hi : ∀ j : Int32, 1 ≤ j → j ≤ 6 → inb (x4 + j) L) (h : InvR M) : wpO (F_LAWc_28 xs L x4 M) InvR := by
  unfold F_LAWc_28
  refine wp_t (hi 1 (by decide) (by decide)) ?_
  refine wp_bind (T_LAW_rounds (xs (x4 + 1).toNatClampNeg) M) (fun r1 fr1 => ?_)
  have hr1 : InvR r1.2 := h.sm fr1 (fun k q => by first | omega | exact q.elim | (dsimp only at q; omega))
  refine wp_t (hi 1 (by decide) (by decide)) ?_
  refine wp_bind (K_rounds hr1) (fun r2 hr2 => ?_)
  exact wp_some hr2
theorem L_29 {xs : Nat → Int32} {L : Nat} {x4 : Int32} {M : Mem} (hi : ∀ j : Int32, 1 ≤ j → j ≤ 6 → inb (x4 + j) L) (h : InvR M) : wpO (F_LAWc_29 xs L x4 M) InvR := by
  unfold F_LAWc_29
  refine wp_t (hi 1 (by decide) (by decide)) ?_
  refine wp_t (hi 2 (by decide) (by decide)) ?_
  refine wp_bind (T_LAW_meet (xs (x4 + 1).toNatClampNeg) (xs (x4 + 2).toNatClampNeg) M) (fun r1 fr1 => ?_)
  have hr1 : InvR r1.2 := h.sm fr1 (fun k q => by first | omega | exact q.elim | (dsimp only at q; omega))
  refine wp_t (hi 1 (by decide) (by decide)) ?_
  refine wp_t (hi 2 (by decide) (by decide)) ?_
  refine wp_bind (K_meet hr1) (fun r2 hr2 => ?_)
  exact wp_some hr2
theorem L_30 {xs : Nat → Int32} {L : Nat} {x4 : Int32} {M : Mem} (hi : ∀ j : Int32, 1 ≤ j → j ≤ 6 → inb (x4 + j) L) (h : InvR M) : wpO (F_LAWc_30 xs L x4 M) InvR := by
  unfold F_LAWc_30
  refine wp_t (hi 1 (by decide) (by decide)) ?_
  refine wp_bind (T_LAW_grow (xs (x4 + 1).toNatClampNeg) M) (fun r1 fr1 => ?_)
  have hr1 : InvR r1.2 := h.sm fr1 (fun k q => by first | omega | exact q.elim | (dsimp only at q; omega))
  refine wp_t (hi 1 (by decide) (by decide)) ?_
  refine wp_bind (K_grow hr1) (fun r2 hr2 => ?_)
  exact wp_some hr2
theorem L_31 {xs : Nat → Int32} {L : Nat} {x4 : Int32} {M : Mem} (hi : ∀ j : Int32, 1 ≤ j → j ≤ 6 → inb (x4 + j) L) (h : InvR M) : wpO (F_LAWc_31 xs L x4 M) InvR := by
  unfold F_LAWc_31
  refine wp_t (hi 1 (by decide) (by decide)) ?_
  refine wp_bind (T_LAW_beings (xs (x4 + 1).toNatClampNeg) M) (fun r1 fr1 => ?_)
  have hr1 : InvR r1.2 := h.sm fr1 (fun k q => by first | omega | exact q.elim | (dsimp only at q; omega))
  refine wp_t (hi 1 (by decide) (by decide)) ?_
  refine wp_bind (K_beings hr1) (fun r2 hr2 => ?_)
  exact wp_some hr2
theorem L_32 {xs : Nat → Int32} {L : Nat} {x4 : Int32} {M : Mem} (hi : ∀ j : Int32, 1 ≤ j → j ≤ 6 → inb (x4 + j) L) (h : InvR M) : wpO (F_LAWc_32 xs L x4 M) InvR := by
  unfold F_LAWc_32
  refine wp_t (hi 1 (by decide) (by decide)) ?_
  refine wp_bind (T_LAW_stays (xs (x4 + 1).toNatClampNeg) M) (fun r1 fr1 => ?_)
  have hr1 : InvR r1.2 := h.sm fr1 (fun k q => by first | omega | exact q.elim | (dsimp only at q; omega))
  refine wp_t (hi 1 (by decide) (by decide)) ?_
  refine wp_bind (K_stays hr1) (fun r2 hr2 => ?_)
  exact wp_some hr2
theorem L_33 {xs : Nat → Int32} {L : Nat} {x4 : Int32} {M : Mem} (hi : ∀ j : Int32, 1 ≤ j → j ≤ 6 → inb (x4 + j) L) (h : InvR M) : wpO (F_LAWc_33 xs L x4 M) InvR := by
  unfold F_LAWc_33
  refine wp_t (hi 1 (by decide) (by decide)) ?_
  refine wp_t (hi 2 (by decide) (by decide)) ?_
  refine wp_bind (T_LAW_all (xs (x4 + 1).toNatClampNeg) (xs (x4 + 2).toNatClampNeg) M) (fun r1 fr1 => ?_)
  have hr1 : InvR r1.2 := h.sm fr1 (fun k q => by first | omega | exact q.elim | (dsimp only at q; omega))
  refine wp_t (hi 1 (by decide) (by decide)) ?_
  refine wp_t (hi 2 (by decide) (by decide)) ?_
  refine wp_bind (K_all hr1) (fun r2 hr2 => ?_)
  exact wp_some hr2
theorem L_34 {xs : Nat → Int32} {L : Nat} {x4 : Int32} {M : Mem} (hi : ∀ j : Int32, 1 ≤ j → j ≤ 6 → inb (x4 + j) L) (h : InvR M) : wpO (F_LAWc_34 xs L x4 M) InvR := by
  unfold F_LAWc_34
  refine wp_t (hi 1 (by decide) (by decide)) ?_
  refine wp_t (hi 2 (by decide) (by decide)) ?_
  refine wp_bind (T_LAW_begin (xs (x4 + 1).toNatClampNeg) (xs (x4 + 2).toNatClampNeg) M) (fun r1 fr1 => ?_)
  have hr1 : InvR r1.2 := h.sm fr1 (fun k q => by first | omega | exact q.elim | (dsimp only at q; omega))
  refine wp_t (hi 1 (by decide) (by decide)) ?_
  refine wp_t (hi 2 (by decide) (by decide)) ?_
  refine wp_bind (K_begin hr1) (fun r2 hr2 => ?_)
  exact wp_some hr2
theorem L_35 {xs : Nat → Int32} {L : Nat} {x4 : Int32} {M : Mem} (hi : ∀ j : Int32, 1 ≤ j → j ≤ 6 → inb (x4 + j) L) (h : InvR M) : wpO (F_LAWc_35 xs L x4 M) InvR := by
  unfold F_LAWc_35
  refine wp_t (hi 1 (by decide) (by decide)) ?_
  refine wp_t (hi 2 (by decide) (by decide)) ?_
  refine wp_bind (T_LAW_villager (xs (x4 + 1).toNatClampNeg) (xs (x4 + 2).toNatClampNeg) M) (fun r1 fr1 => ?_)
  have hr1 : InvR r1.2 := h.sm fr1 (fun k q => by first | omega | exact q.elim | (dsimp only at q; omega))
  refine wp_t (hi 1 (by decide) (by decide)) ?_
  refine wp_t (hi 2 (by decide) (by decide)) ?_
  refine wp_bind (K_villager hr1) (fun r2 hr2 => ?_)
  exact wp_some hr2
theorem L_36 {xs : Nat → Int32} {L : Nat} {x4 : Int32} {M : Mem} (hi : ∀ j : Int32, 1 ≤ j → j ≤ 6 → inb (x4 + j) L) (h : InvR M) : wpO (F_LAWc_36 xs L x4 M) InvR := by
  unfold F_LAWc_36
  refine wp_t (hi 1 (by decide) (by decide)) ?_
  refine wp_t (hi 2 (by decide) (by decide)) ?_
  refine wp_if (fun _ => ?_) (fun _ => ?_)
  · unfold F_LAWc_36_j1870
    refine wp_bind (T_LAW_villageEdge (xs (x4 + 1).toNatClampNeg) ((b2i false)) M) (fun r1_57 fr1_57 => ?_)
    have hr1_57 : InvR r1_57.2 := h.sm fr1_57 (fun k q => by first | omega | exact q.elim | (dsimp only at q; omega))
    refine wp_t (hi 1 (by decide) (by decide)) ?_
    refine wp_t (hi 2 (by decide) (by decide)) ?_
    refine wp_if (fun _ => ?_) (fun _ => ?_)
    · unfold F_LAWc_36_j1897
      refine wp_bind (K_villageEdge hr1_57) (fun r2_58 hr2_58 => ?_)
      exact wp_some hr2_58
    · unfold F_LAWc_36_j1897
      refine wp_bind (K_villageEdge hr1_57) (fun r2_59 hr2_59 => ?_)
      exact wp_some hr2_59
  · unfold F_LAWc_36_j1870
    refine wp_bind (T_LAW_villageEdge (xs (x4 + 1).toNatClampNeg) ((b2i true)) M) (fun r1_60 fr1_60 => ?_)
    have hr1_60 : InvR r1_60.2 := h.sm fr1_60 (fun k q => by first | omega | exact q.elim | (dsimp only at q; omega))
    refine wp_t (hi 1 (by decide) (by decide)) ?_
    refine wp_t (hi 2 (by decide) (by decide)) ?_
    refine wp_if (fun _ => ?_) (fun _ => ?_)
    · unfold F_LAWc_36_j1897
      refine wp_bind (K_villageEdge hr1_60) (fun r2_61 hr2_61 => ?_)
      exact wp_some hr2_61
    · unfold F_LAWc_36_j1897
      refine wp_bind (K_villageEdge hr1_60) (fun r2_62 hr2_62 => ?_)
      exact wp_some hr2_62
theorem L_37 {xs : Nat → Int32} {L : Nat} {x4 : Int32} {M : Mem} (hi : ∀ j : Int32, 1 ≤ j → j ≤ 6 → inb (x4 + j) L) (h : InvR M) : wpO (F_LAWc_37 xs L x4 M) InvR := by
  unfold F_LAWc_37
  refine wp_t (hi 1 (by decide) (by decide)) ?_
  refine wp_bind (T_LAW_village (xs (x4 + 1).toNatClampNeg) M) (fun r1 fr1 => ?_)
  have hr1 : InvR r1.2 := h.sm fr1 (fun k q => by first | omega | exact q.elim | (dsimp only at q; omega))
  refine wp_t (hi 1 (by decide) (by decide)) ?_
  refine wp_bind (K_village hr1) (fun r2 hr2 => ?_)
  exact wp_some hr2
theorem L_38 {xs : Nat → Int32} {L : Nat} {x4 : Int32} {M : Mem} (hi : ∀ j : Int32, 1 ≤ j → j ≤ 6 → inb (x4 + j) L) (h : InvR M) : wpO (F_LAWc_38 xs L x4 M) InvR := by
  unfold F_LAWc_38
  refine wp_bind (T_KW_image M) (fun r1 fr1 => ?_)
  have hr1 : InvR r1 := h.sm fr1 (fun k q => by first | omega | exact q.elim | (dsimp only at q; omega))
  refine wp_bind (K_image hr1) (fun r2 hr2 => ?_)
  exact wp_some hr2
theorem L_39 {xs : Nat → Int32} {L : Nat} {x4 : Int32} {M : Mem} (hi : ∀ j : Int32, 1 ≤ j → j ≤ 6 → inb (x4 + j) L) (h : InvR M) : wpO (F_LAWc_39 xs L x4 M) InvR := by
  unfold F_LAWc_39
  refine wp_bind (T_KW_back M) (fun r1 fr1 => ?_)
  have hr1 : InvR r1.2 := h.sm fr1 (fun k q => by first | omega | exact q.elim | (dsimp only at q; omega))
  refine wp_bind (K_back hr1) (fun r2 hr2 => ?_)
  exact wp_some hr2
theorem L_40 {xs : Nat → Int32} {L : Nat} {x4 : Int32} {M : Mem} (hi : ∀ j : Int32, 1 ≤ j → j ≤ 6 → inb (x4 + j) L) (h : InvR M) : wpO (F_LAWc_40 xs L x4 M) InvR := by
  unfold F_LAWc_40
  refine wp_t (hi 1 (by decide) (by decide)) ?_
  refine wp_bind (T_KW_count (xs (x4 + 1).toNatClampNeg) M) (fun r1 fr1 => ?_)
  have hr1 : InvR r1.2 := h.sm fr1 (fun k q => by first | omega | exact q.elim | (dsimp only at q; omega))
  refine wp_t (hi 1 (by decide) (by decide)) ?_
  refine wp_bind (K_count hr1) (fun r2 hr2 => ?_)
  exact wp_some hr2
theorem S_thrown (M : Mem) : F_MO_thrown M = some (M.1 94 0) := rfl
theorem L_4 {xs : Nat → Int32} {L : Nat} {x4 : Int32} {M : Mem} (hi : ∀ j : Int32, 1 ≤ j → j ≤ 6 → inb (x4 + j) L) (h : InvR M) : wpO (F_LAWc_4 xs L x4 M) InvR := by
  unfold F_LAWc_4
  refine wp_t (hi 1 (by decide) (by decide)) ?_
  refine wp_t (hi 2 (by decide) (by decide)) ?_
  generalize xs (x4 + 1).toNatClampNeg = n
  generalize xs (x4 + 2).toNatClampNeg = q
  have go : ∀ (N : Mem) (k : Int32), F_LAW_tomorrow n q M = some (k, N) → InvR N → (∀ O, F_MO_tomorrow n q N = some O → O.1 94 0 = k) → wpO ((F_LAW_tomorrow n q M).bind fun r1 => if inb (x4 + 1) L then if inb (x4 + 2) L then (F_MO_tomorrow n q r1.2).bind fun r2 => (F_MO_thrown r2).bind fun r3 => if r3 = r1.1 then some r2 else none else none else none) InvR := by
    intro N k e hN ht
    rw [e, bs]
    refine wp_t (hi 1 (by decide) (by decide)) ?_
    refine wp_t (hi 2 (by decide) (by decide)) ?_
    refine wp_bind (wp_q (K_tomorrow hN) (fun a ha => ht a ha)) (fun r2 h2 => ?_)
    rw [S_thrown, bs]
    exact wp_t h2.2 (wp_some h2.1)
  rcases P_tomorrow n q M with ⟨h1, -, h3⟩ | ⟨h1, h3⟩
  · exact go _ _ h1 h (fun O hO => by rw [h3] at hO; cases hO; rfl)
  · exact go _ _ h1 h (fun O hO => by rw [h3] at hO; cases hO; rfl)
theorem L_sw {xs : Nat → Int32} {L : Nat} {x4 k : Int32} {M : Mem} (hi : ∀ j : Int32, 1 ≤ j → j ≤ 6 → inb (x4 + j) L) (h : InvR M) : wpO (F_law_sw xs L x4 k M) InvR := by
  unfold F_law_sw
  refine wp_if (fun _ => L_0 hi h) (fun _ => ?_)
  refine wp_if (fun _ => L_1 hi h) (fun _ => ?_)
  refine wp_if (fun _ => L_2 hi h) (fun _ => ?_)
  refine wp_if (fun _ => L_3 hi h) (fun _ => ?_)
  refine wp_if (fun _ => L_4 hi h) (fun _ => ?_)
  refine wp_if (fun _ => L_5 hi h) (fun _ => ?_)
  refine wp_if (fun _ => L_6 hi h) (fun _ => ?_)
  refine wp_if (fun _ => L_7 hi h) (fun _ => ?_)
  refine wp_if (fun _ => L_8 hi h) (fun _ => ?_)
  refine wp_if (fun _ => L_9 hi h) (fun _ => ?_)
  refine wp_if (fun _ => L_10 hi h) (fun _ => ?_)
  refine wp_if (fun _ => L_11 hi h) (fun _ => ?_)
  refine wp_if (fun _ => L_12 hi h) (fun _ => ?_)
  refine wp_if (fun _ => L_13 hi h) (fun _ => ?_)
  refine wp_if (fun _ => L_14 hi h) (fun _ => ?_)
  refine wp_if (fun _ => L_15 hi h) (fun _ => ?_)
  refine wp_if (fun _ => L_16 hi h) (fun _ => ?_)
  refine wp_if (fun _ => L_17 hi h) (fun _ => ?_)
  refine wp_if (fun _ => L_18 hi h) (fun _ => ?_)
  refine wp_if (fun _ => L_19 hi h) (fun _ => ?_)
  refine wp_if (fun _ => L_20 hi h) (fun _ => ?_)
  refine wp_if (fun _ => L_21 hi h) (fun _ => ?_)
  refine wp_if (fun _ => L_22 hi h) (fun _ => ?_)
  refine wp_if (fun _ => L_23 hi h) (fun _ => ?_)
  refine wp_if (fun _ => L_24 hi h) (fun _ => ?_)
  refine wp_if (fun _ => L_25 hi h) (fun _ => ?_)
  refine wp_if (fun _ => L_26 hi h) (fun _ => ?_)
  refine wp_if (fun _ => L_27 hi h) (fun _ => ?_)
  refine wp_if (fun _ => L_28 hi h) (fun _ => ?_)
  refine wp_if (fun _ => L_29 hi h) (fun _ => ?_)
  refine wp_if (fun _ => L_30 hi h) (fun _ => ?_)
  refine wp_if (fun _ => L_31 hi h) (fun _ => ?_)
  refine wp_if (fun _ => L_32 hi h) (fun _ => ?_)
  refine wp_if (fun _ => L_33 hi h) (fun _ => ?_)
  refine wp_if (fun _ => L_34 hi h) (fun _ => ?_)
  refine wp_if (fun _ => L_35 hi h) (fun _ => ?_)
  refine wp_if (fun _ => L_36 hi h) (fun _ => ?_)
  refine wp_if (fun _ => L_37 hi h) (fun _ => ?_)
  refine wp_if (fun _ => L_38 hi h) (fun _ => ?_)
  refine wp_if (fun _ => L_39 hi h) (fun _ => ?_)
  refine wp_if (fun _ => L_40 hi h) (fun _ => ?_)
  exact wp_some h
theorem InvR_start : InvR M_start := by
  have w0 : (M_start.1 95 0).toInt = 2 ∧ (M_start.1 95 1).toInt = 1 ∧ (M_start.1 95 2).toInt = 2 ∧ (M_start.1 95 3).toInt = 0 ∧ (M_start.1 95 4).toInt = 1 ∧ (M_start.1 95 5).toInt = 0 ∧ (M_start.1 95 6).toInt = 10 ∧ (M_start.1 95 7).toInt = 0 ∧ (M_start.1 95 8).toInt = 0 ∧ M_start.1 94 3 = 0 ∧ (M_start.1 94 5).toInt = 0 := by decide +kernel
  have w9 : ∀ j : Nat, j < 18 → (M_start.1 95 (9 + j)).toInt = 0 := by decide +kernel
  have wr : ∀ j : Nat, j < 400 → (M_start.1 95 (152 + j)).toInt = 0 := by decide +kernel
  obtain ⟨a0, a1, a2, a3, a4, a5, a6, a7, a8, a9, a10⟩ := w0
  refine ⟨⟨by omega, by omega, by omega, by omega, by omega, by omega, by omega, fun j hj => ?_, fun w hw => ?_, fun j hj => ?_, fun k hk => ?_⟩, fun q => absurd a9 q, by omega, by omega⟩
  · rw [w9 j hj]
    omega
  · omega
  · rw [wr j hj]
    omega
  · omega
theorem law_math (xs : Nat → Int32) (L : Nat) (hL : L ≤ 3584) : wpO (iter (F_law_b xs L) FUEL (nI (7 * 0), M_start)) (fun _ => True) := by
  refine wp_iterS (P := fun k z => z.1 = iI ((7 * k : Nat) : Int) ∧ InvR z.2) 600 ?_ _ _ ⟨rfl, InvR_start⟩ (FUEL_big (by decide))
  rintro k ⟨z1, M⟩ hk ⟨e1, h⟩
  dsimp only at e1 h
  subst e1
  have l7 : (7 : Int32) = iI 7 := rfl
  have eL : nI L - 7 = iI ((L : Int) - 7) := by rw [nI_iI, l7, iI_sub]
  unfold F_law_b
  dsimp only
  rw [eL]
  refine wp_if (fun _ => wp_some trivial) (fun c => ?_)
  rw [iI_lt (by omega) (by omega) (by omega) (by omega)] at c
  refine wp_t (inb_iI (by omega) (by omega) (by omega)) ?_
  have hi : ∀ j : Int32, 1 ≤ j → j ≤ 6 → inb (iI ((7 * k : Nat) : Int) + j) L := by
    intro j j1 j6
    rw [le_i, li1] at j1
    rw [le_i, li6] at j6
    have e : (iI ((7 * k : Nat) : Int) + j).toInt = 7 * k + j.toInt := by rw [a32] <;> rw [iI_toInt (by omega) (by omega)] <;> omega
    exact inb_i (by omega) (by omega)
  refine wp_bind (L_sw hi h) (fun M2 h2 => wp_some ⟨by omega, ?_, h2⟩)
  show iI ((7 * k : Nat) : Int) + 7 = _
  rw [l7, iI_add]
  congr 1
