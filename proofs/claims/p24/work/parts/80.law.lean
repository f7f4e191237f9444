theorem S_thrown (M : Mem) : F_MO_thrown M = some (M.1 94 0) := rfl
theorem L_0 {xs : Nat → Int32} {L : Nat} {x4 : Int32} {M : Mem} (hi : ∀ j : Int32, 1 ≤ j → j ≤ 6 → inb (x4 + j) L) (h : RY M) : wpO (F_LAWc_0 xs L x4 M) RY := by
  unfold F_LAWc_0
  refine wp_t (hi 1 (by decide) (by decide)) ?_
  refine wp_t (hi 2 (by decide) (by decide)) ?_
  refine wp_t (hi 3 (by decide) (by decide)) ?_
  refine wp_t (hi 4 (by decide) (by decide)) ?_
  refine wp_t (hi 5 (by decide) (by decide)) ?_
  refine wp_bind (Y_feed h) (fun r1 hr1 => ?_)
  refine wp_t (hi 1 (by decide) (by decide)) ?_
  refine wp_t (hi 2 (by decide) (by decide)) ?_
  refine wp_t (hi 3 (by decide) (by decide)) ?_
  refine wp_t (hi 4 (by decide) (by decide)) ?_
  refine wp_t (hi 5 (by decide) (by decide)) ?_
  refine wp_bind hr1 (fun r2 hhr2 => ?_)
  obtain ⟨hr2, qr2⟩ := hhr2
  exact wp_some hr2
theorem L_1 {xs : Nat → Int32} {L : Nat} {x4 : Int32} {M : Mem} (hi : ∀ j : Int32, 1 ≤ j → j ≤ 6 → inb (x4 + j) L) (h : RY M) : wpO (F_LAWc_1 xs L x4 M) RY := by
  unfold F_LAWc_1
  refine wp_t (hi 1 (by decide) (by decide)) ?_
  refine wp_bind (Y_end h) (fun r1 hr1 => ?_)
  refine wp_t (hi 1 (by decide) (by decide)) ?_
  refine wp_bind hr1 (fun r2 hhr2 => ?_)
  obtain ⟨hr2, qr2⟩ := hhr2
  exact wp_some hr2
theorem L_2 {xs : Nat → Int32} {L : Nat} {x4 : Int32} {M : Mem} (hi : ∀ j : Int32, 1 ≤ j → j ≤ 6 → inb (x4 + j) L) (h : RY M) : wpO (F_LAWc_2 xs L x4 M) RY := by
  unfold F_LAWc_2
  refine wp_t (hi 1 (by decide) (by decide)) ?_
  refine wp_bind (Y_acts h) (fun r1 hr1 => ?_)
  refine wp_t (hi 1 (by decide) (by decide)) ?_
  refine wp_bind hr1 (fun r2 hhr2 => ?_)
  obtain ⟨hr2, qr2⟩ := hhr2
  exact wp_some hr2
theorem L_3 {xs : Nat → Int32} {L : Nat} {x4 : Int32} {M : Mem} (hi : ∀ j : Int32, 1 ≤ j → j ≤ 6 → inb (x4 + j) L) (h : RY M) : wpO (F_LAWc_3 xs L x4 M) RY := by
  unfold F_LAWc_3
  refine wp_t (hi 1 (by decide) (by decide)) ?_
  refine wp_t (hi 2 (by decide) (by decide)) ?_
  refine wp_t (hi 3 (by decide) (by decide)) ?_
  refine wp_t (hi 4 (by decide) (by decide)) ?_
  refine wp_bind (Y_bring h) (fun r1 hr1 => ?_)
  refine wp_t (hi 1 (by decide) (by decide)) ?_
  refine wp_t (hi 2 (by decide) (by decide)) ?_
  refine wp_t (hi 3 (by decide) (by decide)) ?_
  refine wp_t (hi 4 (by decide) (by decide)) ?_
  refine wp_bind hr1 (fun r2 hhr2 => ?_)
  obtain ⟨hr2, qr2⟩ := hhr2
  exact wp_some hr2
theorem L_4 {xs : Nat → Int32} {L : Nat} {x4 : Int32} {M : Mem} (hi : ∀ j : Int32, 1 ≤ j → j ≤ 6 → inb (x4 + j) L) (h : RY M) : wpO (F_LAWc_4 xs L x4 M) RY := by
  unfold F_LAWc_4
  refine wp_t (hi 1 (by decide) (by decide)) ?_
  refine wp_t (hi 2 (by decide) (by decide)) ?_
  refine wp_bind (Y_tomorrow h) (fun r1 hr1 => ?_)
  refine wp_t (hi 1 (by decide) (by decide)) ?_
  refine wp_t (hi 2 (by decide) (by decide)) ?_
  refine wp_bind hr1 (fun r2 hhr2 => ?_)
  obtain ⟨hr2, qr2⟩ := hhr2
  exact wp_some hr2
theorem L_5 {xs : Nat → Int32} {L : Nat} {x4 : Int32} {M : Mem} (hi : ∀ j : Int32, 1 ≤ j → j ≤ 6 → inb (x4 + j) L) (h : RY M) : wpO (F_LAWc_5 xs L x4 M) RY := by
  unfold F_LAWc_5
  refine wp_bind (V_way h) (fun r1 hr1 => ?_)
  refine wp_bind hr1 (fun r2 hhr2 => ?_)
  obtain ⟨hr2, qr2⟩ := hhr2
  exact wp_some hr2
theorem L_6 {xs : Nat → Int32} {L : Nat} {x4 : Int32} {M : Mem} (hi : ∀ j : Int32, 1 ≤ j → j ≤ 6 → inb (x4 + j) L) (h : RY M) : wpO (F_LAWc_6 xs L x4 M) RY := by
  unfold F_LAWc_6
  refine wp_bind (V_fault h) (fun r1 hr1 => ?_)
  refine wp_bind hr1 (fun r2 hhr2 => ?_)
  obtain ⟨hr2, qr2⟩ := hhr2
  exact wp_some hr2
theorem L_7 {xs : Nat → Int32} {L : Nat} {x4 : Int32} {M : Mem} (hi : ∀ j : Int32, 1 ≤ j → j ≤ 6 → inb (x4 + j) L) (h : RY M) : wpO (F_LAWc_7 xs L x4 M) RY := by
  unfold F_LAWc_7
  refine wp_t (hi 1 (by decide) (by decide)) ?_
  refine wp_t (hi 2 (by decide) (by decide)) ?_
  refine wp_t (hi 3 (by decide) (by decide)) ?_
  refine wp_bind (Y_mood h) (fun r1 hr1 => ?_)
  refine wp_t (hi 1 (by decide) (by decide)) ?_
  refine wp_t (hi 2 (by decide) (by decide)) ?_
  refine wp_t (hi 3 (by decide) (by decide)) ?_
  refine wp_bind hr1 (fun r2 hr2 => ?_)
  exact wp_some hr2
theorem L_8 {xs : Nat → Int32} {L : Nat} {x4 : Int32} {M : Mem} (hi : ∀ j : Int32, 1 ≤ j → j ≤ 6 → inb (x4 + j) L) (h : RY M) : wpO (F_LAWc_8 xs L x4 M) RY := by
  unfold F_LAWc_8
  refine wp_t (hi 1 (by decide) (by decide)) ?_
  refine wp_t (hi 2 (by decide) (by decide)) ?_
  refine wp_t (hi 3 (by decide) (by decide)) ?_
  refine wp_t (hi 4 (by decide) (by decide)) ?_
  refine wp_t (hi 5 (by decide) (by decide)) ?_
  refine wp_t (hi 6 (by decide) (by decide)) ?_
  refine wp_if (fun c0 => ?_) (fun c0 => ?_)
  · unfold F_LAWc_8_j568
    refine wp_bind (Y_worth h) (fun r1_1 hr1_1 => ?_)
    refine wp_t (hi 1 (by decide) (by decide)) ?_
    refine wp_t (hi 2 (by decide) (by decide)) ?_
    refine wp_t (hi 3 (by decide) (by decide)) ?_
    refine wp_t (hi 4 (by decide) (by decide)) ?_
    refine wp_t (hi 5 (by decide) (by decide)) ?_
    refine wp_t (hi 6 (by decide) (by decide)) ?_
    refine wp_t c0 ?_
    unfold F_LAWc_8_j620
    refine wp_bind hr1_1 (fun r2_2 hr2_2 => ?_)
    exact wp_some hr2_2
  · unfold F_LAWc_8_j568
    refine wp_bind (Y_worth h) (fun r1_3 hr1_3 => ?_)
    refine wp_t (hi 1 (by decide) (by decide)) ?_
    refine wp_t (hi 2 (by decide) (by decide)) ?_
    refine wp_t (hi 3 (by decide) (by decide)) ?_
    refine wp_t (hi 4 (by decide) (by decide)) ?_
    refine wp_t (hi 5 (by decide) (by decide)) ?_
    refine wp_t (hi 6 (by decide) (by decide)) ?_
    refine wp_f c0 ?_
    unfold F_LAWc_8_j620
    refine wp_bind hr1_3 (fun r2_4 hr2_4 => ?_)
    exact wp_some hr2_4
theorem L_9 {xs : Nat → Int32} {L : Nat} {x4 : Int32} {M : Mem} (hi : ∀ j : Int32, 1 ≤ j → j ≤ 6 → inb (x4 + j) L) (h : RY M) : wpO (F_LAWc_9 xs L x4 M) RY := by
  unfold F_LAWc_9
  refine wp_t (hi 1 (by decide) (by decide)) ?_
  refine wp_t (hi 2 (by decide) (by decide)) ?_
  refine wp_bind (Y_hold h) (fun r1 hr1 => ?_)
  refine wp_t (hi 1 (by decide) (by decide)) ?_
  refine wp_t (hi 2 (by decide) (by decide)) ?_
  refine wp_bind hr1 (fun r2 hr2 => ?_)
  exact wp_some hr2
theorem L_10 {xs : Nat → Int32} {L : Nat} {x4 : Int32} {M : Mem} (hi : ∀ j : Int32, 1 ≤ j → j ≤ 6 → inb (x4 + j) L) (h : RY M) : wpO (F_LAWc_10 xs L x4 M) RY := by
  unfold F_LAWc_10
  refine wp_t (hi 1 (by decide) (by decide)) ?_
  refine wp_t (hi 2 (by decide) (by decide)) ?_
  refine wp_bind (Y_first h) (fun r1 hr1 => ?_)
  refine wp_t (hi 1 (by decide) (by decide)) ?_
  refine wp_t (hi 2 (by decide) (by decide)) ?_
  refine wp_bind hr1 (fun r2 hr2 => ?_)
  exact wp_some hr2
theorem L_11 {xs : Nat → Int32} {L : Nat} {x4 : Int32} {M : Mem} (hi : ∀ j : Int32, 1 ≤ j → j ≤ 6 → inb (x4 + j) L) (h : RY M) : wpO (F_LAWc_11 xs L x4 M) RY := by
  unfold F_LAWc_11
  refine wp_t (hi 1 (by decide) (by decide)) ?_
  refine wp_t (hi 2 (by decide) (by decide)) ?_
  refine wp_t (hi 3 (by decide) (by decide)) ?_
  refine wp_bind (Y_best h) (fun r1 hr1 => ?_)
  refine wp_t (hi 1 (by decide) (by decide)) ?_
  refine wp_t (hi 2 (by decide) (by decide)) ?_
  refine wp_t (hi 3 (by decide) (by decide)) ?_
  refine wp_bind hr1 (fun r2 hr2 => ?_)
  exact wp_some hr2
theorem L_12 {xs : Nat → Int32} {L : Nat} {x4 : Int32} {M : Mem} (hi : ∀ j : Int32, 1 ≤ j → j ≤ 6 → inb (x4 + j) L) (h : RY M) : wpO (F_LAWc_12 xs L x4 M) RY := by
  unfold F_LAWc_12
  refine wp_t (hi 1 (by decide) (by decide)) ?_
  refine wp_t (hi 2 (by decide) (by decide)) ?_
  refine wp_t (hi 3 (by decide) (by decide)) ?_
  refine wp_t (hi 4 (by decide) (by decide)) ?_
  refine wp_if (fun c0 => ?_) (fun c0 => ?_)
  · unfold F_LAWc_12_j793
    refine wp_bind (Y_answer h) (fun r1_5 hr1_5 => ?_)
    refine wp_t (hi 1 (by decide) (by decide)) ?_
    refine wp_t (hi 2 (by decide) (by decide)) ?_
    refine wp_t (hi 3 (by decide) (by decide)) ?_
    refine wp_t (hi 4 (by decide) (by decide)) ?_
    refine wp_t c0 ?_
    unfold F_LAWc_12_j832
    refine wp_bind hr1_5 (fun r2_6 hr2_6 => ?_)
    exact wp_some hr2_6
  · unfold F_LAWc_12_j793
    refine wp_bind (Y_answer h) (fun r1_7 hr1_7 => ?_)
    refine wp_t (hi 1 (by decide) (by decide)) ?_
    refine wp_t (hi 2 (by decide) (by decide)) ?_
    refine wp_t (hi 3 (by decide) (by decide)) ?_
    refine wp_t (hi 4 (by decide) (by decide)) ?_
    refine wp_f c0 ?_
    unfold F_LAWc_12_j832
    refine wp_bind hr1_7 (fun r2_8 hr2_8 => ?_)
    exact wp_some hr2_8
theorem L_13 {xs : Nat → Int32} {L : Nat} {x4 : Int32} {M : Mem} (hi : ∀ j : Int32, 1 ≤ j → j ≤ 6 → inb (x4 + j) L) (h : RY M) : wpO (F_LAWc_13 xs L x4 M) RY := by
  unfold F_LAWc_13
  refine wp_t (hi 1 (by decide) (by decide)) ?_
  refine wp_t (hi 2 (by decide) (by decide)) ?_
  refine wp_if (fun c0 => ?_) (fun c0 => ?_)
  · unfold F_LAWc_13_j861
    refine wp_bind (Y_least h) (fun r1_9 hr1_9 => ?_)
    refine wp_t (hi 1 (by decide) (by decide)) ?_
    refine wp_t (hi 2 (by decide) (by decide)) ?_
    refine wp_t c0 ?_
    unfold F_LAWc_13_j888
    refine wp_bind hr1_9 (fun r2_10 hr2_10 => ?_)
    exact wp_some hr2_10
  · unfold F_LAWc_13_j861
    refine wp_bind (Y_least h) (fun r1_11 hr1_11 => ?_)
    refine wp_t (hi 1 (by decide) (by decide)) ?_
    refine wp_t (hi 2 (by decide) (by decide)) ?_
    refine wp_f c0 ?_
    unfold F_LAWc_13_j888
    refine wp_bind hr1_11 (fun r2_12 hr2_12 => ?_)
    exact wp_some hr2_12
theorem L_14 {xs : Nat → Int32} {L : Nat} {x4 : Int32} {M : Mem} (hi : ∀ j : Int32, 1 ≤ j → j ≤ 6 → inb (x4 + j) L) (h : RY M) : wpO (F_LAWc_14 xs L x4 M) RY := by
  unfold F_LAWc_14
  refine wp_t (hi 1 (by decide) (by decide)) ?_
  refine wp_t (hi 2 (by decide) (by decide)) ?_
  refine wp_if (fun c0 => ?_) (fun c0 => ?_)
  · unfold F_LAWc_14_j917
    refine wp_bind (Y_lots h) (fun r1_13 hr1_13 => ?_)
    refine wp_t (hi 1 (by decide) (by decide)) ?_
    refine wp_t (hi 2 (by decide) (by decide)) ?_
    refine wp_t c0 ?_
    unfold F_LAWc_14_j944
    refine wp_bind hr1_13 (fun r2_14 hr2_14 => ?_)
    exact wp_some hr2_14
  · unfold F_LAWc_14_j917
    refine wp_bind (Y_lots h) (fun r1_15 hr1_15 => ?_)
    refine wp_t (hi 1 (by decide) (by decide)) ?_
    refine wp_t (hi 2 (by decide) (by decide)) ?_
    refine wp_f c0 ?_
    unfold F_LAWc_14_j944
    refine wp_bind hr1_15 (fun r2_16 hr2_16 => ?_)
    exact wp_some hr2_16
theorem L_15 {xs : Nat → Int32} {L : Nat} {x4 : Int32} {M : Mem} (hi : ∀ j : Int32, 1 ≤ j → j ≤ 6 → inb (x4 + j) L) (h : RY M) : wpO (F_LAWc_15 xs L x4 M) RY := by
  unfold F_LAWc_15
  refine wp_bind (Y_once h) (fun r1 hr1 => ?_)
  refine wp_bind hr1 (fun r2 hr2 => ?_)
  exact wp_some hr2
theorem L_16 {xs : Nat → Int32} {L : Nat} {x4 : Int32} {M : Mem} (hi : ∀ j : Int32, 1 ≤ j → j ≤ 6 → inb (x4 + j) L) (h : RY M) : wpO (F_LAWc_16 xs L x4 M) RY := by
  unfold F_LAWc_16
  refine wp_t (hi 1 (by decide) (by decide)) ?_
  refine wp_t (hi 2 (by decide) (by decide)) ?_
  refine wp_if (fun c0 => ?_) (fun c0 => ?_)
  · unfold F_LAWc_16_j986
    refine wp_bind (Y_corner h) (fun r1_17 hr1_17 => ?_)
    refine wp_t (hi 1 (by decide) (by decide)) ?_
    refine wp_t (hi 2 (by decide) (by decide)) ?_
    refine wp_t c0 ?_
    unfold F_LAWc_16_j1011
    refine wp_bind hr1_17 (fun r2_18 hr2_18 => ?_)
    exact wp_some hr2_18
  · unfold F_LAWc_16_j986
    refine wp_bind (Y_corner h) (fun r1_19 hr1_19 => ?_)
    refine wp_t (hi 1 (by decide) (by decide)) ?_
    refine wp_t (hi 2 (by decide) (by decide)) ?_
    refine wp_f c0 ?_
    unfold F_LAWc_16_j1011
    refine wp_bind hr1_19 (fun r2_20 hr2_20 => ?_)
    exact wp_some hr2_20
theorem L_17 {xs : Nat → Int32} {L : Nat} {x4 : Int32} {M : Mem} (hi : ∀ j : Int32, 1 ≤ j → j ≤ 6 → inb (x4 + j) L) (h : RY M) : wpO (F_LAWc_17 xs L x4 M) RY := by
  unfold F_LAWc_17
  refine wp_t (hi 1 (by decide) (by decide)) ?_
  refine wp_t (hi 2 (by decide) (by decide)) ?_
  refine wp_t (hi 3 (by decide) (by decide)) ?_
  refine wp_t (hi 4 (by decide) (by decide)) ?_
  refine wp_if (fun c0 => ?_) (fun c0 => ?_)
  · unfold F_LAWc_17_j1051
    refine wp_bind (Y_in h) (fun r1_21 hr1_21 => ?_)
    refine wp_t (hi 1 (by decide) (by decide)) ?_
    refine wp_t (hi 2 (by decide) (by decide)) ?_
    refine wp_t (hi 3 (by decide) (by decide)) ?_
    refine wp_t (hi 4 (by decide) (by decide)) ?_
    refine wp_t c0 ?_
    unfold F_LAWc_17_j1090
    refine wp_bind hr1_21 (fun r2_22 hr2_22 => ?_)
    exact wp_some hr2_22
  · unfold F_LAWc_17_j1051
    refine wp_bind (Y_in h) (fun r1_23 hr1_23 => ?_)
    refine wp_t (hi 1 (by decide) (by decide)) ?_
    refine wp_t (hi 2 (by decide) (by decide)) ?_
    refine wp_t (hi 3 (by decide) (by decide)) ?_
    refine wp_t (hi 4 (by decide) (by decide)) ?_
    refine wp_f c0 ?_
    unfold F_LAWc_17_j1090
    refine wp_bind hr1_23 (fun r2_24 hr2_24 => ?_)
    exact wp_some hr2_24
theorem L_18 {xs : Nat → Int32} {L : Nat} {x4 : Int32} {M : Mem} (hi : ∀ j : Int32, 1 ≤ j → j ≤ 6 → inb (x4 + j) L) (h : RY M) : wpO (F_LAWc_18 xs L x4 M) RY := by
  unfold F_LAWc_18
  refine wp_t (hi 1 (by decide) (by decide)) ?_
  refine wp_t (hi 2 (by decide) (by decide)) ?_
  refine wp_t (hi 3 (by decide) (by decide)) ?_
  refine wp_t (hi 4 (by decide) (by decide)) ?_
  refine wp_bind (Y_mild h) (fun r1 hr1 => ?_)
  refine wp_t (hi 1 (by decide) (by decide)) ?_
  refine wp_t (hi 2 (by decide) (by decide)) ?_
  refine wp_t (hi 3 (by decide) (by decide)) ?_
  refine wp_t (hi 4 (by decide) (by decide)) ?_
  refine wp_bind hr1 (fun r2 hr2 => ?_)
  exact wp_some hr2
theorem L_19 {xs : Nat → Int32} {L : Nat} {x4 : Int32} {M : Mem} (hi : ∀ j : Int32, 1 ≤ j → j ≤ 6 → inb (x4 + j) L) (h : RY M) : wpO (F_LAWc_19 xs L x4 M) RY := by
  unfold F_LAWc_19
  refine wp_t (hi 1 (by decide) (by decide)) ?_
  refine wp_t (hi 2 (by decide) (by decide)) ?_
  refine wp_t (hi 3 (by decide) (by decide)) ?_
  refine wp_bind (Y_edge h) (fun r1 hr1 => ?_)
  refine wp_t (hi 1 (by decide) (by decide)) ?_
  refine wp_t (hi 2 (by decide) (by decide)) ?_
  refine wp_t (hi 3 (by decide) (by decide)) ?_
  refine wp_bind hr1 (fun r2 hr2 => ?_)
  exact wp_some hr2
theorem L_20 {xs : Nat → Int32} {L : Nat} {x4 : Int32} {M : Mem} (hi : ∀ j : Int32, 1 ≤ j → j ≤ 6 → inb (x4 + j) L) (h : RY M) : wpO (F_LAWc_20 xs L x4 M) RY := by
  unfold F_LAWc_20
  refine wp_bind (Y_together h) (fun r1 hr1 => ?_)
  refine wp_bind hr1 (fun r2 hr2 => ?_)
  exact wp_some hr2
theorem L_21 {xs : Nat → Int32} {L : Nat} {x4 : Int32} {M : Mem} (hi : ∀ j : Int32, 1 ≤ j → j ≤ 6 → inb (x4 + j) L) (h : RY M) : wpO (F_LAWc_21 xs L x4 M) RY := by
  unfold F_LAWc_21
  refine wp_t (hi 1 (by decide) (by decide)) ?_
  refine wp_t (hi 2 (by decide) (by decide)) ?_
  refine wp_bind (Y_mistakes h) (fun r1 hr1 => ?_)
  refine wp_t (hi 1 (by decide) (by decide)) ?_
  refine wp_t (hi 2 (by decide) (by decide)) ?_
  refine wp_bind hr1 (fun r2 hhr2 => ?_)
  obtain ⟨hr2, qr2⟩ := hhr2
  exact wp_some hr2
theorem L_22 {xs : Nat → Int32} {L : Nat} {x4 : Int32} {M : Mem} (hi : ∀ j : Int32, 1 ≤ j → j ≤ 6 → inb (x4 + j) L) (h : RY M) : wpO (F_LAWc_22 xs L x4 M) RY := by
  unfold F_LAWc_22
  refine wp_t (hi 1 (by decide) (by decide)) ?_
  refine wp_t (hi 2 (by decide) (by decide)) ?_
  refine wp_t (hi 3 (by decide) (by decide)) ?_
  refine wp_t (hi 4 (by decide) (by decide)) ?_
  refine wp_if (fun c0 => ?_) (fun c0 => ?_)
  · unfold F_LAWc_22_j1297
    refine wp_t (hi 5 (by decide) (by decide)) ?_
    refine wp_if (fun c1 => ?_) (fun c1 => ?_)
    · unfold F_LAWc_22_j1311
      refine wp_bind (V_doubt h) (fun r1_25 hr1_25 => ?_)
      refine wp_t (hi 1 (by decide) (by decide)) ?_
      refine wp_t (hi 2 (by decide) (by decide)) ?_
      refine wp_t (hi 3 (by decide) (by decide)) ?_
      refine wp_t (hi 4 (by decide) (by decide)) ?_
      refine wp_t c0 ?_
      unfold F_LAWc_22_j1350
      refine wp_t (hi 5 (by decide) (by decide)) ?_
      refine wp_t c1 ?_
      unfold F_LAWc_22_j1364
      refine wp_bind hr1_25 (fun r2_26 hhr2_26 => ?_)
      obtain ⟨hr2_26, qr2_26⟩ := hhr2_26
      rw [S_thrown, bs]
      refine wp_t qr2_26.1 ?_
      refine wp_if (fun c2 => ?_) (fun c2 => ?_)
      · refine wp_t ib01 ?_
        refine wp_t (by rw [tn0]; exact qr2_26.2 c2) ?_
        exact wp_some hr2_26
      · exact wp_some hr2_26
    · unfold F_LAWc_22_j1311
      refine wp_bind (V_doubt h) (fun r1_28 hr1_28 => ?_)
      refine wp_t (hi 1 (by decide) (by decide)) ?_
      refine wp_t (hi 2 (by decide) (by decide)) ?_
      refine wp_t (hi 3 (by decide) (by decide)) ?_
      refine wp_t (hi 4 (by decide) (by decide)) ?_
      refine wp_t c0 ?_
      unfold F_LAWc_22_j1350
      refine wp_t (hi 5 (by decide) (by decide)) ?_
      refine wp_f c1 ?_
      unfold F_LAWc_22_j1364
      refine wp_bind hr1_28 (fun r2_29 hhr2_29 => ?_)
      obtain ⟨hr2_29, qr2_29⟩ := hhr2_29
      rw [S_thrown, bs]
      refine wp_t qr2_29.1 ?_
      refine wp_if (fun c2 => ?_) (fun c2 => ?_)
      · refine wp_t ib01 ?_
        refine wp_t (by rw [tn0]; exact qr2_29.2 c2) ?_
        exact wp_some hr2_29
      · exact wp_some hr2_29
  · unfold F_LAWc_22_j1297
    refine wp_t (hi 5 (by decide) (by decide)) ?_
    refine wp_if (fun c1 => ?_) (fun c1 => ?_)
    · unfold F_LAWc_22_j1311
      refine wp_bind (V_doubt h) (fun r1_31 hr1_31 => ?_)
      refine wp_t (hi 1 (by decide) (by decide)) ?_
      refine wp_t (hi 2 (by decide) (by decide)) ?_
      refine wp_t (hi 3 (by decide) (by decide)) ?_
      refine wp_t (hi 4 (by decide) (by decide)) ?_
      refine wp_f c0 ?_
      unfold F_LAWc_22_j1350
      refine wp_t (hi 5 (by decide) (by decide)) ?_
      refine wp_t c1 ?_
      unfold F_LAWc_22_j1364
      refine wp_bind hr1_31 (fun r2_32 hhr2_32 => ?_)
      obtain ⟨hr2_32, qr2_32⟩ := hhr2_32
      rw [S_thrown, bs]
      refine wp_t qr2_32.1 ?_
      refine wp_if (fun c2 => ?_) (fun c2 => ?_)
      · refine wp_t ib01 ?_
        refine wp_t (by rw [tn0]; exact qr2_32.2 c2) ?_
        exact wp_some hr2_32
      · exact wp_some hr2_32
    · unfold F_LAWc_22_j1311
      refine wp_bind (V_doubt h) (fun r1_34 hr1_34 => ?_)
      refine wp_t (hi 1 (by decide) (by decide)) ?_
      refine wp_t (hi 2 (by decide) (by decide)) ?_
      refine wp_t (hi 3 (by decide) (by decide)) ?_
      refine wp_t (hi 4 (by decide) (by decide)) ?_
      refine wp_f c0 ?_
      unfold F_LAWc_22_j1350
      refine wp_t (hi 5 (by decide) (by decide)) ?_
      refine wp_f c1 ?_
      unfold F_LAWc_22_j1364
      refine wp_bind hr1_34 (fun r2_35 hhr2_35 => ?_)
      obtain ⟨hr2_35, qr2_35⟩ := hhr2_35
      rw [S_thrown, bs]
      refine wp_t qr2_35.1 ?_
      refine wp_if (fun c2 => ?_) (fun c2 => ?_)
      · refine wp_t ib01 ?_
        refine wp_t (by rw [tn0]; exact qr2_35.2 c2) ?_
        exact wp_some hr2_35
      · exact wp_some hr2_35
theorem L_23 {xs : Nat → Int32} {L : Nat} {x4 : Int32} {M : Mem} (hi : ∀ j : Int32, 1 ≤ j → j ≤ 6 → inb (x4 + j) L) (h : RY M) : wpO (F_LAWc_23 xs L x4 M) RY := by
  unfold F_LAWc_23
  refine wp_bind (V_row h) (fun r1 hr1 => ?_)
  refine wp_bind hr1 (fun r2 hhr2 => ?_)
  obtain ⟨hr2, qr2⟩ := hhr2
  exact wp_some hr2
theorem L_24 {xs : Nat → Int32} {L : Nat} {x4 : Int32} {M : Mem} (hi : ∀ j : Int32, 1 ≤ j → j ≤ 6 → inb (x4 + j) L) (h : RY M) : wpO (F_LAWc_24 xs L x4 M) RY := by
  unfold F_LAWc_24
  refine wp_t (hi 1 (by decide) (by decide)) ?_
  refine wp_t (hi 2 (by decide) (by decide)) ?_
  refine wp_bind (Y_judge h) (fun r1 hr1 => ?_)
  refine wp_t (hi 1 (by decide) (by decide)) ?_
  refine wp_t (hi 2 (by decide) (by decide)) ?_
  refine wp_bind hr1 (fun r2 hr2 => ?_)
  exact wp_some hr2
theorem L_25 {xs : Nat → Int32} {L : Nat} {x4 : Int32} {M : Mem} (hi : ∀ j : Int32, 1 ≤ j → j ≤ 6 → inb (x4 + j) L) (h : RY M) : wpO (F_LAWc_25 xs L x4 M) RY := by
  unfold F_LAWc_25
  refine wp_t (hi 1 (by decide) (by decide)) ?_
  refine wp_bind (Y_brought h) (fun r1 hr1 => ?_)
  refine wp_t (hi 1 (by decide) (by decide)) ?_
  refine wp_bind hr1 (fun r2 hr2 => ?_)
  exact wp_some hr2
theorem L_26 {xs : Nat → Int32} {L : Nat} {x4 : Int32} {M : Mem} (hi : ∀ j : Int32, 1 ≤ j → j ≤ 6 → inb (x4 + j) L) (h : RY M) : wpO (F_LAWc_26 xs L x4 M) RY := by
  unfold F_LAWc_26
  refine wp_t (hi 1 (by decide) (by decide)) ?_
  refine wp_t (hi 2 (by decide) (by decide)) ?_
  refine wp_t (hi 3 (by decide) (by decide)) ?_
  refine wp_t (hi 4 (by decide) (by decide)) ?_
  refine wp_t (hi 5 (by decide) (by decide)) ?_
  refine wp_bind (Y_drawn h) (fun r1 hr1 => ?_)
  refine wp_t (hi 1 (by decide) (by decide)) ?_
  refine wp_t (hi 2 (by decide) (by decide)) ?_
  refine wp_t (hi 3 (by decide) (by decide)) ?_
  refine wp_t (hi 4 (by decide) (by decide)) ?_
  refine wp_t (hi 5 (by decide) (by decide)) ?_
  refine wp_bind hr1 (fun r2 hr2 => ?_)
  exact wp_some hr2
theorem L_27 {xs : Nat → Int32} {L : Nat} {x4 : Int32} {M : Mem} (hi : ∀ j : Int32, 1 ≤ j → j ≤ 6 → inb (x4 + j) L) (h : RY M) : wpO (F_LAWc_27 xs L x4 M) RY := by
  unfold F_LAWc_27
  refine wp_t (hi 1 (by decide) (by decide)) ?_
  refine wp_t (hi 2 (by decide) (by decide)) ?_
  refine wp_bind (Y_field h) (fun r1 hr1 => ?_)
  refine wp_t (hi 1 (by decide) (by decide)) ?_
  refine wp_t (hi 2 (by decide) (by decide)) ?_
  refine wp_bind hr1 (fun r2 hr2 => ?_)
  exact wp_some hr2
theorem L_28 {xs : Nat → Int32} {L : Nat} {x4 : Int32} {M : Mem} (hi : ∀ j : Int32, 1 ≤ j → j ≤ 6 → inb (x4 + j) L) (h : RY M) : wpO (F_LAWc_28 xs L x4 M) RY := by
  unfold F_LAWc_28
  refine wp_t (hi 1 (by decide) (by decide)) ?_
  refine wp_bind (Y_rounds h) (fun r1 hr1 => ?_)
  refine wp_t (hi 1 (by decide) (by decide)) ?_
  refine wp_bind hr1 (fun r2 hhr2 => ?_)
  obtain ⟨hr2, qr2⟩ := hhr2
  exact wp_some hr2
theorem L_29 {xs : Nat → Int32} {L : Nat} {x4 : Int32} {M : Mem} (hi : ∀ j : Int32, 1 ≤ j → j ≤ 6 → inb (x4 + j) L) (h : RY M) : wpO (F_LAWc_29 xs L x4 M) RY := by
  unfold F_LAWc_29
  refine wp_t (hi 1 (by decide) (by decide)) ?_
  refine wp_t (hi 2 (by decide) (by decide)) ?_
  refine wp_bind (Y_meet h) (fun r1 hr1 => ?_)
  refine wp_t (hi 1 (by decide) (by decide)) ?_
  refine wp_t (hi 2 (by decide) (by decide)) ?_
  refine wp_bind hr1 (fun r2 hr2 => ?_)
  exact wp_some hr2
theorem L_30 {xs : Nat → Int32} {L : Nat} {x4 : Int32} {M : Mem} (hi : ∀ j : Int32, 1 ≤ j → j ≤ 6 → inb (x4 + j) L) (h : RY M) : wpO (F_LAWc_30 xs L x4 M) RY := by
  unfold F_LAWc_30
  refine wp_t (hi 1 (by decide) (by decide)) ?_
  refine wp_bind (Y_grow h) (fun r1 hr1 => ?_)
  refine wp_t (hi 1 (by decide) (by decide)) ?_
  refine wp_bind hr1 (fun r2 hr2 => ?_)
  exact wp_some hr2
theorem L_31 {xs : Nat → Int32} {L : Nat} {x4 : Int32} {M : Mem} (hi : ∀ j : Int32, 1 ≤ j → j ≤ 6 → inb (x4 + j) L) (h : RY M) : wpO (F_LAWc_31 xs L x4 M) RY := by
  unfold F_LAWc_31
  refine wp_t (hi 1 (by decide) (by decide)) ?_
  refine wp_bind (Y_beings h) (fun r1 hr1 => ?_)
  refine wp_t (hi 1 (by decide) (by decide)) ?_
  refine wp_bind hr1 (fun r2 hr2 => ?_)
  exact wp_some hr2
theorem L_32 {xs : Nat → Int32} {L : Nat} {x4 : Int32} {M : Mem} (hi : ∀ j : Int32, 1 ≤ j → j ≤ 6 → inb (x4 + j) L) (h : RY M) : wpO (F_LAWc_32 xs L x4 M) RY := by
  unfold F_LAWc_32
  refine wp_t (hi 1 (by decide) (by decide)) ?_
  refine wp_bind (Y_stays h) (fun r1 hr1 => ?_)
  refine wp_t (hi 1 (by decide) (by decide)) ?_
  refine wp_bind hr1 (fun r2 hr2 => ?_)
  exact wp_some hr2
theorem L_33 {xs : Nat → Int32} {L : Nat} {x4 : Int32} {M : Mem} (hi : ∀ j : Int32, 1 ≤ j → j ≤ 6 → inb (x4 + j) L) (h : RY M) : wpO (F_LAWc_33 xs L x4 M) RY := by
  unfold F_LAWc_33
  refine wp_t (hi 1 (by decide) (by decide)) ?_
  refine wp_t (hi 2 (by decide) (by decide)) ?_
  refine wp_bind (Y_all h) (fun r1 hr1 => ?_)
  refine wp_t (hi 1 (by decide) (by decide)) ?_
  refine wp_t (hi 2 (by decide) (by decide)) ?_
  refine wp_bind hr1 (fun r2 hr2 => ?_)
  exact wp_some hr2
theorem L_34 {xs : Nat → Int32} {L : Nat} {x4 : Int32} {M : Mem} (hi : ∀ j : Int32, 1 ≤ j → j ≤ 6 → inb (x4 + j) L) (h : RY M) : wpO (F_LAWc_34 xs L x4 M) RY := by
  unfold F_LAWc_34
  refine wp_t (hi 1 (by decide) (by decide)) ?_
  refine wp_t (hi 2 (by decide) (by decide)) ?_
  refine wp_bind (Y_begin h) (fun r1 hr1 => ?_)
  refine wp_t (hi 1 (by decide) (by decide)) ?_
  refine wp_t (hi 2 (by decide) (by decide)) ?_
  refine wp_bind hr1 (fun r2 hr2 => ?_)
  exact wp_some hr2
theorem L_35 {xs : Nat → Int32} {L : Nat} {x4 : Int32} {M : Mem} (hi : ∀ j : Int32, 1 ≤ j → j ≤ 6 → inb (x4 + j) L) (h : RY M) : wpO (F_LAWc_35 xs L x4 M) RY := by
  unfold F_LAWc_35
  refine wp_t (hi 1 (by decide) (by decide)) ?_
  refine wp_t (hi 2 (by decide) (by decide)) ?_
  refine wp_bind (Y_villager h) (fun r1 hr1 => ?_)
  refine wp_t (hi 1 (by decide) (by decide)) ?_
  refine wp_t (hi 2 (by decide) (by decide)) ?_
  refine wp_bind hr1 (fun r2 hhr2 => ?_)
  obtain ⟨hr2, qr2⟩ := hhr2
  exact wp_some hr2
theorem L_36 {xs : Nat → Int32} {L : Nat} {x4 : Int32} {M : Mem} (hi : ∀ j : Int32, 1 ≤ j → j ≤ 6 → inb (x4 + j) L) (h : RY M) : wpO (F_LAWc_36 xs L x4 M) RY := by
  unfold F_LAWc_36
  refine wp_t (hi 1 (by decide) (by decide)) ?_
  refine wp_t (hi 2 (by decide) (by decide)) ?_
  refine wp_if (fun c0 => ?_) (fun c0 => ?_)
  · unfold F_LAWc_36_j1886
    refine wp_bind (Y_villageEdge h) (fun r1_37 hr1_37 => ?_)
    refine wp_t (hi 1 (by decide) (by decide)) ?_
    refine wp_t (hi 2 (by decide) (by decide)) ?_
    refine wp_t c0 ?_
    unfold F_LAWc_36_j1913
    refine wp_bind hr1_37 (fun r2_38 hr2_38 => ?_)
    exact wp_some hr2_38
  · unfold F_LAWc_36_j1886
    refine wp_bind (Y_villageEdge h) (fun r1_39 hr1_39 => ?_)
    refine wp_t (hi 1 (by decide) (by decide)) ?_
    refine wp_t (hi 2 (by decide) (by decide)) ?_
    refine wp_f c0 ?_
    unfold F_LAWc_36_j1913
    refine wp_bind hr1_39 (fun r2_40 hr2_40 => ?_)
    exact wp_some hr2_40
theorem L_37 {xs : Nat → Int32} {L : Nat} {x4 : Int32} {M : Mem} (hi : ∀ j : Int32, 1 ≤ j → j ≤ 6 → inb (x4 + j) L) (h : RY M) : wpO (F_LAWc_37 xs L x4 M) RY := by
  unfold F_LAWc_37
  refine wp_t (hi 1 (by decide) (by decide)) ?_
  refine wp_bind (Y_village h) (fun r1 hr1 => ?_)
  refine wp_t (hi 1 (by decide) (by decide)) ?_
  refine wp_bind hr1 (fun r2 hr2 => ?_)
  exact wp_some hr2
theorem L_38 {xs : Nat → Int32} {L : Nat} {x4 : Int32} {M : Mem} (hi : ∀ j : Int32, 1 ≤ j → j ≤ 6 → inb (x4 + j) L) (h : RY M) : wpO (F_LAWc_38 xs L x4 M) RY := by
  unfold F_LAWc_38
  refine wp_bind (Y_image h) (fun r1 hr1 => ?_)
  refine wp_bind hr1 (fun r2 hr2 => ?_)
  exact wp_some hr2
theorem L_39 {xs : Nat → Int32} {L : Nat} {x4 : Int32} {M : Mem} (hi : ∀ j : Int32, 1 ≤ j → j ≤ 6 → inb (x4 + j) L) (h : RY M) : wpO (F_LAWc_39 xs L x4 M) RY := by
  unfold F_LAWc_39
  refine wp_bind (Y_back h) (fun r1 hr1 => ?_)
  refine wp_bind hr1 (fun r2 hhr2 => ?_)
  obtain ⟨hr2, qr2⟩ := hhr2
  exact wp_some hr2
theorem L_40 {xs : Nat → Int32} {L : Nat} {x4 : Int32} {M : Mem} (hi : ∀ j : Int32, 1 ≤ j → j ≤ 6 → inb (x4 + j) L) (h : RY M) : wpO (F_LAWc_40 xs L x4 M) RY := by
  unfold F_LAWc_40
  refine wp_t (hi 1 (by decide) (by decide)) ?_
  refine wp_bind (Y_count h) (fun r1 hr1 => ?_)
  refine wp_t (hi 1 (by decide) (by decide)) ?_
  refine wp_bind hr1 (fun r2 hr2 => ?_)
  exact wp_some hr2
theorem L_sw {xs : Nat → Int32} {L : Nat} {x4 k : Int32} {M : Mem} (hi : ∀ j : Int32, 1 ≤ j → j ≤ 6 → inb (x4 + j) L) (h : RY M) : wpO (F_law_sw xs L x4 k M) RY := by
  unfold F_law_sw
  refine wp_if (fun _ => L_0 hi h) (fun _ => ?_)
  refine wp_if (fun _ => L_1 hi h) (fun _ => ?_)
  refine wp_if (fun _ => L_2 hi h) (fun _ => ?_)
  refine wp_if (fun _ => L_3 hi h) (fun _ => ?_)
  refine wp_if (fun _ => L_4 hi h) (fun _ => ?_)
  refine wp_if (fun _ => L_5 hi h) (fun _ => ?_)
  refine wp_if (fun _ => L_6 hi h) (fun _ => ?_)
  refine wp_if (fun _ => L_7 hi h) (fun _ => ?_)
  refine wp_if (fun _ => L_8 hi h) (fun _ => ?_)
  refine wp_if (fun _ => L_9 hi h) (fun _ => ?_)
  refine wp_if (fun _ => L_10 hi h) (fun _ => ?_)
  refine wp_if (fun _ => L_11 hi h) (fun _ => ?_)
  refine wp_if (fun _ => L_12 hi h) (fun _ => ?_)
  refine wp_if (fun _ => L_13 hi h) (fun _ => ?_)
  refine wp_if (fun _ => L_14 hi h) (fun _ => ?_)
  refine wp_if (fun _ => L_15 hi h) (fun _ => ?_)
  refine wp_if (fun _ => L_16 hi h) (fun _ => ?_)
  refine wp_if (fun _ => L_17 hi h) (fun _ => ?_)
  refine wp_if (fun _ => L_18 hi h) (fun _ => ?_)
  refine wp_if (fun _ => L_19 hi h) (fun _ => ?_)
  refine wp_if (fun _ => L_20 hi h) (fun _ => ?_)
  refine wp_if (fun _ => L_21 hi h) (fun _ => ?_)
  refine wp_if (fun _ => L_22 hi h) (fun _ => ?_)
  refine wp_if (fun _ => L_23 hi h) (fun _ => ?_)
  refine wp_if (fun _ => L_24 hi h) (fun _ => ?_)
  refine wp_if (fun _ => L_25 hi h) (fun _ => ?_)
  refine wp_if (fun _ => L_26 hi h) (fun _ => ?_)
  refine wp_if (fun _ => L_27 hi h) (fun _ => ?_)
  refine wp_if (fun _ => L_28 hi h) (fun _ => ?_)
  refine wp_if (fun _ => L_29 hi h) (fun _ => ?_)
  refine wp_if (fun _ => L_30 hi h) (fun _ => ?_)
  refine wp_if (fun _ => L_31 hi h) (fun _ => ?_)
  refine wp_if (fun _ => L_32 hi h) (fun _ => ?_)
  refine wp_if (fun _ => L_33 hi h) (fun _ => ?_)
  refine wp_if (fun _ => L_34 hi h) (fun _ => ?_)
  refine wp_if (fun _ => L_35 hi h) (fun _ => ?_)
  refine wp_if (fun _ => L_36 hi h) (fun _ => ?_)
  refine wp_if (fun _ => L_37 hi h) (fun _ => ?_)
  refine wp_if (fun _ => L_38 hi h) (fun _ => ?_)
  refine wp_if (fun _ => L_39 hi h) (fun _ => ?_)
  refine wp_if (fun _ => L_40 hi h) (fun _ => ?_)
  exact wp_some h
theorem InvR_start : InvR M_start := by
  have w0 : (M_start.1 95 0).toInt = 2 ∧ (M_start.1 95 1).toInt = 1 ∧ (M_start.1 95 2).toInt = 2 ∧ (M_start.1 95 3).toInt = 0 ∧ (M_start.1 95 4).toInt = 1 ∧ (M_start.1 95 5).toInt = 0 ∧ (M_start.1 95 6).toInt = 10 ∧ (M_start.1 95 7).toInt = 0 ∧ (M_start.1 95 8).toInt = 0 ∧ M_start.1 94 3 = 0 ∧ (M_start.1 94 5).toInt = 0 := by decide +kernel
  have w9 : ∀ j : Nat, j < 18 → (M_start.1 95 (9 + j)).toInt = 0 := by decide +kernel
  have wr : ∀ j : Nat, j < 400 → (M_start.1 95 (152 + j)).toInt = 0 := by decide +kernel
  obtain ⟨a0, a1, a2, a3, a4, a5, a6, a7, a8, a9, a10⟩ := w0
  refine ⟨⟨by omega, by omega, by omega, by omega, by omega, by omega, by omega, fun j hj => ?_, fun w hw => ?_, fun j hj => ?_, fun k hk => ?_⟩, fun q => absurd a9 q, by omega, by omega⟩
  · rw [w9 j hj]
    omega
  · omega
  · rw [wr j hj]
    omega
  · omega
theorem RS_start : RS M_start := by
  have w0 : M_start.1 1 0 = M_start.1 95 0 ∧ M_start.1 1 1 = M_start.1 95 1 ∧ M_start.1 1 2 = M_start.1 95 2 ∧ M_start.1 1 3 = M_start.1 95 3 ∧ M_start.1 1 4 = M_start.1 95 4 ∧ M_start.1 1 5 = M_start.1 95 6 ∧ M_start.1 1 8 = M_start.1 95 8 ∧ M_start.1 0 2 = M_start.1 94 3 ∧ M_start.1 94 3 = 0 ∧ M_start.1 27 1 = M_start.1 94 5 ∧ (M_start.1 95 8).toInt = 0 := by decide +kernel
  have w9 : ∀ j : Nat, j < 18 → M_start.2 3 j = (M_start.1 95 (9 + j)).toInt64 := by decide +kernel
  obtain ⟨a0, a1, a2, a3, a4, a5, a6, a7, a8, a9, a10⟩ := w0
  exact ⟨InvR_start, ⟨⟨a0, a1, a2, a3, a4, a5, a6, w9, fun k hk => absurd hk (by omega)⟩, a7, fun q => absurd a8 q⟩, a9⟩
theorem RY_start : RY M_start := by
  have w0 : M_start.1 1 6 = M_start.1 95 5 ∧ M_start.1 1 7 = M_start.1 95 7 ∧ (M_start.1 95 5).toInt = 0 ∧ (M_start.1 95 7).toInt = 0 ∧ M_start.1 94 3 = 0 ∧ M_start.1 0 4 = M_start.1 94 9 ∧ (M_start.1 94 5).toInt = 0 := by decide +kernel
  obtain ⟨a0, a1, a2, a3, a4, a5, a6⟩ := w0
  exact ⟨RS_start, ⟨a0, a1, fun w hw => absurd hw (by omega), fun j hj => absurd hj (by omega)⟩, fun q => absurd a4 q, a5, fun j hj => absurd hj (by omega)⟩
theorem law_math (xs : Nat → Int32) (L : Nat) (hL : L ≤ 3584) : wpO (iter (F_law_b xs L) FUEL (nI (7 * 0), M_start)) (fun _ => True) := by
  refine wp_iterS (P := fun k z => z.1 = iI ((7 * k : Nat) : Int) ∧ RY z.2) 600 ?_ _ _ ⟨rfl, RY_start⟩ (FUEL_big (by decide))
  rintro k ⟨z1, M⟩ hk ⟨e1, h⟩
  dsimp only at e1 h
  subst e1
  have l7 : (7 : Int32) = iI 7 := rfl
  have eL : nI L - 7 = iI ((L : Int) - 7) := by rw [nI_iI, l7, iI_sub]
  unfold F_law_b
  dsimp only
  rw [eL]
  refine wp_if (fun _ => wp_some trivial) (fun c => ?_)
  rw [iI_lt (by omega) (by omega) (by omega) (by omega)] at c
  refine wp_t (inb_iI (by omega) (by omega) (by omega)) ?_
  have hi : ∀ j : Int32, 1 ≤ j → j ≤ 6 → inb (iI ((7 * k : Nat) : Int) + j) L := by
    intro j j1 j6
    rw [le_i, li1] at j1
    rw [le_i, li6] at j6
    have e : (iI ((7 * k : Nat) : Int) + j).toInt = 7 * k + j.toInt := by rw [a32] <;> rw [iI_toInt (by omega) (by omega)] <;> omega
    exact inb_i (by omega) (by omega)
  refine wp_bind (L_sw hi h) (fun M2 h2 => wp_some ⟨by omega, ?_, h2⟩)
  show iI ((7 * k : Nat) : Int) + 7 = _
  rw [l7, iI_add]
  congr 1
