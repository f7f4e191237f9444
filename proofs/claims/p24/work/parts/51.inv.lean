/-! ===== what the reference's cells always hold, and what every call keeps of it ===== -/
def InvR (M : Mem) : Prop := RIW (M.1 95) ∧ (¬ M.1 94 3 = 0 → RIW (M.1 96)) ∧ 0 ≤ (M.1 94 5).toInt ∧ (M.1 94 5).toInt ≤ 400
theorem InvR.of {M N : Mem} (h : InvR M) (h1 : RIW (N.1 95)) (h2 : N.1 96 = M.1 96) (h3 : N.1 94 3 = M.1 94 3) (h4 : N.1 94 5 = M.1 94 5) : InvR N :=
  ⟨h1, by rw [h3, h2]; exact h.2.1, by rw [h4]; exact h.2.2.1, by rw [h4]; exact h.2.2.2⟩
theorem InvR.fr {S : Nat → Nat → Prop} {M N : Mem} (h : InvR M) (f : Frm S M N) (hs : ∀ k j, S k j → ¬ (k = 95 ∨ k = 96 ∨ (k = 94 ∧ (j = 3 ∨ j = 5)))) : InvR N := by
  have e95 : N.1 95 = M.1 95 := funext fun j => (f 95 j (fun q => hs _ _ q (Or.inl rfl))).1
  refine h.of (by rw [e95]; exact h.1) (funext fun j => (f 96 j (fun q => hs _ _ q (Or.inr (Or.inl rfl)))).1) (f 94 3 (fun q => hs _ _ q (Or.inr (Or.inr ⟨rfl, Or.inl rfl⟩)))).1 (f 94 5 (fun q => hs _ _ q (Or.inr (Or.inr ⟨rfl, Or.inr rfl⟩)))).1
/-- the world may be another one -/
theorem InvR.fw {S : Nat → Nat → Prop} {M N : Mem} (h : InvR M) (f : Frm S M N) (h1 : RIW (N.1 95)) (hs : ∀ k j, S k j → ¬ (k = 96 ∨ (k = 94 ∧ (j = 3 ∨ j = 5)))) : InvR N :=
  h.of h1 (funext fun j => (f 96 j (fun q => hs _ _ q (Or.inl rfl))).1) (f 94 3 (fun q => hs _ _ q (Or.inr ⟨rfl, Or.inl rfl⟩))).1 (f 94 5 (fun q => hs _ _ q (Or.inr ⟨rfl, Or.inr rfl⟩))).1
theorem RIW.ext564 {W W' : Nat → Int32} (h : RIW W) (he : ∀ j, j < 564 → W' j = W j) : RIW W' := by
  have r5 := h.ways
  have r8 := h.vilN
  refine ⟨?_, ?_, ?_, ?_, ?_, ?_, ?_, ?_, ?_, ?_, ?_⟩
  · rw [he 0 (by omega)]
    exact h.acts
  · rw [he 1 (by omega), he 2 (by omega)]
    exact h.tom
  · rw [he 3 (by omega), he 4 (by omega)]
    exact h.mis
  · rw [he 5 (by omega)]
    exact h.ways
  · rw [he 6 (by omega)]
    exact h.rnds
  · rw [he 7 (by omega)]
    exact h.rowN
  · rw [he 8 (by omega)]
    exact h.vilN
  · intro j hj
    rw [he (9 + j) (by omega)]
    exact h.brj j hj
  · intro w hw
    rw [he 5 (by omega)] at hw
    obtain ⟨a, b, c⟩ := h.way w hw
    refine ⟨?_, ?_, fun m hm => ?_⟩
    · rw [he (27 + 13 * w) (by omega)]
      exact a
    · rw [he (27 + 13 * w) (by omega)]
      exact b
    · rw [he (27 + 13 * w) (by omega)] at hm
      obtain ⟨⟨c1, c2⟩, c3⟩ := c m hm
      refine ⟨?_, fun s hs => ?_⟩
      · rw [he (28 + 13 * w + m) (by omega)]
        exact ⟨c1, c2⟩
      · rw [he (31 + 13 * w + 3 * m + s) (by omega), he (27 + 13 * w) (by omega)]
        exact c3 s hs
  · intro j hj
    rw [he (152 + j) (by omega)]
    exact h.row j hj
  · intro k hk
    rw [he 8 (by omega)] at hk
    rw [he (552 + 2 * k) (by omega), he (553 + 2 * k) (by omega)]
    exact h.vil k hk
theorem RIW.low {W W' : Nat → Int32} (h : RIW W) (he : ∀ j, 9 ≤ j → W' j = W j) (h0 : 2 ≤ (W' 0).toInt ∧ (W' 0).toInt ≤ 3) (h1 : 1 ≤ (W' 1).toInt ∧ (W' 1).toInt < (W' 2).toInt ∧ (W' 2).toInt ≤ 9) (h3 : 0 ≤ (W' 3).toInt ∧ (W' 3).toInt < (W' 4).toInt ∧ (W' 4).toInt ≤ 9) (h5 : W' 5 = W 5) (h6 : 1 ≤ (W' 6).toInt ∧ (W' 6).toInt ≤ 30) (h7 : W' 7 = W 7) (h8 : W' 8 = W 8) : RIW W' := by
  refine ⟨h0, h1, h3, by rw [h5]; exact h.ways, h6, by rw [h7]; exact h.rowN, by rw [h8]; exact h.vilN, fun j hj => ?_, fun w hw => ?_, fun j hj => ?_, fun k hk => ?_⟩
  · rw [he _ (by omega)]
    exact h.brj j hj
  · rw [h5] at hw
    obtain ⟨a, b, c⟩ := h.way w hw
    have e1 := he (27 + 13 * w) (by omega)
    refine ⟨by rw [e1]; exact a, by rw [e1]; exact b, fun m hm => ?_⟩
    rw [e1] at hm
    obtain ⟨c1, c3⟩ := c m hm
    exact ⟨by rw [he _ (by omega)]; exact c1, fun s hs => by rw [he _ (by omega), e1]; exact c3 s hs⟩
  · rw [he _ (by omega)]
    exact h.row j hj
  · rw [h8] at hk
    rw [he _ (by omega), he _ (by omega)]
    exact h.vil k hk
theorem RIW.bri {W W' : Nat → Int32} (h : RIW W) (he : ∀ j, (j < 9 ∨ 27 ≤ j) → W' j = W j) (hb : ∀ j : Nat, j < 18 → -99 ≤ (W' (9 + j)).toInt ∧ (W' (9 + j)).toInt ≤ 99) : RIW W' := by
  refine ⟨?_, ?_, ?_, ?_, ?_, ?_, ?_, hb, fun w hw => ?_, fun j hj => ?_, fun k hk => ?_⟩
  · rw [he 0 (by omega)]
    exact h.acts
  · rw [he 1 (by omega), he 2 (by omega)]
    exact h.tom
  · rw [he 3 (by omega), he 4 (by omega)]
    exact h.mis
  · rw [he 5 (by omega)]
    exact h.ways
  · rw [he 6 (by omega)]
    exact h.rnds
  · rw [he 7 (by omega)]
    exact h.rowN
  · rw [he 8 (by omega)]
    exact h.vilN
  · rw [he 5 (by omega)] at hw
    obtain ⟨a, b, c⟩ := h.way w hw
    have e1 := he (27 + 13 * w) (by omega)
    refine ⟨by rw [e1]; exact a, by rw [e1]; exact b, fun m hm => ?_⟩
    rw [e1] at hm
    obtain ⟨c1, c3⟩ := c m hm
    exact ⟨by rw [he _ (by omega)]; exact c1, fun s hs => by rw [he _ (by omega), e1]; exact c3 s hs⟩
  · rw [he _ (by omega)]
    exact h.row j hj
  · rw [he 8 (by omega)] at hk
    rw [he _ (by omega), he _ (by omega)]
    exact h.vil k hk
theorem RIW.vill {W W' : Nat → Int32} (h : RIW W) {n : Nat} (hn : (W 8).toInt = n) (n6 : n < 6) (he : ∀ j, j ≠ 8 → j ≠ 552 + 2 * n → j ≠ 553 + 2 * n → W' j = W j) (h8 : (W' 8).toInt = n + 1) (hc : 0 ≤ (W' (552 + 2 * n)).toInt ∧ (W' (552 + 2 * n)).toInt ≤ 999) (hg : 1 ≤ (W' (553 + 2 * n)).toInt ∧ (W' (553 + 2 * n)).toInt ≤ 99) : RIW W' := by
  have r5 := h.ways
  refine ⟨?_, ?_, ?_, ?_, ?_, ?_, by omega, fun j hj => ?_, fun w hw => ?_, fun j hj => ?_, fun k hk => ?_⟩
  · rw [he 0 (by omega) (by omega) (by omega)]
    exact h.acts
  · rw [he 1 (by omega) (by omega) (by omega), he 2 (by omega) (by omega) (by omega)]
    exact h.tom
  · rw [he 3 (by omega) (by omega) (by omega), he 4 (by omega) (by omega) (by omega)]
    exact h.mis
  · rw [he 5 (by omega) (by omega) (by omega)]
    exact h.ways
  · rw [he 6 (by omega) (by omega) (by omega)]
    exact h.rnds
  · rw [he 7 (by omega) (by omega) (by omega)]
    exact h.rowN
  · rw [he (9 + j) (by omega) (by omega) (by omega)]
    exact h.brj j hj
  · rw [he 5 (by omega) (by omega) (by omega)] at hw
    obtain ⟨a, b, c⟩ := h.way w hw
    have e1 := he (27 + 13 * w) (by omega) (by omega) (by omega)
    refine ⟨by rw [e1]; exact a, by rw [e1]; exact b, fun m hm => ?_⟩
    rw [e1] at hm
    obtain ⟨c1, c3⟩ := c m hm
    exact ⟨by rw [he _ (by omega) (by omega) (by omega)]; exact c1, fun s hs => by rw [he _ (by omega) (by omega) (by omega), e1]; exact c3 s hs⟩
  · rw [he (152 + j) (by omega) (by omega) (by omega)]
    exact h.row j hj
  · by_cases q : k = n
    · rw [q]
      exact ⟨hc, hg⟩
    · rw [he (552 + 2 * k) (by omega) (by omega) (by omega), he (553 + 2 * k) (by omega) (by omega) (by omega)]
      exact h.vil k (by omega)
/-! the calls that tell something -/
theorem i2 {n a b : Int32} (h : a ≤ n ∧ n ≤ b) : a.toInt ≤ n.toInt ∧ n.toInt ≤ b.toInt := ⟨le_i.mp h.1, le_i.mp h.2⟩
theorem K_acts {n : Int32} {M : Mem} (h : InvR M) : wpO (F_MO_acts n M) InvR := by
  rcases P_acts n M with ⟨-, h2, h3⟩ | ⟨-, h3⟩
  · rw [h3 M]
    have b := i2 h2
    rw [li2, li3] at b
    refine wp_some (h.of ?_ (funext fun j => ?_) ?_ ?_)
    · exact h.1.low (fun j hj => by rw [mI_ix (by omega)]; exact mI_cell (by decide)) (by rw [mI_hit]; exact b) h.1.tom h.1.mis rfl h.1.rnds rfl rfl
    · rfl
    · rfl
    · rfl
  · rw [h3 M]
    exact wp_some (h.of h.1 rfl rfl rfl)
theorem K_rounds {n : Int32} {M : Mem} (h : InvR M) : wpO (F_MO_rounds n M) InvR := by
  rcases P_rounds n M with ⟨-, h2, h3⟩ | ⟨-, h3⟩
  · rw [h3 M]
    have b := i2 h2
    have l30 : (30 : Int32).toInt = 30 := by decide
    rw [li1, l30] at b
    refine wp_some (h.of ?_ rfl rfl rfl)
    exact h.1.low (fun j hj => by rw [mI_ix (by omega)]; exact mI_cell (by decide)) h.1.acts h.1.tom h.1.mis rfl (by rw [mI_hit]; exact b) rfl rfl
  · rw [h3 M]
    exact wp_some (h.of h.1 rfl rfl rfl)
