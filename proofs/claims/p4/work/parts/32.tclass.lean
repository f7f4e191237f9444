/-! ===== the class's functions: each ends without a throw of the machine's, and writes only its own cells ===== -/
def muU (x : Int32) : Nat := (2147483647 - x.toInt).toNat
def muD (x : Int32) : Nat := (x.toInt + 2147483648).toNat
theorem mu_fuel (x : Int32) : muU x < FUEL := by
  have := i_lo x
  refine FUEL_big ?_
  unfold muU
  omega
theorem muD_fuel (x : Int32) : muD x < FUEL := by
  have := i_hi x
  refine FUEL_big ?_
  unfold muD
  omega
theorem up1 {i : Int32} (h : i.toInt < 2147483647) : (i + 1).toInt = i.toInt + 1 := by
  have := i_lo i
  rw [a32] <;> rw [li1] <;> omega
theorem dn1 {i : Int32} (h : -2147483648 < i.toInt) : (i + (-1)).toInt = i.toInt - 1 := by
  have := i_hi i
  have e : (-1 : Int32).toInt = -1 := by decide
  rw [a32] <;> rw [e] <;> omega
theorem muU_lt {i n : Int32} (h : i < n) : muU (i + 1) < muU i := by
  rw [lt_i] at h
  have h1 := i_hi n
  have h2 : (i + 1).toInt = i.toInt + 1 := up1 (by omega)
  unfold muU
  omega
theorem muU_le {i n : Int32} (h : ¬ n ≤ i) : muU (i + 1) < muU i := muU_lt (m32.mp h)
theorem muU_nl {i n : Int32} (h : ¬ n < i) (hn : n ≤ 1000) : muU (i + 1) < muU i := by
  rw [lt_i] at h
  rw [le_i, show (1000 : Int32).toInt = 1000 by decide] at hn
  have h2 : (i + 1).toInt = i.toInt + 1 := up1 (by omega)
  unfold muU
  omega
theorem muD_0 {i : Int32} (h : ¬ i < 0) : muD (i + (-1)) < muD i := by
  rw [lt_i, li0] at h
  have h2 : (i + (-1)).toInt = i.toInt - 1 := dn1 (by omega)
  unfold muD
  omega
theorem muD_08 {i : Int32} (h : ¬ i < 0) : muD (i + (-8)) < muD i := by
  rw [lt_i, li0] at h
  have h1 := i_hi i
  have e : (-8 : Int32).toInt = -8 := by decide
  have h2 : (i + (-8)).toInt = i.toInt - 8 := by rw [a32] <;> rw [e] <;> omega
  unfold muD
  omega
theorem muD_x {i n : Int32} (h : ¬ i < n) (hn : -2147483648 < n) : muD (i + (-1)) < muD i := by
  rw [lt_i] at h
  rw [lt_i, show (-2147483648 : Int32).toInt = -2147483648 by decide] at hn
  have h2 : (i + (-1)).toInt = i.toInt - 1 := dn1 (by omega)
  unfold muD
  omega
theorem ne_toL {x : Int32} (h : ¬ x = 0) : ¬ x.toInt64 = 0 := by
  intro q
  apply h
  rw [← Int64.toInt_inj, Int32.toInt_toInt64] at q
  rw [← Int32.toInt_inj, q]
  decide
theorem wp_x {α β : Type} {X : Option ((String ⊕ α) × Mem)} {k : α → Mem → Option ((String ⊕ β) × Mem)} {Φ : (String ⊕ β) × Mem → Prop} {A : String → Prop} {S : Nat → Prop} {M : Mem} (h : wpO X (fun r => (∀ E, r.1 = .inl E → A E) ∧ Same S M r.2)) (hx : ∀ E M1, A E → Same S M M1 → Φ (.inl E, M1)) (hk : ∀ v M1, Same S M M1 → wpO (k v M1) Φ) : wpO (xbind X k) Φ := by
  obtain ⟨⟨r, M1⟩, h1, h2, h3⟩ := h
  rw [h1]
  cases r with
  | inl E => exact ⟨_, rfl, hx E M1 (h2 E rfl) h3⟩
  | inr v => exact hk v M1 h3
theorem nI_leN (n : Nat) : (nI n).toInt ≤ n := by
  rcases Nat.lt_or_ge n 2147483648 with h | h
  · rw [nI_toInt h]
    exact Int.le_refl _
  · have := i_hi (nI n)
    omega
theorem inb_of {i : Int32} {n : Nat} (h1 : ¬ i < 0) (h2 : i < nI n) : inb i n := by
  rw [lt_i, li0] at h1
  rw [lt_i] at h2
  have := nI_leN n
  exact inb_i (by omega) (by omega)
theorem T_Row_at (ba bn : Nat) (x : Int32) (M : Mem) : wpO (F_Row_at ba bn x M) (fun _ => True) := by
  unfold F_Row_at
  refine wp_if (fun _ => wp_some trivial) (fun c1 => wp_if (fun c2 => ?_) (fun _ => wp_some trivial))
  exact wp_t (inb_of c1 c2) (wp_some trivial)
theorem T_Row_small (ba bn : Nat) (x : Int32) (M : Mem) : wpO (F_Row_small ba bn x M) (fun _ => True) := by
  unfold F_Row_small
  refine wp_if (fun _ => wp_some trivial) (fun c1 => wp_if (fun c2 => ?_) (fun _ => wp_some trivial))
  exact wp_t (inb_of c1 c2) (wp_some trivial)
theorem T_Row_smallQ (ba bn : Nat) (x : Int32) (M : Mem) : wpO (F_Row_small ba bn x M) (fun r => r = 0 ∨ ∃ j, j < bn ∧ r = (M.2 ba j).toInt32) := by
  unfold F_Row_small
  refine wp_if (fun _ => wp_some (Or.inl rfl)) (fun c1 => wp_if (fun c2 => ?_) (fun _ => wp_some (Or.inl rfl)))
  refine wp_t (inb_of c1 c2) (wp_some (Or.inr ⟨_, ?_, rfl⟩))
  have h := inb_of c1 c2
  exact Nat.lt_of_not_le (fun q => h (Or.inr q))
theorem T_Row_put (ba bn : Nat) (x : Int32) (v : Int64) (M : Mem) : wpO (F_Row_put ba bn x v M) (fun r => Same (fun k => k = ba) M r) := by
  unfold F_Row_put
  refine wp_if (fun _ => wp_some Same.rfl') (fun c1 => wp_if (fun _ => wp_some Same.rfl') (fun c2 => ?_))
  exact wp_t (inb_of c1 (m32.mp c2)) (wp_some (Same.rfl'.sL rfl))
theorem T_Row_putQ (ba bn : Nat) (x : Int32) (v : Int64) (M : Mem) : wpO (F_Row_put ba bn x v M) (fun r => Same (fun k => k = ba) M r ∧ ∀ j, r.2 ba j = M.2 ba j ∨ r.2 ba j = v) := by
  unfold F_Row_put
  refine wp_if (fun _ => wp_some ⟨Same.rfl', fun _ => Or.inl rfl⟩) (fun c1 => wp_if (fun _ => wp_some ⟨Same.rfl', fun _ => Or.inl rfl⟩) (fun c2 => ?_))
  refine wp_t (inb_of c1 (m32.mp c2)) (wp_some ⟨Same.rfl'.sL rfl, fun j => ?_⟩)
  rw [mSL_2]
  by_cases h : ba = ba ∧ j = x.toNatClampNeg
  · exact Or.inr (if_pos h)
  · exact Or.inl (if_neg h)
theorem T_Row_add (ba bn : Nat) (x : Int32) (v : Int64) (M : Mem) : wpO (F_Row_add ba bn x v M) (fun r => Same (fun k => k = ba) M r) := by
  unfold F_Row_add
  exact wp_bind (T_Row_at _ _ _ _) (fun r1 _ => wp_bind (T_Row_put _ _ _ _ _) (fun r2 h => wp_some h))
theorem T_Row_setAllQ (ba bn : Nat) (v : Int64) (M : Mem) : wpO (F_Row_setAll ba bn v M) (fun r => Same (fun k => k = ba) M r ∧ ∀ j, j < bn → bn < 1000 → r.2 ba j = v) := by
  unfold F_Row_setAll F_Row_setAll_l2
  refine wp_bind (Ψ := fun r => Same (fun k => k = ba) M r ∧ ∀ j, j < bn → bn < 1000 → r.2 ba j = v) (wp_while (P := fun z => 0 ≤ z.1.toInt ∧ Same (fun k => k = ba) M z.2 ∧ ∀ j : Nat, (j : Int) < z.1.toInt → z.2.2 ba j = v) (μ := fun z => muU z.1) (fun z hz => ?_) FUEL (0, M) ⟨by decide, Same.rfl', fun j hj => absurd hj (by rw [li0]; omega)⟩ (mu_fuel _)) (fun r hr => wp_some hr)
  obtain ⟨h0, h1, h2⟩ := hz
  unfold F_Row_setAll_b2
  refine wp_if (fun c1 => wp_some ⟨h1, fun j hj hb => h2 j ?_⟩) (fun c1 => ?_)
  · rw [le_i, nI_toInt (by omega)] at c1
    omega
  · have c2 := m32.mp c1
    have hb : inb z.1 bn := inb_of (by rw [lt_i, li0]; omega) c2
    have c3 := c2
    rw [lt_i] at c3
    have := nI_leN bn
    have := i_hi (nI bn)
    have e1 : (z.1 + 1).toInt = z.1.toInt + 1 := up1 (by omega)
    refine wp_t hb (wp_some ⟨⟨?_, h1.sL rfl, fun j hj => ?_⟩, muU_lt c2⟩)
    · show 0 ≤ (z.1 + 1).toInt
      omega
    · show (mSL z.2 ba z.1.toNatClampNeg v).2 ba j = v
      have hj2 : (j : Int) < (z.1 + 1).toInt := hj
      rw [mSL_2, clamp_i]
      by_cases q : j = z.1.toInt.toNat
      · rw [if_pos ⟨rfl, q⟩]
      · rw [if_neg (fun w => q w.2)]
        exact h2 j (by omega)
theorem T_Row_setAll (ba bn : Nat) (v : Int64) (M : Mem) : wpO (F_Row_setAll ba bn v M) (fun r => Same (fun k => k = ba) M r) := wp_mono (T_Row_setAllQ ba bn v M) (fun _ h => h.1)
theorem T_Row_takeFromQ (ba bn oa on : Nat) (M : Mem) (hne : ba ≠ oa) : wpO (F_Row_takeFrom ba bn oa on M) (fun r => Same (fun k => k = ba) M r ∧ ∀ j, j < bn → bn < 1000 → on = bn → r.2 ba j = M.2 oa j) := by
  unfold F_Row_takeFrom F_Row_takeFrom_l2
  refine wp_bind (Ψ := fun r => Same (fun k => k = ba) M r ∧ ∀ j, j < bn → bn < 1000 → on = bn → r.2 ba j = M.2 oa j) (wp_while (P := fun z => 0 ≤ z.1.toInt ∧ Same (fun k => k = ba) M z.2 ∧ (bn < 1000 → on = bn → ∀ j : Nat, (j : Int) < z.1.toInt → z.2.2 ba j = M.2 oa j)) (μ := fun z => muU z.1) (fun z hz => ?_) FUEL (0, M) ⟨by decide, Same.rfl', fun _ _ j hj => absurd hj (by rw [li0]; omega)⟩ (mu_fuel _)) (fun r hr => wp_some hr)
  obtain ⟨h0, h1, h2⟩ := hz
  unfold F_Row_takeFrom_b2
  refine wp_if (fun c1 => wp_some ⟨h1, fun j hj hb ho => h2 hb ho j ?_⟩) (fun c1 => ?_)
  · rw [le_i, nI_toInt (by omega)] at c1
    omega
  · have c2 := m32.mp c1
    have hb : inb z.1 bn := inb_of (by rw [lt_i, li0]; omega) c2
    have c3 := c2
    rw [lt_i] at c3
    have hle := nI_leN bn
    have := i_hi (nI bn)
    have e1 : (z.1 + 1).toInt = z.1.toInt + 1 := up1 (by omega)
    have hat : wpO (F_Row_at oa on z.1 z.2) (fun r => bn < 1000 → on = bn → r = M.2 oa z.1.toInt.toNat) := by
      obtain ⟨r, hr, -⟩ := T_Row_at oa on z.1 z.2
      refine ⟨r, hr, fun hb ho => ?_⟩
      have h9 := R_at (a := oa) (n := on) (i := z.1) (M := z.2) h0 (by omega) (by omega)
      rw [hr] at h9
      rw [Option.some.inj h9, (h1 oa (fun q => hne q.symm)).2]
    refine wp_bind hat (fun r1 hr1 => wp_t hb (wp_some ⟨⟨?_, h1.sL rfl, fun hb ho j hj => ?_⟩, muU_lt c2⟩))
    · show 0 ≤ (z.1 + 1).toInt
      omega
    · show (mSL z.2 ba z.1.toNatClampNeg r1).2 ba j = _
      have hj2 : (j : Int) < (z.1 + 1).toInt := hj
      rw [mSL_2, clamp_i]
      by_cases q : j = z.1.toInt.toNat
      · rw [if_pos ⟨rfl, q⟩, hr1 hb ho, q]
      · rw [if_neg (fun w => q w.2)]
        exact h2 hb ho j (by omega)
theorem T_Row_takeFrom (ba bn oa on : Nat) (M : Mem) : wpO (F_Row_takeFrom ba bn oa on M) (fun r => Same (fun k => k = ba) M r) := by
  unfold F_Row_takeFrom F_Row_takeFrom_l2
  refine wp_bind (Ψ := fun r => Same (fun k => k = ba) M r) (wp_while (P := fun z => 0 ≤ z.1.toInt ∧ Same (fun k => k = ba) M z.2) (μ := fun z => muU z.1) (fun z hz => ?_) FUEL (0, M) ⟨by decide, Same.rfl'⟩ (mu_fuel _)) (fun r hr => wp_some hr)
  obtain ⟨h0, h1⟩ := hz
  unfold F_Row_takeFrom_b2
  refine wp_if (fun c1 => wp_some h1) (fun c1 => ?_)
  have c2 := m32.mp c1
  have hb : inb z.1 bn := inb_of (by rw [lt_i, li0]; omega) c2
  have c3 := c2
  rw [lt_i] at c3
  have := i_hi (nI bn)
  have e1 : (z.1 + 1).toInt = z.1.toInt + 1 := up1 (by omega)
  refine wp_bind (T_Row_at _ _ _ _) (fun r1 _ => wp_t hb (wp_some ⟨⟨?_, h1.sL rfl⟩, muU_lt c2⟩))
  show 0 ≤ (z.1 + 1).toInt
  omega
def muT6 (z : Mem) : Nat := ((z.1 27 1).toInt - (z.1 27 6).toInt).toNat
def muT5 (z : Mem) : Nat := ((z.1 27 1).toInt - (z.1 27 5).toInt).toNat
theorem muT6_f (z : Mem) : muT6 z < FUEL := by
  have := i_hi (z.1 27 1)
  have := i_lo (z.1 27 6)
  refine FUEL_big ?_
  unfold muT6
  omega
theorem muT5_f (z : Mem) : muT5 z < FUEL := by
  have := i_hi (z.1 27 1)
  have := i_lo (z.1 27 5)
  refine FUEL_big ?_
  unfold muT5
  omega
theorem muT6_s {z : Mem} (h : ¬ z.1 27 1 ≤ z.1 27 6) : muT6 (mSI z 27 6 (z.1 27 6 + 1)) < muT6 z := by
  rw [le_i] at h
  have := i_hi (z.1 27 1)
  have e1 : (z.1 27 6 + 1).toInt = (z.1 27 6).toInt + 1 := up1 (by omega)
  unfold muT6
  rw [mI_ix (show (1 : Nat) ≠ 6 by decide), mI_hit, e1]
  omega
theorem muT5_s {z : Mem} (h : ¬ z.1 27 1 ≤ z.1 27 5) : muT5 (mSI z 27 5 (z.1 27 5 + 1)) < muT5 z := by
  rw [le_i] at h
  have := i_hi (z.1 27 1)
  have e1 : (z.1 27 5 + 1).toInt = (z.1 27 5).toInt + 1 := up1 (by omega)
  unfold muT5
  rw [mI_ix (show (1 : Nat) ≠ 5 by decide), mI_hit, e1]
  omega
theorem wp_h {α β : Type} {X : Option ((String ⊕ α) × Mem)} {hx : String → Mem → Option β} {k : α → Mem → Option β} {Φ : β → Prop} {A : String → Prop} {S : Nat → Prop} {M : Mem} (h : wpO X (fun r => (∀ E, r.1 = .inl E → A E) ∧ Same S M r.2)) (he : ∀ E M1, A E → Same S M M1 → wpO (hx E M1) Φ) (hk : ∀ v M1, Same S M M1 → wpO (k v M1) Φ) : wpO (hbind X hx k) Φ := by
  obtain ⟨⟨r, M1⟩, h1, h2, h3⟩ := h
  rw [h1]
  cases r with
  | inl E => exact he E M1 (h2 E rfl) h3
  | inr v => exact hk v M1 h3

theorem T_Math_abs (x0 : Int64) (M : Mem) : wpO (F_Math_abs x0 M) (fun r => True) := by
  unfold F_Math_abs
  refine wp_if (fun c1 => ?_) (fun c1 => ?_)
  · exact wp_some trivial
  · exact wp_some trivial
theorem T_Fraction_commonPart_b15 (M : Mem) (z : Int64 × Int64 × Int32) : wpO (F_Fraction_commonPart_b15 M z) (fun r => (match r with | .inl s => muU s.2.2 < muU z.2.2 | .inr r => True)) := by
  unfold F_Fraction_commonPart_b15
  refine wp_if (fun c1 => ?_) (fun c1 => ?_)
  · exact wp_some trivial
  · refine wp_if (fun c2 => ?_) (fun c2 => ?_)
    · exact wp_some trivial
    · refine wp_t c2 ?_
      exact wp_some (muU_le c1)
theorem T_Fraction_commonPart (x0 : Int64) (x2 : Int64) (M : Mem) : wpO (F_Fraction_commonPart x0 x2 M) (fun r => True) := by
  unfold F_Fraction_commonPart
  refine wp_bind (T_Math_abs x0 M) (fun r1 hr1 => ?_)
  refine wp_bind (T_Math_abs x2 M) (fun r2 hr2 => ?_)
  unfold F_Fraction_commonPart_l15
  refine wp_bind (Ψ := fun r => True) (wp_while (P := fun _ => True) (μ := fun z => muU z.2.2) (fun z hz => wp_mono (T_Fraction_commonPart_b15 M z) (fun x hx => ?_)) FUEL (r1, r2, 0) trivial (mu_fuel _)) ?_
  · rcases x with x | x
    · exact ⟨trivial, hx⟩
    · trivial
  intro r hr
  exact wp_some trivial
theorem T_Fraction_be (b : Nat) (x1 : Int64) (x3 : Int64) (M : Mem) : wpO (F_Fraction_be b x1 x3 M) (fun r => Same (fun k => k = b) M r) := by
  unfold F_Fraction_be
  refine wp_bind (T_Fraction_commonPart x1 x3 M) (fun r1 hr1 => ?_)
  refine wp_if (fun c1 => ?_) (fun c1 => ?_)
  · unfold F_Fraction_be_j20
    exact wp_some ((((Same.rfl').sL (by first | omega | (dsimp only; omega)))).sL (by first | omega | (dsimp only; omega)))
  · refine wp_if (fun c2 => ?_) (fun c2 => ?_)
    · unfold F_Fraction_be_j20
      exact wp_some ((((Same.rfl').sL (by first | omega | (dsimp only; omega)))).sL (by first | omega | (dsimp only; omega)))
    · refine wp_t c2 ?_
      refine wp_t c2 ?_
      exact wp_some ((((Same.rfl').sL (by first | omega | (dsimp only; omega)))).sL (by first | omega | (dsimp only; omega)))
theorem T_Fraction_part (b : Nat) (x1 : Int32) (M : Mem) : wpO (F_Fraction_part b x1 M) (fun r => True) := by
  unfold F_Fraction_part
  refine wp_if (fun c1 => ?_) (fun c1 => ?_)
  · exact wp_some trivial
  · exact wp_some trivial
theorem T_Math_floorDiv (x0 : Int64) (x2 : Int64) (M : Mem) (hp0 : ¬ x2 = 0) : wpO (F_Math_floorDiv x0 x2 M) (fun r => True) := by
  unfold F_Math_floorDiv
  refine wp_t hp0 ?_
  refine wp_if (fun c1 => ?_) (fun c1 => ?_)
  · exact wp_some trivial
  · refine wp_if (fun c2 => ?_) (fun c2 => ?_)
    · exact wp_some trivial
    · exact wp_some trivial
theorem T_Fraction_order_b20 (M : Mem) (z : Int64 × Int64 × Int64 × Int64 × Int32 × Int32) : wpO (F_Fraction_order_b20 M z) (fun r => (match r with | .inl s => muU s.2.2.2.2.2 < muU z.2.2.2.2.2 | .inr r => (match r with | .inl s => True | .inr r => (match r with | .inl s => True | .inr r => (match r with | .inl s => True | .inr r => True))))) := by
  unfold F_Fraction_order_b20
  refine wp_if (fun c1 => ?_) (fun c1 => ?_)
  · exact wp_some trivial
  · refine wp_if (fun c2 => ?_) (fun c2 => ?_)
    · exact wp_some trivial
    · refine wp_if (fun c3 => ?_) (fun c3 => ?_)
      · refine wp_bind (T_Math_floorDiv z.1 z.2.1 M (by intro q; rw [q] at c2; exact c2 (by decide))) (fun r1 hr1 => ?_)
        refine wp_bind (T_Math_floorDiv z.2.2.1 z.2.2.2.1 M (by intro q; rw [q] at c3; exact absurd c3 (by decide))) (fun r2 hr2 => ?_)
        refine wp_if (fun c4 => ?_) (fun c4 => ?_)
        · refine wp_if (fun c5 => ?_) (fun c5 => ?_)
          · exact wp_some trivial
          · refine wp_if (fun c6 => ?_) (fun c6 => ?_)
            · exact wp_some trivial
            · exact wp_some (muU_le c1)
        · exact wp_some trivial
      · exact wp_some trivial
theorem T_Fraction_order (x0 : Int64) (x2 : Int64) (x4 : Int64) (x6 : Int64) (M : Mem) : wpO (F_Fraction_order x0 x2 x4 x6 M) (fun r => True) := by
  unfold F_Fraction_order
  unfold F_Fraction_order_l20
  refine wp_bind (Ψ := fun q => (match q with | .inl s => True | .inr r => (match r with | .inl s => True | .inr r => (match r with | .inl s => True | .inr r => True)))) (wp_while (P := fun _ => True) (μ := fun z => muU z.2.2.2.2.2) (fun z hz => wp_mono (T_Fraction_order_b20 M z) (fun x hx => ?_)) FUEL (x0, x2, x4, x6, 1, 0) trivial (mu_fuel _)) ?_
  · rcases x with x | x
    · exact ⟨trivial, hx⟩
    · rcases x with x | x
      · trivial
      · rcases x with x | x
        · trivial
        · rcases x with x | x
          · trivial
          · trivial
  intro q hq
  rcases q with r1 | r1
  · exact wp_some trivial
  · rcases r1 with r2 | r2
    · unfold F_Fraction_order_j90
      refine wp_if (fun c3 => ?_) (fun c3 => ?_)
      · exact wp_some trivial
      · exact wp_some trivial
    · rcases r2 with r4 | r4
      · unfold F_Fraction_order_j121
        refine wp_if (fun c5 => ?_) (fun c5 => ?_)
        · exact wp_some trivial
        · refine wp_if (fun c6 => ?_) (fun c6 => ?_)
          · exact wp_some trivial
          · exact wp_some trivial
      · exact wp_some trivial
theorem T_Well_takeFrom (b : Nat) (o1 : Nat) (M : Mem) : wpO (F_Well_takeFrom b o1 M) (fun r => Same (fun k => (b ≤ k ∧ k ≤ b + 12)) M r) := by
  unfold F_Well_takeFrom
  refine wp_bind (T_Row_takeFrom ((b + 2)) 18 ((o1 + 2)) 18 (mSI (mSI (mSI (mSI (mSI (mSI (mSI (mSI (mSI M b 0 (M.1 o1 0)) b 1 ((mSI M b 0 (M.1 o1 0)).1 o1 1)) b 2 ((mSI (mSI M b 0 (M.1 o1 0)) b 1 ((mSI M b 0 (M.1 o1 0)).1 o1 1)).1 o1 2)) b 3 ((mSI (mSI (mSI M b 0 (M.1 o1 0)) b 1 ((mSI M b 0 (M.1 o1 0)).1 o1 1)) b 2 ((mSI (mSI M b 0 (M.1 o1 0)) b 1 ((mSI M b 0 (M.1 o1 0)).1 o1 1)).1 o1 2)).1 o1 3)) b 4 ((mSI (mSI (mSI (mSI M b 0 (M.1 o1 0)) b 1 ((mSI M b 0 (M.1 o1 0)).1 o1 1)) b 2 ((mSI (mSI M b 0 (M.1 o1 0)) b 1 ((mSI M b 0 (M.1 o1 0)).1 o1 1)).1 o1 2)) b 3 ((mSI (mSI (mSI M b 0 (M.1 o1 0)) b 1 ((mSI M b 0 (M.1 o1 0)).1 o1 1)) b 2 ((mSI (mSI M b 0 (M.1 o1 0)) b 1 ((mSI M b 0 (M.1 o1 0)).1 o1 1)).1 o1 2)).1 o1 3)).1 o1 4)) b 5 ((mSI (mSI (mSI (mSI (mSI M b 0 (M.1 o1 0)) b 1 ((mSI M b 0 (M.1 o1 0)).1 o1 1)) b 2 ((mSI (mSI M b 0 (M.1 o1 0)) b 1 ((mSI M b 0 (M.1 o1 0)).1 o1 1)).1 o1 2)) b 3 ((mSI (mSI (mSI M b 0 (M.1 o1 0)) b 1 ((mSI M b 0 (M.1 o1 0)).1 o1 1)) b 2 ((mSI (mSI M b 0 (M.1 o1 0)) b 1 ((mSI M b 0 (M.1 o1 0)).1 o1 1)).1 o1 2)).1 o1 3)) b 4 ((mSI (mSI (mSI (mSI M b 0 (M.1 o1 0)) b 1 ((mSI M b 0 (M.1 o1 0)).1 o1 1)) b 2 ((mSI (mSI M b 0 (M.1 o1 0)) b 1 ((mSI M b 0 (M.1 o1 0)).1 o1 1)).1 o1 2)) b 3 ((mSI (mSI (mSI M b 0 (M.1 o1 0)) b 1 ((mSI M b 0 (M.1 o1 0)).1 o1 1)) b 2 ((mSI (mSI M b 0 (M.1 o1 0)) b 1 ((mSI M b 0 (M.1 o1 0)).1 o1 1)).1 o1 2)).1 o1 3)).1 o1 4)).1 o1 5)) b 6 ((mSI (mSI (mSI (mSI (mSI (mSI M b 0 (M.1 o1 0)) b 1 ((mSI M b 0 (M.1 o1 0)).1 o1 1)) b 2 ((mSI (mSI M b 0 (M.1 o1 0)) b 1 ((mSI M b 0 (M.1 o1 0)).1 o1 1)).1 o1 2)) b 3 ((mSI (mSI (mSI M b 0 (M.1 o1 0)) b 1 ((mSI M b 0 (M.1 o1 0)).1 o1 1)) b 2 ((mSI (mSI M b 0 (M.1 o1 0)) b 1 ((mSI M b 0 (M.1 o1 0)).1 o1 1)).1 o1 2)).1 o1 3)) b 4 ((mSI (mSI (mSI (mSI M b 0 (M.1 o1 0)) b 1 ((mSI M b 0 (M.1 o1 0)).1 o1 1)) b 2 ((mSI (mSI M b 0 (M.1 o1 0)) b 1 ((mSI M b 0 (M.1 o1 0)).1 o1 1)).1 o1 2)) b 3 ((mSI (mSI (mSI M b 0 (M.1 o1 0)) b 1 ((mSI M b 0 (M.1 o1 0)).1 o1 1)) b 2 ((mSI (mSI M b 0 (M.1 o1 0)) b 1 ((mSI M b 0 (M.1 o1 0)).1 o1 1)).1 o1 2)).1 o1 3)).1 o1 4)) b 5 ((mSI (mSI (mSI (mSI (mSI M b 0 (M.1 o1 0)) b 1 ((mSI M b 0 (M.1 o1 0)).1 o1 1)) b 2 ((mSI (mSI M b 0 (M.1 o1 0)) b 1 ((mSI M b 0 (M.1 o1 0)).1 o1 1)).1 o1 2)) b 3 ((mSI (mSI (mSI M b 0 (M.1 o1 0)) b 1 ((mSI M b 0 (M.1 o1 0)).1 o1 1)) b 2 ((mSI (mSI M b 0 (M.1 o1 0)) b 1 ((mSI M b 0 (M.1 o1 0)).1 o1 1)).1 o1 2)).1 o1 3)) b 4 ((mSI (mSI (mSI (mSI M b 0 (M.1 o1 0)) b 1 ((mSI M b 0 (M.1 o1 0)).1 o1 1)) b 2 ((mSI (mSI M b 0 (M.1 o1 0)) b 1 ((mSI M b 0 (M.1 o1 0)).1 o1 1)).1 o1 2)) b 3 ((mSI (mSI (mSI M b 0 (M.1 o1 0)) b 1 ((mSI M b 0 (M.1 o1 0)).1 o1 1)) b 2 ((mSI (mSI M b 0 (M.1 o1 0)) b 1 ((mSI M b 0 (M.1 o1 0)).1 o1 1)).1 o1 2)).1 o1 3)).1 o1 4)).1 o1 5)).1 o1 6)) b 7 ((mSI (mSI (mSI (mSI (mSI (mSI (mSI M b 0 (M.1 o1 0)) b 1 ((mSI M b 0 (M.1 o1 0)).1 o1 1)) b 2 ((mSI (mSI M b 0 (M.1 o1 0)) b 1 ((mSI M b 0 (M.1 o1 0)).1 o1 1)).1 o1 2)) b 3 ((mSI (mSI (mSI M b 0 (M.1 o1 0)) b 1 ((mSI M b 0 (M.1 o1 0)).1 o1 1)) b 2 ((mSI (mSI M b 0 (M.1 o1 0)) b 1 ((mSI M b 0 (M.1 o1 0)).1 o1 1)).1 o1 2)).1 o1 3)) b 4 ((mSI (mSI (mSI (mSI M b 0 (M.1 o1 0)) b 1 ((mSI M b 0 (M.1 o1 0)).1 o1 1)) b 2 ((mSI (mSI M b 0 (M.1 o1 0)) b 1 ((mSI M b 0 (M.1 o1 0)).1 o1 1)).1 o1 2)) b 3 ((mSI (mSI (mSI M b 0 (M.1 o1 0)) b 1 ((mSI M b 0 (M.1 o1 0)).1 o1 1)) b 2 ((mSI (mSI M b 0 (M.1 o1 0)) b 1 ((mSI M b 0 (M.1 o1 0)).1 o1 1)).1 o1 2)).1 o1 3)).1 o1 4)) b 5 ((mSI (mSI (mSI (mSI (mSI M b 0 (M.1 o1 0)) b 1 ((mSI M b 0 (M.1 o1 0)).1 o1 1)) b 2 ((mSI (mSI M b 0 (M.1 o1 0)) b 1 ((mSI M b 0 (M.1 o1 0)).1 o1 1)).1 o1 2)) b 3 ((mSI (mSI (mSI M b 0 (M.1 o1 0)) b 1 ((mSI M b 0 (M.1 o1 0)).1 o1 1)) b 2 ((mSI (mSI M b 0 (M.1 o1 0)) b 1 ((mSI M b 0 (M.1 o1 0)).1 o1 1)).1 o1 2)).1 o1 3)) b 4 ((mSI (mSI (mSI (mSI M b 0 (M.1 o1 0)) b 1 ((mSI M b 0 (M.1 o1 0)).1 o1 1)) b 2 ((mSI (mSI M b 0 (M.1 o1 0)) b 1 ((mSI M b 0 (M.1 o1 0)).1 o1 1)).1 o1 2)) b 3 ((mSI (mSI (mSI M b 0 (M.1 o1 0)) b 1 ((mSI M b 0 (M.1 o1 0)).1 o1 1)) b 2 ((mSI (mSI M b 0 (M.1 o1 0)) b 1 ((mSI M b 0 (M.1 o1 0)).1 o1 1)).1 o1 2)).1 o1 3)).1 o1 4)).1 o1 5)) b 6 ((mSI (mSI (mSI (mSI (mSI (mSI M b 0 (M.1 o1 0)) b 1 ((mSI M b 0 (M.1 o1 0)).1 o1 1)) b 2 ((mSI (mSI M b 0 (M.1 o1 0)) b 1 ((mSI M b 0 (M.1 o1 0)).1 o1 1)).1 o1 2)) b 3 ((mSI (mSI (mSI M b 0 (M.1 o1 0)) b 1 ((mSI M b 0 (M.1 o1 0)).1 o1 1)) b 2 ((mSI (mSI M b 0 (M.1 o1 0)) b 1 ((mSI M b 0 (M.1 o1 0)).1 o1 1)).1 o1 2)).1 o1 3)) b 4 ((mSI (mSI (mSI (mSI M b 0 (M.1 o1 0)) b 1 ((mSI M b 0 (M.1 o1 0)).1 o1 1)) b 2 ((mSI (mSI M b 0 (M.1 o1 0)) b 1 ((mSI M b 0 (M.1 o1 0)).1 o1 1)).1 o1 2)) b 3 ((mSI (mSI (mSI M b 0 (M.1 o1 0)) b 1 ((mSI M b 0 (M.1 o1 0)).1 o1 1)) b 2 ((mSI (mSI M b 0 (M.1 o1 0)) b 1 ((mSI M b 0 (M.1 o1 0)).1 o1 1)).1 o1 2)).1 o1 3)).1 o1 4)) b 5 ((mSI (mSI (mSI (mSI (mSI M b 0 (M.1 o1 0)) b 1 ((mSI M b 0 (M.1 o1 0)).1 o1 1)) b 2 ((mSI (mSI M b 0 (M.1 o1 0)) b 1 ((mSI M b 0 (M.1 o1 0)).1 o1 1)).1 o1 2)) b 3 ((mSI (mSI (mSI M b 0 (M.1 o1 0)) b 1 ((mSI M b 0 (M.1 o1 0)).1 o1 1)) b 2 ((mSI (mSI M b 0 (M.1 o1 0)) b 1 ((mSI M b 0 (M.1 o1 0)).1 o1 1)).1 o1 2)).1 o1 3)) b 4 ((mSI (mSI (mSI (mSI M b 0 (M.1 o1 0)) b 1 ((mSI M b 0 (M.1 o1 0)).1 o1 1)) b 2 ((mSI (mSI M b 0 (M.1 o1 0)) b 1 ((mSI M b 0 (M.1 o1 0)).1 o1 1)).1 o1 2)) b 3 ((mSI (mSI (mSI M b 0 (M.1 o1 0)) b 1 ((mSI M b 0 (M.1 o1 0)).1 o1 1)) b 2 ((mSI (mSI M b 0 (M.1 o1 0)) b 1 ((mSI M b 0 (M.1 o1 0)).1 o1 1)).1 o1 2)).1 o1 3)).1 o1 4)).1 o1 5)).1 o1 6)).1 o1 7)) b 8 ((mSI (mSI (mSI (mSI (mSI (mSI (mSI (mSI M b 0 (M.1 o1 0)) b 1 ((mSI M b 0 (M.1 o1 0)).1 o1 1)) b 2 ((mSI (mSI M b 0 (M.1 o1 0)) b 1 ((mSI M b 0 (M.1 o1 0)).1 o1 1)).1 o1 2)) b 3 ((mSI (mSI (mSI M b 0 (M.1 o1 0)) b 1 ((mSI M b 0 (M.1 o1 0)).1 o1 1)) b 2 ((mSI (mSI M b 0 (M.1 o1 0)) b 1 ((mSI M b 0 (M.1 o1 0)).1 o1 1)).1 o1 2)).1 o1 3)) b 4 ((mSI (mSI (mSI (mSI M b 0 (M.1 o1 0)) b 1 ((mSI M b 0 (M.1 o1 0)).1 o1 1)) b 2 ((mSI (mSI M b 0 (M.1 o1 0)) b 1 ((mSI M b 0 (M.1 o1 0)).1 o1 1)).1 o1 2)) b 3 ((mSI (mSI (mSI M b 0 (M.1 o1 0)) b 1 ((mSI M b 0 (M.1 o1 0)).1 o1 1)) b 2 ((mSI (mSI M b 0 (M.1 o1 0)) b 1 ((mSI M b 0 (M.1 o1 0)).1 o1 1)).1 o1 2)).1 o1 3)).1 o1 4)) b 5 ((mSI (mSI (mSI (mSI (mSI M b 0 (M.1 o1 0)) b 1 ((mSI M b 0 (M.1 o1 0)).1 o1 1)) b 2 ((mSI (mSI M b 0 (M.1 o1 0)) b 1 ((mSI M b 0 (M.1 o1 0)).1 o1 1)).1 o1 2)) b 3 ((mSI (mSI (mSI M b 0 (M.1 o1 0)) b 1 ((mSI M b 0 (M.1 o1 0)).1 o1 1)) b 2 ((mSI (mSI M b 0 (M.1 o1 0)) b 1 ((mSI M b 0 (M.1 o1 0)).1 o1 1)).1 o1 2)).1 o1 3)) b 4 ((mSI (mSI (mSI (mSI M b 0 (M.1 o1 0)) b 1 ((mSI M b 0 (M.1 o1 0)).1 o1 1)) b 2 ((mSI (mSI M b 0 (M.1 o1 0)) b 1 ((mSI M b 0 (M.1 o1 0)).1 o1 1)).1 o1 2)) b 3 ((mSI (mSI (mSI M b 0 (M.1 o1 0)) b 1 ((mSI M b 0 (M.1 o1 0)).1 o1 1)) b 2 ((mSI (mSI M b 0 (M.1 o1 0)) b 1 ((mSI M b 0 (M.1 o1 0)).1 o1 1)).1 o1 2)).1 o1 3)).1 o1 4)).1 o1 5)) b 6 ((mSI (mSI (mSI (mSI (mSI (mSI M b 0 (M.1 o1 0)) b 1 ((mSI M b 0 (M.1 o1 0)).1 o1 1)) b 2 ((mSI (mSI M b 0 (M.1 o1 0)) b 1 ((mSI M b 0 (M.1 o1 0)).1 o1 1)).1 o1 2)) b 3 ((mSI (mSI (mSI M b 0 (M.1 o1 0)) b 1 ((mSI M b 0 (M.1 o1 0)).1 o1 1)) b 2 ((mSI (mSI M b 0 (M.1 o1 0)) b 1 ((mSI M b 0 (M.1 o1 0)).1 o1 1)).1 o1 2)).1 o1 3)) b 4 ((mSI (mSI (mSI (mSI M b 0 (M.1 o1 0)) b 1 ((mSI M b 0 (M.1 o1 0)).1 o1 1)) b 2 ((mSI (mSI M b 0 (M.1 o1 0)) b 1 ((mSI M b 0 (M.1 o1 0)).1 o1 1)).1 o1 2)) b 3 ((mSI (mSI (mSI M b 0 (M.1 o1 0)) b 1 ((mSI M b 0 (M.1 o1 0)).1 o1 1)) b 2 ((mSI (mSI M b 0 (M.1 o1 0)) b 1 ((mSI M b 0 (M.1 o1 0)).1 o1 1)).1 o1 2)).1 o1 3)).1 o1 4)) b 5 ((mSI (mSI (mSI (mSI (mSI M b 0 (M.1 o1 0)) b 1 ((mSI M b 0 (M.1 o1 0)).1 o1 1)) b 2 ((mSI (mSI M b 0 (M.1 o1 0)) b 1 ((mSI M b 0 (M.1 o1 0)).1 o1 1)).1 o1 2)) b 3 ((mSI (mSI (mSI M b 0 (M.1 o1 0)) b 1 ((mSI M b 0 (M.1 o1 0)).1 o1 1)) b 2 ((mSI (mSI M b 0 (M.1 o1 0)) b 1 ((mSI M b 0 (M.1 o1 0)).1 o1 1)).1 o1 2)).1 o1 3)) b 4 ((mSI (mSI (mSI (mSI M b 0 (M.1 o1 0)) b 1 ((mSI M b 0 (M.1 o1 0)).1 o1 1)) b 2 ((mSI (mSI M b 0 (M.1 o1 0)) b 1 ((mSI M b 0 (M.1 o1 0)).1 o1 1)).1 o1 2)) b 3 ((mSI (mSI (mSI M b 0 (M.1 o1 0)) b 1 ((mSI M b 0 (M.1 o1 0)).1 o1 1)) b 2 ((mSI (mSI M b 0 (M.1 o1 0)) b 1 ((mSI M b 0 (M.1 o1 0)).1 o1 1)).1 o1 2)).1 o1 3)).1 o1 4)).1 o1 5)).1 o1 6)) b 7 ((mSI (mSI (mSI (mSI (mSI (mSI (mSI M b 0 (M.1 o1 0)) b 1 ((mSI M b 0 (M.1 o1 0)).1 o1 1)) b 2 ((mSI (mSI M b 0 (M.1 o1 0)) b 1 ((mSI M b 0 (M.1 o1 0)).1 o1 1)).1 o1 2)) b 3 ((mSI (mSI (mSI M b 0 (M.1 o1 0)) b 1 ((mSI M b 0 (M.1 o1 0)).1 o1 1)) b 2 ((mSI (mSI M b 0 (M.1 o1 0)) b 1 ((mSI M b 0 (M.1 o1 0)).1 o1 1)).1 o1 2)).1 o1 3)) b 4 ((mSI (mSI (mSI (mSI M b 0 (M.1 o1 0)) b 1 ((mSI M b 0 (M.1 o1 0)).1 o1 1)) b 2 ((mSI (mSI M b 0 (M.1 o1 0)) b 1 ((mSI M b 0 (M.1 o1 0)).1 o1 1)).1 o1 2)) b 3 ((mSI (mSI (mSI M b 0 (M.1 o1 0)) b 1 ((mSI M b 0 (M.1 o1 0)).1 o1 1)) b 2 ((mSI (mSI M b 0 (M.1 o1 0)) b 1 ((mSI M b 0 (M.1 o1 0)).1 o1 1)).1 o1 2)).1 o1 3)).1 o1 4)) b 5 ((mSI (mSI (mSI (mSI (mSI M b 0 (M.1 o1 0)) b 1 ((mSI M b 0 (M.1 o1 0)).1 o1 1)) b 2 ((mSI (mSI M b 0 (M.1 o1 0)) b 1 ((mSI M b 0 (M.1 o1 0)).1 o1 1)).1 o1 2)) b 3 ((mSI (mSI (mSI M b 0 (M.1 o1 0)) b 1 ((mSI M b 0 (M.1 o1 0)).1 o1 1)) b 2 ((mSI (mSI M b 0 (M.1 o1 0)) b 1 ((mSI M b 0 (M.1 o1 0)).1 o1 1)).1 o1 2)).1 o1 3)) b 4 ((mSI (mSI (mSI (mSI M b 0 (M.1 o1 0)) b 1 ((mSI M b 0 (M.1 o1 0)).1 o1 1)) b 2 ((mSI (mSI M b 0 (M.1 o1 0)) b 1 ((mSI M b 0 (M.1 o1 0)).1 o1 1)).1 o1 2)) b 3 ((mSI (mSI (mSI M b 0 (M.1 o1 0)) b 1 ((mSI M b 0 (M.1 o1 0)).1 o1 1)) b 2 ((mSI (mSI M b 0 (M.1 o1 0)) b 1 ((mSI M b 0 (M.1 o1 0)).1 o1 1)).1 o1 2)).1 o1 3)).1 o1 4)).1 o1 5)) b 6 ((mSI (mSI (mSI (mSI (mSI (mSI M b 0 (M.1 o1 0)) b 1 ((mSI M b 0 (M.1 o1 0)).1 o1 1)) b 2 ((mSI (mSI M b 0 (M.1 o1 0)) b 1 ((mSI M b 0 (M.1 o1 0)).1 o1 1)).1 o1 2)) b 3 ((mSI (mSI (mSI M b 0 (M.1 o1 0)) b 1 ((mSI M b 0 (M.1 o1 0)).1 o1 1)) b 2 ((mSI (mSI M b 0 (M.1 o1 0)) b 1 ((mSI M b 0 (M.1 o1 0)).1 o1 1)).1 o1 2)).1 o1 3)) b 4 ((mSI (mSI (mSI (mSI M b 0 (M.1 o1 0)) b 1 ((mSI M b 0 (M.1 o1 0)).1 o1 1)) b 2 ((mSI (mSI M b 0 (M.1 o1 0)) b 1 ((mSI M b 0 (M.1 o1 0)).1 o1 1)).1 o1 2)) b 3 ((mSI (mSI (mSI M b 0 (M.1 o1 0)) b 1 ((mSI M b 0 (M.1 o1 0)).1 o1 1)) b 2 ((mSI (mSI M b 0 (M.1 o1 0)) b 1 ((mSI M b 0 (M.1 o1 0)).1 o1 1)).1 o1 2)).1 o1 3)).1 o1 4)) b 5 ((mSI (mSI (mSI (mSI (mSI M b 0 (M.1 o1 0)) b 1 ((mSI M b 0 (M.1 o1 0)).1 o1 1)) b 2 ((mSI (mSI M b 0 (M.1 o1 0)) b 1 ((mSI M b 0 (M.1 o1 0)).1 o1 1)).1 o1 2)) b 3 ((mSI (mSI (mSI M b 0 (M.1 o1 0)) b 1 ((mSI M b 0 (M.1 o1 0)).1 o1 1)) b 2 ((mSI (mSI M b 0 (M.1 o1 0)) b 1 ((mSI M b 0 (M.1 o1 0)).1 o1 1)).1 o1 2)).1 o1 3)) b 4 ((mSI (mSI (mSI (mSI M b 0 (M.1 o1 0)) b 1 ((mSI M b 0 (M.1 o1 0)).1 o1 1)) b 2 ((mSI (mSI M b 0 (M.1 o1 0)) b 1 ((mSI M b 0 (M.1 o1 0)).1 o1 1)).1 o1 2)) b 3 ((mSI (mSI (mSI M b 0 (M.1 o1 0)) b 1 ((mSI M b 0 (M.1 o1 0)).1 o1 1)) b 2 ((mSI (mSI M b 0 (M.1 o1 0)) b 1 ((mSI M b 0 (M.1 o1 0)).1 o1 1)).1 o1 2)).1 o1 3)).1 o1 4)).1 o1 5)).1 o1 6)).1 o1 7)).1 o1 8))) (fun r1 hr1 => ?_)
  have mr1 := (((((((((((((((((((Same.rfl').sI (by first | omega | (dsimp only; omega)))).sI (by first | omega | (dsimp only; omega)))).sI (by first | omega | (dsimp only; omega)))).sI (by first | omega | (dsimp only; omega)))).sI (by first | omega | (dsimp only; omega)))).sI (by first | omega | (dsimp only; omega)))).sI (by first | omega | (dsimp only; omega)))).sI (by first | omega | (dsimp only; omega)))).sI (by first | omega | (dsimp only; omega)))).trans (hr1.mono (fun k hk => by first | omega | exact hk.elim | (dsimp only at hk ⊢; omega)))
  refine wp_bind (T_Row_takeFrom ((b + 4)) 117 ((o1 + 4)) 117 r1) (fun r2 hr2 => ?_)
  have mr2 := (mr1).trans (hr2.mono (fun k hk => by first | omega | exact hk.elim | (dsimp only at hk ⊢; omega)))
  refine wp_bind (T_Row_takeFrom ((b + 6)) 400 ((o1 + 6)) 400 r2) (fun r3 hr3 => ?_)
  have mr3 := (mr2).trans (hr3.mono (fun k hk => by first | omega | exact hk.elim | (dsimp only at hk ⊢; omega)))
  refine wp_bind (T_Row_takeFrom ((b + 8)) 8 ((o1 + 8)) 8 r3) (fun r4 hr4 => ?_)
  have mr4 := (mr3).trans (hr4.mono (fun k hk => by first | omega | exact hk.elim | (dsimp only at hk ⊢; omega)))
  refine wp_bind (T_Row_takeFrom ((b + 10)) 6 ((o1 + 10)) 6 r4) (fun r5 hr5 => ?_)
  have mr5 := (mr4).trans (hr5.mono (fun k hk => by first | omega | exact hk.elim | (dsimp only at hk ⊢; omega)))
  refine wp_bind (T_Row_takeFrom ((b + 12)) 6 ((o1 + 12)) 6 r5) (fun r6 hr6 => ?_)
  have mr6 := (mr5).trans (hr6.mono (fun k hk => by first | omega | exact hk.elim | (dsimp only at hk ⊢; omega)))
  exact wp_some mr6
theorem T_Well_setBrings (x1 : Int32) (x2 : Int32) (x3 : Int32) (x4 : Int32) (M : Mem) : wpO (F_Well_setBrings x1 x2 x3 x4 M) (fun r => Same (fun k => k = 3) M r) := by
  unfold F_Well_setBrings
  refine wp_bind (T_Row_put 3 18 (2 * ((3 * x1) + x2)) x3.toInt64 M) (fun r1 hr1 => ?_)
  have mr1 : Same (fun k => k = 3) M r1 := hr1.mono (fun k hk => by first | omega | exact hk.elim | (dsimp only at hk ⊢; omega))
  refine wp_bind (T_Row_put 3 18 ((2 * ((3 * x1) + x2)) + 1) x4.toInt64 r1) (fun r2 hr2 => ?_)
  have mr2 := (mr1).trans (hr2.mono (fun k hk => by first | omega | exact hk.elim | (dsimp only at hk ⊢; omega)))
  exact wp_some mr2
theorem T_Well_bringsTo (x1 : Int32) (x2 : Int32) (x3 : Int32) (M : Mem) : wpO (F_Well_bringsTo x1 x2 x3 M) (fun r => True) := by
  unfold F_Well_bringsTo
  refine wp_bind (T_Row_small 3 18 ((2 * ((3 * x2) + x3)) + x1) M) (fun r1 hr1 => ?_)
  exact wp_some trivial
theorem T_Well_bringsOwn (x1 : Int32) (x2 : Int32) (x3 : Int32) (M : Mem) : wpO (F_Well_bringsOwn x1 x2 x3 M) (fun r => True) := by
  unfold F_Well_bringsOwn
  refine wp_if (fun c1 => ?_) (fun c1 => ?_)
  · unfold F_Well_bringsOwn_j27
    refine wp_bind (T_Row_small 3 18 (2 * ((3 * x2) + x3)) M) (fun r1 hr1 => ?_)
    exact wp_some trivial
  · unfold F_Well_bringsOwn_j27
    refine wp_bind (T_Row_small 3 18 ((2 * ((3 * x3) + x2)) + 1) M) (fun r1 hr1 => ?_)
    exact wp_some trivial
theorem T_Well_putWay_b2 (o2a : Nat) (o2n : Nat) (x1 : Int32) (z : Int32 × Mem) : wpO (F_Well_putWay_b2 o2a o2n x1 z) (fun r => (match r with | .inl s => Same (fun k => k = 5) z.2 s.2 ∧ muU s.1 < muU z.1 | .inr r => Same (fun k => k = 5) z.2 r)) := by
  unfold F_Well_putWay_b2
  refine wp_if (fun c1 => ?_) (fun c1 => ?_)
  · exact wp_some Same.rfl'
  · refine wp_bind (T_Row_at o2a o2n z.1 z.2) (fun r1 hr1 => ?_)
    refine wp_bind (T_Row_put 5 117 ((x1 * 13) + z.1) r1 z.2) (fun r2 hr2 => ?_)
    have mr2 : Same (fun k => k = 5) z.2 r2 := hr2.mono (fun k hk => by first | omega | exact hk.elim | (dsimp only at hk ⊢; omega))
    exact wp_some ⟨mr2, (muU_le c1)⟩
theorem T_Well_putWay (o2a : Nat) (o2n : Nat) (x1 : Int32) (M : Mem) : wpO (F_Well_putWay o2a o2n x1 M) (fun r => Same (fun k => k = 5) M r) := by
  unfold F_Well_putWay
  unfold F_Well_putWay_l2
  refine wp_bind (Ψ := fun r => Same (fun k => k = 5) M r) (wp_while (P := fun z => Same (fun k => k = 5) M z.2) (μ := fun z => muU z.1) (fun z hz => wp_mono (T_Well_putWay_b2 o2a o2n x1 z) (fun x hx => ?_)) FUEL (0, M) Same.rfl' (mu_fuel _)) ?_
  · rcases x with x | x
    · exact ⟨hz.trans (hx.1.mono (fun k hk => by first | omega | exact hk.elim | (dsimp only at hk ⊢; omega))), hx.2⟩
    · exact hz.trans (hx.mono (fun k hk => by first | omega | exact hk.elim | (dsimp only at hk ⊢; omega)))
  intro r hr
  exact wp_some hr
theorem T_Well_putSpareWay_b16 (x1 : Int32) (x2 : Int32) (z : Int32 × Mem) : wpO (F_Well_putSpareWay_b16 x1 x2 z) (fun r => (match r with | .inl s => Same (fun k => k = 5) z.2 s.2 ∧ muU s.1 < muU z.1 | .inr r => Same (fun k => k = 5) z.2 r)) := by
  unfold F_Well_putSpareWay_b16
  refine wp_if (fun c1 => ?_) (fun c1 => ?_)
  · exact wp_some Same.rfl'
  · refine wp_bind (T_Row_put 5 117 ((x2 + 1) + (4 * z.1)) (((x1 >>> (z.1 &&& 31)) &&& 1).toInt64) z.2) (fun r2 hr2 => ?_)
    have mr2 : Same (fun k => k = 5) z.2 r2 := hr2.mono (fun k hk => by first | omega | exact hk.elim | (dsimp only at hk ⊢; omega))
    refine wp_bind (T_Row_put 5 117 (((x2 + 1) + (4 * z.1)) + 1) (((x1 >>> ((2 + (2 * z.1)) &&& 31)) &&& 1).toInt64) r2) (fun r3 hr3 => ?_)
    have mr3 := (mr2).trans (hr3.mono (fun k hk => by first | omega | exact hk.elim | (dsimp only at hk ⊢; omega)))
    refine wp_bind (T_Row_put 5 117 (((x2 + 1) + (4 * z.1)) + 2) (((x1 >>> ((3 + (2 * z.1)) &&& 31)) &&& 1).toInt64) r3) (fun r4 hr4 => ?_)
    have mr4 := (mr3).trans (hr4.mono (fun k hk => by first | omega | exact hk.elim | (dsimp only at hk ⊢; omega)))
    refine wp_bind (T_Row_put 5 117 (((x2 + 1) + (4 * z.1)) + 3) z.1.toInt64 r4) (fun r5 hr5 => ?_)
    have mr5 := (mr4).trans (hr5.mono (fun k hk => by first | omega | exact hk.elim | (dsimp only at hk ⊢; omega)))
    exact wp_some ⟨mr5, (muU_le c1)⟩
theorem T_Well_putSpareWay (x1 : Int32) (M : Mem) : wpO (F_Well_putSpareWay x1 M) (fun r => Same (fun k => k = 5) M r) := by
  unfold F_Well_putSpareWay
  refine wp_bind (T_Row_put 5 117 104 2 M) (fun r1 hr1 => ?_)
  have mr1 : Same (fun k => k = 5) M r1 := hr1.mono (fun k hk => by first | omega | exact hk.elim | (dsimp only at hk ⊢; omega))
  unfold F_Well_putSpareWay_l16
  refine wp_bind (Ψ := fun r => Same (fun k => k = 5) M r) (wp_while (P := fun z => Same (fun k => k = 5) M z.2) (μ := fun z => muU z.1) (fun z hz => wp_mono (T_Well_putSpareWay_b16 x1 104 z) (fun x hx => ?_)) FUEL (0, r1) mr1 (mu_fuel _)) ?_
  · rcases x with x | x
    · exact ⟨hz.trans (hx.1.mono (fun k hk => by first | omega | exact hk.elim | (dsimp only at hk ⊢; omega))), hx.2⟩
    · exact hz.trans (hx.mono (fun k hk => by first | omega | exact hk.elim | (dsimp only at hk ⊢; omega)))
  intro r hr
  exact wp_some hr
theorem T_Well_moodsOf (x1 : Int32) (M : Mem) : wpO (F_Well_moodsOf x1 M) (fun r => True) := by
  unfold F_Well_moodsOf
  refine wp_bind (T_Row_small 5 117 (x1 * 13) M) (fun r1 hr1 => ?_)
  exact wp_some trivial
theorem T_Well_actOf (x1 : Int32) (x2 : Int32) (M : Mem) : wpO (F_Well_actOf x1 x2 M) (fun r => True) := by
  unfold F_Well_actOf
  refine wp_bind (T_Row_small 5 117 (((x1 * 13) + 1) + (4 * x2)) M) (fun r1 hr1 => ?_)
  exact wp_some trivial
theorem T_Well_nextOf (x1 : Int32) (x2 : Int32) (x3 : Int32) (M : Mem) : wpO (F_Well_nextOf x1 x2 x3 M) (fun r => True) := by
  unfold F_Well_nextOf
  refine wp_bind (T_Row_small 5 117 ((((x1 * 13) + 2) + (4 * x2)) + x3) M) (fun r1 hr1 => ?_)
  exact wp_some trivial
theorem T_Math_min_III (x0 : Int32) (x1 : Int32) (M : Mem) : wpO (F_Math_min_III x0 x1 M) (fun r => True) := by
  unfold F_Math_min_III
  refine wp_if (fun c1 => ?_) (fun c1 => ?_)
  · exact wp_some trivial
  · exact wp_some trivial
theorem T_Well_isBarred_b12 (x1 : Int32) (x2 : Int32) (M : Mem) (z : Int32) : wpO (F_Well_isBarred_b12 x1 x2 M z) (fun r => (match r with | .inl s => muU s < muU z | .inr r => (match r with | .inl s => True | .inr r => True))) := by
  unfold F_Well_isBarred_b12
  refine wp_if (fun c1 => ?_) (fun c1 => ?_)
  · exact wp_some trivial
  · refine wp_bind (T_Well_actOf x1 z M) (fun r3 hr3 => ?_)
    refine wp_if (fun c2 => ?_) (fun c2 => ?_)
    · exact wp_some (muU_le c1)
    · exact wp_some trivial
theorem T_Well_isBarred (x1 : Int32) (M : Mem) : wpO (F_Well_isBarred x1 M) (fun r => True) := by
  unfold F_Well_isBarred
  refine wp_bind (T_Well_moodsOf x1 M) (fun r1 hr1 => ?_)
  refine wp_bind (T_Math_min_III r1 3 M) (fun r2 hr2 => ?_)
  unfold F_Well_isBarred_l12
  refine wp_bind (Ψ := fun q => (match q with | .inl s => True | .inr r => True)) (wp_while (P := fun _ => True) (μ := fun z => muU z) (fun z hz => wp_mono (T_Well_isBarred_b12 x1 r2 M z) (fun x hx => ?_)) FUEL 0 trivial (mu_fuel _)) ?_
  · rcases x with x | x
    · exact ⟨trivial, hx⟩
    · rcases x with x | x
      · trivial
      · trivial
  intro q hq
  rcases q with r1 | r1
  · exact wp_some trivial
  · exact wp_some trivial
theorem T_Well_barredWays_b4 (M : Mem) (z : Int32 × Int32) : wpO (F_Well_barredWays_b4 M z) (fun r => (match r with | .inl s => muU s.2 < muU z.2 | .inr r => True)) := by
  unfold F_Well_barredWays_b4
  refine wp_if (fun c1 => ?_) (fun c1 => ?_)
  · exact wp_some trivial
  · refine wp_if (fun c2 => ?_) (fun c2 => ?_)
    · exact wp_some trivial
    · refine wp_bind (T_Well_isBarred z.2 M) (fun r1 hr1 => ?_)
      refine wp_if (fun c3 => ?_) (fun c3 => ?_)
      · exact wp_some (muU_le c1)
      · exact wp_some (muU_le c1)
theorem T_Well_barredWays (M : Mem) : wpO (F_Well_barredWays M) (fun r => True) := by
  unfold F_Well_barredWays
  unfold F_Well_barredWays_l4
  refine wp_bind (Ψ := fun r => True) (wp_while (P := fun _ => True) (μ := fun z => muU z.2) (fun z hz => wp_mono (T_Well_barredWays_b4 M z) (fun x hx => ?_)) FUEL (0, 0) trivial (mu_fuel _)) ?_
  · rcases x with x | x
    · exact ⟨trivial, hx⟩
    · trivial
  intro r hr
  exact wp_some trivial
theorem T_Well_allBeings_b4 (M : Mem) (z : Int32 × Int32) : wpO (F_Well_allBeings_b4 M z) (fun r => (match r with | .inl s => muU s.2 < muU z.2 | .inr r => True)) := by
  unfold F_Well_allBeings_b4
  refine wp_if (fun c1 => ?_) (fun c1 => ?_)
  · exact wp_some trivial
  · refine wp_bind (T_Row_small 9 8 z.2 M) (fun r1 hr1 => ?_)
    exact wp_some (muU_le c1)
theorem T_Well_allBeings (M : Mem) : wpO (F_Well_allBeings M) (fun r => True) := by
  unfold F_Well_allBeings
  unfold F_Well_allBeings_l4
  refine wp_bind (Ψ := fun r => True) (wp_while (P := fun _ => True) (μ := fun z => muU z.2) (fun z hz => wp_mono (T_Well_allBeings_b4 M z) (fun x hx => ?_)) FUEL (0, 0) trivial (mu_fuel _)) ?_
  · rcases x with x | x
    · exact ⟨trivial, hx⟩
    · trivial
  intro r hr
  exact wp_some trivial
theorem T_Well_doesUnknownAct_b2 (M : Mem) (z : Int32) : wpO (F_Well_doesUnknownAct_b2 M z) (fun r => (match r with | .inl s => muU s < muU z | .inr r => (match r with | .inl s => True | .inr r => True))) := by
  unfold F_Well_doesUnknownAct_b2
  refine wp_if (fun c1 => ?_) (fun c1 => ?_)
  · exact wp_some trivial
  · refine wp_if (fun c2 => ?_) (fun c2 => ?_)
    · exact wp_some trivial
    · refine wp_bind (T_Row_at 7 400 z M) (fun r1 hr1 => ?_)
      refine wp_if (fun c3 => ?_) (fun c3 => ?_)
      · exact wp_some (muU_le c1)
      · exact wp_some trivial
theorem T_Well_doesUnknownAct (M : Mem) : wpO (F_Well_doesUnknownAct M) (fun r => True) := by
  unfold F_Well_doesUnknownAct
  unfold F_Well_doesUnknownAct_l2
  refine wp_bind (Ψ := fun q => (match q with | .inl s => True | .inr r => True)) (wp_while (P := fun _ => True) (μ := fun z => muU z) (fun z hz => wp_mono (T_Well_doesUnknownAct_b2 M z) (fun x hx => ?_)) FUEL 0 trivial (mu_fuel _)) ?_
  · rcases x with x | x
    · exact ⟨trivial, hx⟩
    · rcases x with x | x
      · trivial
      · trivial
  intro q hq
  rcases q with r1 | r1
  · exact wp_some trivial
  · exact wp_some trivial
theorem T_Chain_clear (b : Nat) (M : Mem) : wpO (F_Chain_clear b M) (fun r => Same (fun k => k = b + 2) M r) := by
  unfold F_Chain_clear
  refine wp_bind (T_Row_setAll ((b + 2)) 9 ((-1)) M) (fun r1 hr1 => ?_)
  have mr1 : Same (fun k => k = b + 2) M r1 := hr1.mono (fun k hk => by first | omega | exact hk.elim | (dsimp only at hk ⊢; omega))
  exact wp_some mr1
theorem T_Chain_put (b : Nat) (x1 : Int32) (x2 : Int32) (x3 : Int32) (x4 : Int32) (M : Mem) : wpO (F_Chain_put b x1 x2 x3 x4 M) (fun r => Same (fun k => (b + 2 ≤ k ∧ k ≤ b + 4)) M r) := by
  unfold F_Chain_put
  refine wp_bind (T_Row_put ((b + 2)) 9 x1 x2.toInt64 M) (fun r1 hr1 => ?_)
  have mr1 : Same (fun k => (b + 2 ≤ k ∧ k ≤ b + 4)) M r1 := hr1.mono (fun k hk => by first | omega | exact hk.elim | (dsimp only at hk ⊢; omega))
  refine wp_bind (T_Row_put ((b + 4)) 18 (2 * x1) x3.toInt64 r1) (fun r2 hr2 => ?_)
  have mr2 := (mr1).trans (hr2.mono (fun k hk => by first | omega | exact hk.elim | (dsimp only at hk ⊢; omega)))
  refine wp_bind (T_Row_put ((b + 4)) 18 ((2 * x1) + 1) x4.toInt64 r2) (fun r3 hr3 => ?_)
  have mr3 := (mr2).trans (hr3.mono (fun k hk => by first | omega | exact hk.elim | (dsimp only at hk ⊢; omega)))
  exact wp_some mr3
theorem T_Chain_closeRing_b91 (b : Nat) (x1 : Int32) (x3 : Int32) (x10 : Int64) (z : Int64 × Int32 × Mem) (hp0 : -2147483648 < x1) : wpO (F_Chain_closeRing_b91 b x1 x3 x10 z) (fun r => (match r with | .inl s => Same (fun k => (b + 6 ≤ k ∧ k ≤ b + 8)) z.2.2 s.2.2 ∧ muD s.2.1 < muD z.2.1 | .inr r => Same (fun k => (b + 6 ≤ k ∧ k ≤ b + 8)) z.2.2 r)) := by
  unfold F_Chain_closeRing_b91
  refine wp_if (fun c1 => ?_) (fun c1 => ?_)
  · exact wp_some Same.rfl'
  · refine wp_bind (T_Row_small ((b + 10)) 9 z.2.1 z.2.2) (fun r1 hr1 => ?_)
    refine wp_bind (T_Row_at ((b + 4)) 18 ((2 * r1) + x3) z.2.2) (fun r2 hr2 => ?_)
    refine wp_bind (T_Row_put ((b + 6)) 18 ((2 * r1) + x3) ((r2 * x10) + ((z.2.2.2 b 6) * z.1)) z.2.2) (fun r3 hr3 => ?_)
    have mr3 : Same (fun k => (b + 6 ≤ k ∧ k ≤ b + 8)) z.2.2 r3 := hr3.mono (fun k hk => by first | omega | exact hk.elim | (dsimp only at hk ⊢; omega))
    refine wp_bind (T_Row_small ((b + 10)) 9 z.2.1 r3) (fun r4 hr4 => ?_)
    refine wp_bind (T_Row_put ((b + 8)) 9 r4 x10 r3) (fun r5 hr5 => ?_)
    have mr5 := (mr3).trans (hr5.mono (fun k hk => by first | omega | exact hk.elim | (dsimp only at hk ⊢; omega)))
    refine wp_if (fun c2 => ?_) (fun c2 => ?_)
    · exact wp_some ⟨mr5, (muD_x c1 hp0)⟩
    · refine wp_t c2 ?_
      exact wp_some ⟨mr5, (muD_x c1 hp0)⟩
theorem T_Chain_closeRing_b12 (b : Nat) (x1 : Int32) (x2 : Int32) (x3 : Int32) (M : Mem) (z : Int64 × Int64 × Int64 × Int32) : wpO (F_Chain_closeRing_b12 b x1 x2 x3 M z) (fun r => (match r with | .inl s => muU s.2.2.2 < muU z.2.2.2 | .inr r => True)) := by
  unfold F_Chain_closeRing_b12
  refine wp_if (fun c1 => ?_) (fun c1 => ?_)
  · exact wp_some trivial
  · refine wp_bind (T_Row_small ((b + 10)) 9 z.2.2.2 M) (fun r6 hr6 => ?_)
    refine wp_bind (T_Row_at ((b + 4)) 18 ((2 * r6) + x3) M) (fun r7 hr7 => ?_)
    exact wp_some (muU_le c1)
theorem T_Chain_closeRing (b : Nat) (x1 : Int32) (x2 : Int32) (x3 : Int32) (M : Mem) (hp0 : -2147483648 < x1) : wpO (F_Chain_closeRing b x1 x2 x3 M) (fun r => Same (fun k => (b + 6 ≤ k ∧ k ≤ b + 8)) M r) := by
  unfold F_Chain_closeRing
  unfold F_Chain_closeRing_l12
  refine wp_bind (Ψ := fun r => True) (wp_while (P := fun _ => True) (μ := fun z => muU z.2.2.2) (fun z hz => wp_mono (T_Chain_closeRing_b12 b x1 x2 x3 M z) (fun x hx => ?_)) FUEL (0, 1, 1, x1) trivial (mu_fuel _)) ?_
  · rcases x with x | x
    · exact ⟨trivial, hx⟩
    · trivial
  intro r hr
  unfold F_Chain_closeRing_j75
  unfold F_Chain_closeRing_l91
  refine wp_bind (Ψ := fun r => Same (fun k => (b + 6 ≤ k ∧ k ≤ b + 8)) M r) (wp_while (P := fun z => Same (fun k => (b + 6 ≤ k ∧ k ≤ b + 8)) M z.2.2) (μ := fun z => muD z.2.1) (fun z hz => wp_mono (T_Chain_closeRing_b91 b x1 x3 (r.2.2 - r.2.1) z (by first | decide | assumption | exact n32.mp (by assumption))) (fun x hx => ?_)) FUEL (r.1, (x2 - 1), M) Same.rfl' (muD_fuel _)) ?_
  · rcases x with x | x
    · exact ⟨hz.trans (hx.1.mono (fun k hk => by first | omega | exact hk.elim | (dsimp only at hk ⊢; omega))), hx.2⟩
    · exact hz.trans (hx.mono (fun k hk => by first | omega | exact hk.elim | (dsimp only at hk ⊢; omega)))
  intro r hr
  exact wp_some hr
theorem T_Chain_walkBack_b35 (b : Nat) (x1 : Int32) (x2 : Int32) (x3 : Int64) (z : Int32 × Mem) : wpO (F_Chain_walkBack_b35 b x1 x2 x3 z) (fun r => (match r with | .inl s => Same (fun k => k = b + 6) z.2 s.2 ∧ muU s.1 < muU z.1 | .inr r => Same (fun k => k = b + 6) z.2 r)) := by
  unfold F_Chain_walkBack_b35
  refine wp_if (fun c1 => ?_) (fun c1 => ?_)
  · exact wp_some Same.rfl'
  · refine wp_bind (T_Row_at ((b + 4)) 18 ((2 * x1) + z.1) z.2) (fun r4 hr4 => ?_)
    refine wp_bind (T_Row_at ((b + 6)) 18 ((2 * x2) + z.1) z.2) (fun r5 hr5 => ?_)
    refine wp_bind (T_Row_put ((b + 6)) 18 ((2 * x1) + z.1) ((r4 * x3) + ((z.2.2 b 6) * r5)) z.2) (fun r6 hr6 => ?_)
    have mr6 : Same (fun k => k = b + 6) z.2 r6 := hr6.mono (fun k hk => by first | omega | exact hk.elim | (dsimp only at hk ⊢; omega))
    exact wp_some ⟨mr6, (muU_le c1)⟩
theorem T_Chain_walkBack (b : Nat) (x1 : Int32) (M : Mem) : wpO (F_Chain_walkBack b x1 M) (fun r => Same (fun k => (b + 6 ≤ k ∧ k ≤ b + 8)) M r) := by
  unfold F_Chain_walkBack
  refine wp_bind (T_Row_small ((b + 2)) 9 x1 M) (fun r1 hr1 => ?_)
  refine wp_bind (T_Row_at ((b + 8)) 9 r1 M) (fun r2 hr2 => ?_)
  refine wp_bind (T_Row_put ((b + 8)) 9 x1 ((M.2 b 7) * r2) M) (fun r3 hr3 => ?_)
  have mr3 : Same (fun k => (b + 6 ≤ k ∧ k ≤ b + 8)) M r3 := hr3.mono (fun k hk => by first | omega | exact hk.elim | (dsimp only at hk ⊢; omega))
  unfold F_Chain_walkBack_l35
  refine wp_bind (Ψ := fun r => Same (fun k => (b + 6 ≤ k ∧ k ≤ b + 8)) M r) (wp_while (P := fun z => Same (fun k => (b + 6 ≤ k ∧ k ≤ b + 8)) M z.2) (μ := fun z => muU z.1) (fun z hz => wp_mono (T_Chain_walkBack_b35 b x1 r1 ((M.2 b 7) * r2) z) (fun x hx => ?_)) FUEL (0, r3) mr3 (mu_fuel _)) ?_
  · rcases x with x | x
    · exact ⟨hz.trans (hx.1.mono (fun k hk => by first | omega | exact hk.elim | (dsimp only at hk ⊢; omega))), hx.2⟩
    · exact hz.trans (hx.mono (fun k hk => by first | omega | exact hk.elim | (dsimp only at hk ⊢; omega)))
  intro r hr
  exact wp_some hr
theorem T_Chain_settle_b131 (b : Nat) (z : Int32 × Mem) : wpO (F_Chain_settle_b131 b z) (fun r => (match r with | .inl s => Same (fun k => (b + 6 ≤ k ∧ k ≤ b + 8)) z.2 s.2 ∧ muD s.1 < muD z.1 | .inr r => Same (fun k => (b + 6 ≤ k ∧ k ≤ b + 8)) z.2 r)) := by
  unfold F_Chain_settle_b131
  refine wp_if (fun c1 => ?_) (fun c1 => ?_)
  · exact wp_some Same.rfl'
  · refine wp_bind (T_Row_small ((b + 10)) 9 z.1 z.2) (fun r3 hr3 => ?_)
    refine wp_bind (T_Chain_walkBack b r3 z.2) (fun r4 hr4 => ?_)
    have mr4 : Same (fun k => (b + 6 ≤ k ∧ k ≤ b + 8)) z.2 r4 := hr4.mono (fun k hk => by first | omega | exact hk.elim | (dsimp only at hk ⊢; omega))
    exact wp_some ⟨mr4, (muD_0 c1)⟩
theorem T_Chain_settle_l131 (b : Nat) (x5 : Int32) (M : Mem) : wpO (F_Chain_settle_l131 b x5 M) (fun r => Same (fun k => (b + 6 ≤ k ∧ k ≤ b + 8)) M r) := by
  unfold F_Chain_settle_l131
  refine wp_bind (Ψ := fun r => Same (fun k => (b + 6 ≤ k ∧ k ≤ b + 8)) M r) (wp_while (P := fun z => Same (fun k => (b + 6 ≤ k ∧ k ≤ b + 8)) M z.2) (μ := fun z => muD z.1) (fun z hz => wp_mono (T_Chain_settle_b131 b z) (fun x hx => ?_)) FUEL (x5, M) Same.rfl' (muD_fuel _)) ?_
  · rcases x with x | x
    · exact ⟨hz.trans (hx.1.mono (fun k hk => by first | omega | exact hk.elim | (dsimp only at hk ⊢; omega))), hx.2⟩
    · exact hz.trans (hx.mono (fun k hk => by first | omega | exact hk.elim | (dsimp only at hk ⊢; omega)))
  intro r hr
  exact wp_some hr
def stQ (b : Nat) (M : Mem) : Prop := ∀ j, j < 9 → -1 ≤ (M.2 (b + 12) j).toInt ∧ (M.2 (b + 12) j).toInt ≤ 8
theorem T_Chain_settle_b14 (b : Nat) (z : Int32 × Int32 × Mem) (h0 : 0 ≤ z.1.toInt) (hQ : stQ b z.2.2) : wpO (F_Chain_settle_b14 b z) (fun x => match x with | .inl s => (0 ≤ s.1.toInt ∧ stQ b s.2.2 ∧ Same (fun k => (b + 6 ≤ k ∧ k ≤ b + 12)) z.2.2 s.2.2) ∧ muU s.1 < muU z.1 | .inr r => stQ b r.2.2 ∧ Same (fun k => (b + 6 ≤ k ∧ k ≤ b + 12)) z.2.2 r.2.2) := by
  unfold F_Chain_settle_b14
  refine wp_if (fun c1 => wp_some ⟨hQ, Same.rfl'⟩) (fun c1 => ?_)
  refine wp_bind (T_Row_at _ _ _ _) (fun r8 _ => wp_if (fun c2 => ?_) (fun c2 => wp_some ⟨hQ, Same.rfl'⟩))
  refine wp_bind (T_Row_at _ _ _ _) (fun r9 _ => wp_if (fun c3 => ?_) (fun c3 => wp_some ⟨hQ, Same.rfl'⟩))
  refine wp_bind (T_Row_put (b + 10) 9 z.1 z.2.1.toInt64 z.2.2) (fun r10 h10 => ?_)
  refine wp_bind (T_Row_putQ (b + 12) 9 z.2.1 z.1.toInt64 r10) (fun r11 h11 => ?_)
  refine wp_bind (T_Row_small _ _ _ _) (fun r12 _ => ?_)
  have c9 := c1
  rw [le_i, li9] at c9
  have e1 : (z.1 + 1).toInt = z.1.toInt + 1 := up1 (by omega)
  refine wp_some ⟨⟨?_, fun j hj => ?_, (h10.mono (fun k hk => by first | omega | exact hk.elim | (dsimp only at hk ⊢; omega))).trans (h11.1.mono (fun k hk => by first | omega | exact hk.elim | (dsimp only at hk ⊢; omega)))⟩, muU_le c1⟩
  · show 0 ≤ (z.1 + 1).toInt
    omega
  · have h8 := hQ j hj
    rw [← (h10 (b + 12) (by first | omega | (dsimp only; omega))).2 j] at h8
    show -1 ≤ (r11.2 (b + 12) j).toInt ∧ (r11.2 (b + 12) j).toInt ≤ 8
    rcases h11.2 j with q | q
    · rw [q]; exact h8
    · rw [q, Int32.toInt_toInt64]
      omega
theorem T_Chain_settle (b : Nat) (x1 : Int32) (M : Mem) : wpO (F_Chain_settle b x1 M) (fun r => Same (fun k => (b + 6 ≤ k ∧ k ≤ b + 12)) M r) := by
  unfold F_Chain_settle
  refine wp_bind (T_Row_setAllQ (b + 12) 9 (-1) M) (fun r1 h1 => ?_)
  have s1 : Same (fun k => (b + 6 ≤ k ∧ k ≤ b + 12)) M r1 := h1.1.mono (fun k hk => by first | omega | exact hk.elim | (dsimp only at hk ⊢; omega))
  have q1 : stQ b r1 := fun j hj => by
    rw [h1.2 j hj (by decide)]
    exact ⟨by decide, by decide⟩
  unfold F_Chain_settle_l14
  refine wp_bind (Ψ := fun r => stQ b r.2.2 ∧ Same (fun k => (b + 6 ≤ k ∧ k ≤ b + 12)) M r.2.2) (wp_while (P := fun z => 0 ≤ z.1.toInt ∧ stQ b z.2.2 ∧ Same (fun k => (b + 6 ≤ k ∧ k ≤ b + 12)) M z.2.2) (μ := fun z => muU z.1) (fun z hz => wp_mono (T_Chain_settle_b14 b z hz.1 hz.2.1) (fun x hx => ?_)) FUEL (0, x1, r1) ⟨by decide, q1, s1⟩ (mu_fuel _)) ?_
  · rcases x with x | x
    · exact ⟨⟨hx.1.1, hx.1.2.1, hz.2.2.trans hx.1.2.2⟩, hx.2⟩
    · exact ⟨hx.1, hz.2.2.trans hx.2⟩
  intro r hr
  unfold F_Chain_settle_j83
  refine wp_bind (T_Row_at _ _ _ _) (fun r2 _ => wp_if (fun c2 => ?_) (fun c2 => ?_))
  · refine wp_bind (T_Row_smallQ (b + 12) 9 r.2.1 r.2.2) (fun r5 h5 => ?_)
    have p5 : (-2147483648 : Int32) < r5 := by
      rw [lt_i, show (-2147483648 : Int32).toInt = -2147483648 by decide]
      rcases h5 with rfl | ⟨j, hj, rfl⟩
      · decide
      · have := hr.1 j hj
        rw [Int64.toInt_toInt32, Int.bmod_eq_of_le (by omega) (by omega)]
        omega
    refine wp_bind (T_Chain_closeRing b r5 r.1 0 r.2.2 p5) (fun r6 h6 => ?_)
    refine wp_bind (T_Chain_closeRing b r5 r.1 1 r6 p5) (fun r7 h7 => ?_)
    exact wp_mono (T_Chain_settle_l131 b (r5 - 1) r7) (fun r8 h8 => hr.2.trans (((h6.mono (fun k hk => by first | omega | exact hk.elim | (dsimp only at hk ⊢; omega))).trans (h7.mono (fun k hk => by first | omega | exact hk.elim | (dsimp only at hk ⊢; omega)))).trans (h8.mono (fun k hk => by first | omega | exact hk.elim | (dsimp only at hk ⊢; omega)))))
  · exact wp_mono (T_Chain_settle_l131 b (r.1 - 1) r.2.2) (fun r8 h8 => hr.2.trans (h8.mono (fun k hk => by first | omega | exact hk.elim | (dsimp only at hk ⊢; omega))))

theorem T_Chain_reckon_b21 (b : Nat) (z : Int32 × Mem) : wpO (F_Chain_reckon_b21 b z) (fun r => (match r with | .inl s => Same (fun k => (b + 6 ≤ k ∧ k ≤ b + 12)) z.2 s.2 ∧ muU s.1 < muU z.1 | .inr r => Same (fun k => (b + 6 ≤ k ∧ k ≤ b + 12)) z.2 r)) := by
  unfold F_Chain_reckon_b21
  refine wp_if (fun c1 => ?_) (fun c1 => ?_)
  · exact wp_some Same.rfl'
  · refine wp_bind (T_Row_at ((b + 2)) 9 z.1 z.2) (fun r2 hr2 => ?_)
    refine wp_if (fun c2 => ?_) (fun c2 => ?_)
    · exact wp_some ⟨Same.rfl', (muU_le c1)⟩
    · refine wp_bind (T_Row_at ((b + 8)) 9 z.1 z.2) (fun r3 hr3 => ?_)
      refine wp_if (fun c3 => ?_) (fun c3 => ?_)
      · refine wp_bind (T_Chain_settle b z.1 z.2) (fun r4 hr4 => ?_)
        have mr4 : Same (fun k => (b + 6 ≤ k ∧ k ≤ b + 12)) z.2 r4 := hr4.mono (fun k hk => by first | omega | exact hk.elim | (dsimp only at hk ⊢; omega))
        exact wp_some ⟨mr4, (muU_le c1)⟩
      · exact wp_some ⟨Same.rfl', (muU_le c1)⟩
theorem T_Chain_reckon (b : Nat) (x1 : Int64) (x3 : Int64) (M : Mem) : wpO (F_Chain_reckon b x1 x3 M) (fun r => Same (fun k => k = b ∨ (b + 6 ≤ k ∧ k ≤ b + 12)) M r) := by
  unfold F_Chain_reckon
  refine wp_bind (T_Row_setAll ((b + 8)) 9 0 (mSL (mSL M b 6 x1) b 7 x3)) (fun r1 hr1 => ?_)
  have mr1 := (((((Same.rfl').sL (by first | omega | (dsimp only; omega)))).sL (by first | omega | (dsimp only; omega)))).trans (hr1.mono (fun k hk => by first | omega | exact hk.elim | (dsimp only at hk ⊢; omega)))
  unfold F_Chain_reckon_l21
  refine wp_bind (Ψ := fun r => Same (fun k => k = b ∨ (b + 6 ≤ k ∧ k ≤ b + 12)) M r) (wp_while (P := fun z => Same (fun k => k = b ∨ (b + 6 ≤ k ∧ k ≤ b + 12)) M z.2) (μ := fun z => muU z.1) (fun z hz => wp_mono (T_Chain_reckon_b21 b z) (fun x hx => ?_)) FUEL (0, r1) mr1 (mu_fuel _)) ?_
  · rcases x with x | x
    · exact ⟨hz.trans (hx.1.mono (fun k hk => by first | omega | exact hk.elim | (dsimp only at hk ⊢; omega))), hx.2⟩
    · exact hz.trans (hx.mono (fun k hk => by first | omega | exact hk.elim | (dsimp only at hk ⊢; omega)))
  intro r hr
  exact wp_some hr
theorem T_Chain_tellWorth (b : Nat) (o3 : Nat) (x1 : Int32) (x2 : Int32) (M : Mem) : wpO (F_Chain_tellWorth b o3 x1 x2 M) (fun r => Same (fun k => k = o3) M r) := by
  unfold F_Chain_tellWorth
  refine wp_bind (T_Row_at ((b + 6)) 18 ((2 * x1) + x2) M) (fun r1 hr1 => ?_)
  refine wp_bind (T_Row_at ((b + 8)) 9 x1 M) (fun r2 hr2 => ?_)
  refine wp_bind (T_Fraction_be o3 r1 r2 M) (fun r3 hr3 => ?_)
  have mr3 : Same (fun k => k = o3) M r3 := hr3.mono (fun k hk => by first | omega | exact hk.elim | (dsimp only at hk ⊢; omega))
  exact wp_some mr3
theorem T_Chain_orderOf (b : Nat) (x1 : Int32) (x2 : Int32) (x3 : Int32) (x4 : Int32) (M : Mem) : wpO (F_Chain_orderOf b x1 x2 x3 x4 M) (fun r => True) := by
  unfold F_Chain_orderOf
  refine wp_bind (T_Row_at ((b + 8)) 9 x2 M) (fun r1 hr1 => ?_)
  refine wp_bind (T_Row_at ((b + 6)) 18 ((2 * x2) + x3) M) (fun r2 hr2 => ?_)
  refine wp_bind (T_Row_at ((b + 6)) 18 ((2 * x4) + x3) M) (fun r3 hr3 => ?_)
  refine wp_bind (T_Row_at ((b + 8)) 9 x4 M) (fun r4 hr4 => ?_)
  refine wp_bind (T_Fraction_order ((x1.toInt64 * ((M.2 b 7) * r1)) + ((M.2 b 6) * r2)) ((M.2 b 7) * r1) r3 r4 M) (fun r5 hr5 => ?_)
  exact wp_some trivial
theorem T_Pair_placeAfter (x1 : Int32) (x2 : Int32) (x3 : Int32) (x4 : Int32) (M : Mem) : wpO (F_Pair_placeAfter x1 x2 x3 x4 M) (fun r => True) := by
  unfold F_Pair_placeAfter
  refine wp_bind (T_Well_nextOf (M.1 34 2) x1 x4 M) (fun r1 hr1 => ?_)
  refine wp_bind (T_Well_nextOf (M.1 34 3) x2 x3 M) (fun r2 hr2 => ?_)
  exact wp_some trivial
theorem T_Pair_look_b70 (x3 : Int64) (x5 : Int64) (x7 : Int32) (z : Int32 × Mem) : wpO (F_Pair_look_b70 x3 x5 x7 z) (fun r => (match r with | .inl s => Same (fun k => (37 ≤ k ∧ k ≤ 39)) z.2 s.2 ∧ muU s.1 < muU z.1 | .inr r => Same (fun k => (37 ≤ k ∧ k ≤ 39)) z.2 r)) := by
  unfold F_Pair_look_b70
  refine wp_if (fun c1 => ?_) (fun c1 => ?_)
  · exact wp_some Same.rfl'
  · refine wp_bind (T_Well_actOf (z.2.1 34 2) x7 z.2) (fun r7 hr7 => ?_)
    refine wp_bind (T_Well_actOf (z.2.1 34 3) z.1 z.2) (fun r8 hr8 => ?_)
    refine wp_bind (T_Pair_placeAfter x7 z.1 r7 r8 z.2) (fun r9 hr9 => ?_)
    refine wp_bind (T_Well_bringsTo 0 r7 r8 z.2) (fun r10 hr10 => ?_)
    refine wp_bind (T_Well_bringsTo 1 r7 r8 z.2) (fun r11 hr11 => ?_)
    refine wp_bind (T_Chain_put 35 ((3 * x7) + z.1) r9 r10 r11 z.2) (fun r12 hr12 => ?_)
    have mr12 : Same (fun k => (37 ≤ k ∧ k ≤ 39)) z.2 r12 := hr12.mono (fun k hk => by first | omega | exact hk.elim | (dsimp only at hk ⊢; omega))
    exact wp_some ⟨mr12, (muU_le c1)⟩
theorem T_Pair_look_b58 (x3 : Int64) (x5 : Int64) (z : Int32 × Mem) : wpO (F_Pair_look_b58 x3 x5 z) (fun r => (match r with | .inl s => Same (fun k => (37 ≤ k ∧ k ≤ 39)) z.2 s.2 ∧ muU s.1 < muU z.1 | .inr r => Same (fun k => (37 ≤ k ∧ k ≤ 39)) z.2 r)) := by
  unfold F_Pair_look_b58
  refine wp_if (fun c1 => ?_) (fun c1 => ?_)
  · exact wp_some Same.rfl'
  · unfold F_Pair_look_l70
    refine wp_bind (Ψ := fun r => Same (fun k => (37 ≤ k ∧ k ≤ 39)) z.2 r) (wp_while (P := fun z => Same (fun k => (37 ≤ k ∧ k ≤ 39)) z.2 z.2) (μ := fun z => muU z.1) (fun z hz => wp_mono (T_Pair_look_b70 x3 x5 z.1 z) (fun x hx => ?_)) FUEL (0, z.2) Same.rfl' (mu_fuel _)) ?_
    · rcases x with x | x
      · exact ⟨hz.trans (hx.1.mono (fun k hk => by first | omega | exact hk.elim | (dsimp only at hk ⊢; omega))), hx.2⟩
      · exact hz.trans (hx.mono (fun k hk => by first | omega | exact hk.elim | (dsimp only at hk ⊢; omega)))
    intro r hr
    exact wp_some ⟨hr, (muU_le c1)⟩
theorem T_Pair_look (x1 : Int32) (x2 : Int32) (x3 : Int64) (x5 : Int64) (M : Mem) : wpO (F_Pair_look x1 x2 x3 x5 M) (fun r => Same (fun k => (34 ≤ k ∧ k ≤ 47)) M r) := by
  unfold F_Pair_look
  refine wp_bind (T_Well_moodsOf ((mSI (mSI M 34 2 x1) 34 3 x2).1 34 2) (mSI (mSI M 34 2 x1) 34 3 x2)) (fun r1 hr1 => ?_)
  refine wp_bind (T_Math_min_III r1 3 (mSI (mSI M 34 2 x1) 34 3 x2)) (fun r2 hr2 => ?_)
  refine wp_bind (T_Well_moodsOf ((mSI (mSI (mSI M 34 2 x1) 34 3 x2) 34 4 r2).1 34 3) (mSI (mSI (mSI M 34 2 x1) 34 3 x2) 34 4 r2)) (fun r3 hr3 => ?_)
  refine wp_bind (T_Math_min_III r3 3 (mSI (mSI (mSI M 34 2 x1) 34 3 x2) 34 4 r2)) (fun r4 hr4 => ?_)
  refine wp_bind (T_Chain_clear 35 (mSI (mSI (mSI (mSI M 34 2 x1) 34 3 x2) 34 4 r2) 34 5 r4)) (fun r5 hr5 => ?_)
  have mr5 := (((((((((Same.rfl').sI (by first | omega | (dsimp only; omega)))).sI (by first | omega | (dsimp only; omega)))).sI (by first | omega | (dsimp only; omega)))).sI (by first | omega | (dsimp only; omega)))).trans (hr5.mono (fun k hk => by first | omega | exact hk.elim | (dsimp only at hk ⊢; omega)))
  unfold F_Pair_look_l58
  refine wp_bind (Ψ := fun r => Same (fun k => (34 ≤ k ∧ k ≤ 47)) M r) (wp_while (P := fun z => Same (fun k => (34 ≤ k ∧ k ≤ 47)) M z.2) (μ := fun z => muU z.1) (fun z hz => wp_mono (T_Pair_look_b58 x3 x5 z) (fun x hx => ?_)) FUEL (0, r5) mr5 (mu_fuel _)) ?_
  · rcases x with x | x
    · exact ⟨hz.trans (hx.1.mono (fun k hk => by first | omega | exact hk.elim | (dsimp only at hk ⊢; omega))), hx.2⟩
    · exact hz.trans (hx.mono (fun k hk => by first | omega | exact hk.elim | (dsimp only at hk ⊢; omega)))
  intro r hr
  unfold F_Pair_look_j171
  refine wp_bind (T_Chain_reckon 35 x3 x5 r) (fun r6 hr6 => ?_)
  have mr6 := (hr).trans (hr6.mono (fun k hk => by first | omega | exact hk.elim | (dsimp only at hk ⊢; omega)))
  exact wp_some mr6
theorem T_Pair_tellWorth (o4 : Nat) (x1 : Int32) (x2 : Int32) (x3 : Int32) (M : Mem) : wpO (F_Pair_tellWorth o4 x1 x2 x3 M) (fun r => Same (fun k => k = o4) M r) := by
  unfold F_Pair_tellWorth
  refine wp_bind (T_Chain_tellWorth 35 o4 ((3 * x1) + x2) x3 M) (fun r1 hr1 => ?_)
  have mr1 : Same (fun k => k = o4) M r1 := hr1.mono (fun k hk => by first | omega | exact hk.elim | (dsimp only at hk ⊢; omega))
  exact wp_some mr1
theorem T_Pair_gainsOtherwise_b3 (x1 : Int32) (x2 : Int32) (x3 : Int32) (M : Mem) (z : Int32) : wpO (F_Pair_gainsOtherwise_b3 x1 x2 x3 M z) (fun r => (match r with | .inl s => muU s < muU z | .inr r => (match r with | .inl s => True | .inr r => True))) := by
  unfold F_Pair_gainsOtherwise_b3
  refine wp_if (fun c1 => ?_) (fun c1 => ?_)
  · exact wp_some trivial
  · refine wp_if (fun c2 => ?_) (fun c2 => ?_)
    · unfold F_Pair_gainsOtherwise_j36
      refine wp_if (fun c3 => ?_) (fun c3 => ?_)
      · unfold F_Pair_gainsOtherwise_j60
        refine wp_bind (T_Pair_placeAfter x1 x2 z z M) (fun r3 hr3 => ?_)
        refine wp_bind (T_Well_bringsTo x3 z z M) (fun r4 hr4 => ?_)
        refine wp_bind (T_Chain_orderOf 35 r4 r3 x3 ((3 * x1) + x2) M) (fun r5 hr5 => ?_)
        refine wp_if (fun c4 => ?_) (fun c4 => ?_)
        · exact wp_some (muU_le c1)
        · exact wp_some trivial
      · refine wp_bind (T_Well_actOf (M.1 34 3) x2 M) (fun r2 hr2 => ?_)
        unfold F_Pair_gainsOtherwise_j60
        refine wp_bind (T_Pair_placeAfter x1 x2 z r2 M) (fun r3 hr3 => ?_)
        refine wp_bind (T_Well_bringsTo x3 z r2 M) (fun r4 hr4 => ?_)
        refine wp_bind (T_Chain_orderOf 35 r4 r3 x3 ((3 * x1) + x2) M) (fun r5 hr5 => ?_)
        refine wp_if (fun c5 => ?_) (fun c5 => ?_)
        · exact wp_some (muU_le c1)
        · exact wp_some trivial
    · refine wp_bind (T_Well_actOf (M.1 34 2) x1 M) (fun r1 hr1 => ?_)
      unfold F_Pair_gainsOtherwise_j36
      refine wp_if (fun c6 => ?_) (fun c6 => ?_)
      · unfold F_Pair_gainsOtherwise_j60
        refine wp_bind (T_Pair_placeAfter x1 x2 r1 z M) (fun r3 hr3 => ?_)
        refine wp_bind (T_Well_bringsTo x3 r1 z M) (fun r4 hr4 => ?_)
        refine wp_bind (T_Chain_orderOf 35 r4 r3 x3 ((3 * x1) + x2) M) (fun r5 hr5 => ?_)
        refine wp_if (fun c7 => ?_) (fun c7 => ?_)
        · exact wp_some (muU_le c1)
        · exact wp_some trivial
      · refine wp_bind (T_Well_actOf (M.1 34 3) x2 M) (fun r2 hr2 => ?_)
        unfold F_Pair_gainsOtherwise_j60
        refine wp_bind (T_Pair_placeAfter x1 x2 r1 r2 M) (fun r3 hr3 => ?_)
        refine wp_bind (T_Well_bringsTo x3 r1 r2 M) (fun r4 hr4 => ?_)
        refine wp_bind (T_Chain_orderOf 35 r4 r3 x3 ((3 * x1) + x2) M) (fun r5 hr5 => ?_)
        refine wp_if (fun c8 => ?_) (fun c8 => ?_)
        · exact wp_some (muU_le c1)
        · exact wp_some trivial
theorem T_Pair_gainsOtherwise (x1 : Int32) (x2 : Int32) (x3 : Int32) (M : Mem) : wpO (F_Pair_gainsOtherwise x1 x2 x3 M) (fun r => True) := by
  unfold F_Pair_gainsOtherwise
  unfold F_Pair_gainsOtherwise_l3
  refine wp_bind (Ψ := fun q => (match q with | .inl s => True | .inr r => True)) (wp_while (P := fun _ => True) (μ := fun z => muU z) (fun z hz => wp_mono (T_Pair_gainsOtherwise_b3 x1 x2 x3 M z) (fun x hx => ?_)) FUEL 0 trivial (mu_fuel _)) ?_
  · rcases x with x | x
    · exact ⟨trivial, hx⟩
    · rcases x with x | x
      · trivial
      · trivial
  intro q hq
  rcases q with r1 | r1
  · exact wp_some trivial
  · exact wp_some trivial
theorem T_Pair_firstGain_b22 (x1 : Int32) (x2 : Int32) (M : Mem) (z : Int32) : wpO (F_Pair_firstGain_b22 x1 x2 M z) (fun r => (match r with | .inl s => muU s < muU z | .inr r => (match r with | .inl s => True | .inr r => True))) := by
  unfold F_Pair_firstGain_b22
  refine wp_if (fun c1 => ?_) (fun c1 => ?_)
  · exact wp_some trivial
  · refine wp_bind (T_Pair_gainsOtherwise x1 x2 z M) (fun r1 hr1 => ?_)
    refine wp_if (fun c2 => ?_) (fun c2 => ?_)
    · exact wp_some trivial
    · exact wp_some (muU_le c1)
theorem T_Pair_firstGain_b12 (x1 : Int32) (M : Mem) (z : Int32) : wpO (F_Pair_firstGain_b12 x1 M z) (fun r => (match r with | .inl s => muU s < muU z | .inr r => (match r with | .inl s => True | .inr r => True))) := by
  unfold F_Pair_firstGain_b12
  refine wp_if (fun c1 => ?_) (fun c1 => ?_)
  · exact wp_some trivial
  · unfold F_Pair_firstGain_l22
    refine wp_bind (Ψ := fun q => (match q with | .inl s => True | .inr r => True)) (wp_while (P := fun _ => True) (μ := fun z => muU z) (fun z hz => wp_mono (T_Pair_firstGain_b22 x1 z M z) (fun x hx => ?_)) FUEL 0 trivial (mu_fuel _)) ?_
    · rcases x with x | x
      · exact ⟨trivial, hx⟩
      · rcases x with x | x
        · trivial
        · trivial
    intro q hq
    rcases q with r2 | r2
    · exact wp_some trivial
    · exact wp_some (muU_le c1)
theorem T_Pair_firstGain_b2 (M : Mem) (z : Int32) : wpO (F_Pair_firstGain_b2 M z) (fun r => (match r with | .inl s => muU s < muU z | .inr r => (match r with | .inl s => True | .inr r => True))) := by
  unfold F_Pair_firstGain_b2
  refine wp_if (fun c1 => ?_) (fun c1 => ?_)
  · exact wp_some trivial
  · unfold F_Pair_firstGain_l12
    refine wp_bind (Ψ := fun q => (match q with | .inl s => True | .inr r => True)) (wp_while (P := fun _ => True) (μ := fun z => muU z) (fun z hz => wp_mono (T_Pair_firstGain_b12 z M z) (fun x hx => ?_)) FUEL 0 trivial (mu_fuel _)) ?_
    · rcases x with x | x
      · exact ⟨trivial, hx⟩
      · rcases x with x | x
        · trivial
        · trivial
    intro q hq
    rcases q with r2 | r2
    · exact wp_some trivial
    · exact wp_some (muU_le c1)
theorem T_Pair_firstGain (M : Mem) : wpO (F_Pair_firstGain M) (fun r => True) := by
  unfold F_Pair_firstGain
  unfold F_Pair_firstGain_l2
  refine wp_bind (Ψ := fun q => (match q with | .inl s => True | .inr r => True)) (wp_while (P := fun _ => True) (μ := fun z => muU z) (fun z hz => wp_mono (T_Pair_firstGain_b2 M z) (fun x hx => ?_)) FUEL 0 trivial (mu_fuel _)) ?_
  · rcases x with x | x
    · exact ⟨trivial, hx⟩
    · rcases x with x | x
      · trivial
      · trivial
  intro q hq
  rcases q with r1 | r1
  · unfold F_Pair_firstGain_j37
    exact wp_some trivial
  · exact wp_some trivial
theorem T_Pair_leastToHold_b18 (x1 : Int32) (x2 : Int32) (x3 : Int32) (x6 : Int32) (z : Int32 × Int32 × Int32 × Mem) : wpO (F_Pair_leastToHold_b18 x1 x2 x3 x6 z) (fun r => (match r with | .inl s => Same (fun k => (34 ≤ k ∧ k ≤ 47)) z.2.2.2 s.2.2.2 ∧ muU s.2.2.1 < muU z.2.2.1 | .inr r => Same (fun k => (34 ≤ k ∧ k ≤ 47)) z.2.2.2 r.2.2)) := by
  unfold F_Pair_leastToHold_b18
  refine wp_if (fun c1 => ?_) (fun c1 => ?_)
  · exact wp_some Same.rfl'
  · refine wp_if (fun c2 => ?_) (fun c2 => ?_)
    · exact wp_some ⟨Same.rfl', (muU_le c1)⟩
    · refine wp_bind (T_Fraction_commonPart z.2.2.1.toInt64 x6.toInt64 z.2.2.2) (fun r1 hr1 => ?_)
      refine wp_if (fun c3 => ?_) (fun c3 => ?_)
      · refine wp_bind (T_Pair_look x1 x2 z.2.2.1.toInt64 x6.toInt64 z.2.2.2) (fun r2 hr2 => ?_)
        have mr2 : Same (fun k => (34 ≤ k ∧ k ≤ 47)) z.2.2.2 r2 := hr2.mono (fun k hk => by first | omega | exact hk.elim | (dsimp only at hk ⊢; omega))
        refine wp_bind (T_Pair_firstGain r2) (fun r3 hr3 => ?_)
        refine wp_if (fun c4 => ?_) (fun c4 => ?_)
        · unfold F_Pair_leastToHold_j77
          refine wp_if (fun c5 => ?_) (fun c5 => ?_)
          · unfold F_Pair_leastToHold_j91
            refine wp_if (fun c6 => ?_) (fun c6 => ?_)
            · exact wp_some ⟨mr2, (muU_le c1)⟩
            · exact wp_some ⟨mr2, (muU_le c1)⟩
          · unfold F_Pair_leastToHold_j91
            refine wp_if (fun c7 => ?_) (fun c7 => ?_)
            · exact wp_some ⟨mr2, (muU_le c1)⟩
            · exact wp_some ⟨mr2, (muU_le c1)⟩
        · unfold F_Pair_leastToHold_j77
          refine wp_if (fun c8 => ?_) (fun c8 => ?_)
          · unfold F_Pair_leastToHold_j91
            refine wp_if (fun c9 => ?_) (fun c9 => ?_)
            · exact wp_some ⟨mr2, (muU_le c1)⟩
            · exact wp_some ⟨mr2, (muU_le c1)⟩
          · unfold F_Pair_leastToHold_j91
            refine wp_if (fun c10 => ?_) (fun c10 => ?_)
            · exact wp_some ⟨mr2, (muU_le c1)⟩
            · exact wp_some ⟨mr2, (muU_le c1)⟩
      · exact wp_some ⟨Same.rfl', (muU_le c1)⟩
theorem T_Pair_leastToHold_b9 (x1 : Int32) (x2 : Int32) (x3 : Int32) (z : Int32 × Int32 × Int32 × Mem) (hp0 : x3 ≤ 12) : wpO (F_Pair_leastToHold_b9 x1 x2 x3 z) (fun r => (match r with | .inl s => Same (fun k => (34 ≤ k ∧ k ≤ 47)) z.2.2.2 s.2.2.2 ∧ muU s.2.2.1 < muU z.2.2.1 | .inr r => Same (fun k => (34 ≤ k ∧ k ≤ 47)) z.2.2.2 r.2.2)) := by
  unfold F_Pair_leastToHold_b9
  refine wp_if (fun c1 => ?_) (fun c1 => ?_)
  · exact wp_some Same.rfl'
  · unfold F_Pair_leastToHold_l18
    refine wp_bind (Ψ := fun r => Same (fun k => (34 ≤ k ∧ k ≤ 47)) z.2.2.2 r.2.2) (wp_while (P := fun z => Same (fun k => (34 ≤ k ∧ k ≤ 47)) z.2.2.2 z.2.2.2) (μ := fun z => muU z.2.2.1) (fun z hz => wp_mono (T_Pair_leastToHold_b18 x1 x2 x3 z.2.2.1 z) (fun x hx => ?_)) FUEL (z.1, z.2.1, 1, z.2.2.2) Same.rfl' (mu_fuel _)) ?_
    · rcases x with x | x
      · exact ⟨hz.trans (hx.1.mono (fun k hk => by first | omega | exact hk.elim | (dsimp only at hk ⊢; omega))), hx.2⟩
      · exact hz.trans (hx.mono (fun k hk => by first | omega | exact hk.elim | (dsimp only at hk ⊢; omega)))
    intro r hr
    exact wp_some ⟨hr, (muU_nl c1 (Int32.le_trans hp0 (by decide)))⟩
theorem T_Pair_leastToHold (x1 : Int32) (x2 : Int32) (x3 : Int32) (M : Mem) (hp0 : x3 ≤ 12) : wpO (F_Pair_leastToHold x1 x2 x3 M) (fun r => Same (fun k => (34 ≤ k ∧ k ≤ 47)) M r.2) := by
  unfold F_Pair_leastToHold
  unfold F_Pair_leastToHold_l9
  refine wp_bind (Ψ := fun r => Same (fun k => (34 ≤ k ∧ k ≤ 47)) M r.2.2) (wp_while (P := fun z => Same (fun k => (34 ≤ k ∧ k ≤ 47)) M z.2.2.2) (μ := fun z => muU z.2.2.1) (fun z hz => wp_mono (T_Pair_leastToHold_b9 x1 x2 x3 z (by first | decide | assumption | exact n32.mp (by assumption))) (fun x hx => ?_)) FUEL (1, 1, 2, M) Same.rfl' (mu_fuel _)) ?_
  · rcases x with x | x
    · exact ⟨hz.trans (hx.1.mono (fun k hk => by first | omega | exact hk.elim | (dsimp only at hk ⊢; omega))), hx.2⟩
    · exact hz.trans (hx.mono (fun k hk => by first | omega | exact hk.elim | (dsimp only at hk ⊢; omega)))
  intro r hr
  unfold F_Pair_leastToHold_j119
  refine wp_if (fun c1 => ?_) (fun c1 => ?_)
  · exact wp_some hr
  · exact wp_some hr
theorem T_Pair_bestTogether_b32 (x6 : Int32) (z : Int32 × Int64 × Int64 × Int32 × Mem) : wpO (F_Pair_bestTogether_b32 x6 z) (fun r => (match r with | .inl s => Same (fun k => (34 ≤ k ∧ k ≤ 47)) z.2.2.2.2 s.2.2.2.2 ∧ muU s.2.2.2.1 < muU z.2.2.2.1 | .inr r => Same (fun k => (34 ≤ k ∧ k ≤ 47)) z.2.2.2.2 r.2.2.2)) := by
  unfold F_Pair_bestTogether_b32
  refine wp_if (fun c1 => ?_) (fun c1 => ?_)
  · exact wp_some Same.rfl'
  · refine wp_if (fun c2 => ?_) (fun c2 => ?_)
    · exact wp_some Same.rfl'
    · refine wp_bind (T_Well_isBarred x6 z.2.2.2.2) (fun r1 hr1 => ?_)
      refine wp_if (fun c3 => ?_) (fun c3 => ?_)
      · exact wp_some ⟨Same.rfl', (muU_le c1)⟩
      · refine wp_bind (T_Well_isBarred z.2.2.2.1 z.2.2.2.2) (fun r2 hr2 => ?_)
        refine wp_if (fun c4 => ?_) (fun c4 => ?_)
        · exact wp_some ⟨Same.rfl', (muU_le c1)⟩
        · refine wp_bind (T_Pair_look x6 z.2.2.2.1 ((z.2.2.2.2.1 1 1).toInt64) ((z.2.2.2.2.1 1 2).toInt64) z.2.2.2.2) (fun r3 hr3 => ?_)
          have mr3 : Same (fun k => (34 ≤ k ∧ k ≤ 47)) z.2.2.2.2 r3 := hr3.mono (fun k hk => by first | omega | exact hk.elim | (dsimp only at hk ⊢; omega))
          refine wp_bind (T_Pair_firstGain r3) (fun r4 hr4 => ?_)
          refine wp_if (fun c5 => ?_) (fun c5 => ?_)
          · refine wp_bind (T_Row_at 41 18 0 r3) (fun r5 hr5 => ?_)
            refine wp_bind (T_Row_at 41 18 1 r3) (fun r6 hr6 => ?_)
            refine wp_bind (T_Row_at 43 9 0 r3) (fun r7 hr7 => ?_)
            refine wp_if (fun c6 => ?_) (fun c6 => ?_)
            · unfold F_Pair_bestTogether_j169
              exact wp_some ⟨mr3, (muU_le c1)⟩
            · refine wp_bind (T_Fraction_order (r5 + r6) r7 z.2.1 z.2.2.1 r3) (fun r8 hr8 => ?_)
              refine wp_if (fun c7 => ?_) (fun c7 => ?_)
              · exact wp_some ⟨mr3, (muU_le c1)⟩
              · unfold F_Pair_bestTogether_j169
                exact wp_some ⟨mr3, (muU_le c1)⟩
          · exact wp_some ⟨mr3, (muU_le c1)⟩
theorem T_Pair_bestTogether_b10 (z : Int32 × Int64 × Int64 × Int32 × Mem) : wpO (F_Pair_bestTogether_b10 z) (fun r => (match r with | .inl s => Same (fun k => (34 ≤ k ∧ k ≤ 47)) z.2.2.2.2 s.2.2.2.2 ∧ muU s.2.2.2.1 < muU z.2.2.2.1 | .inr r => Same (fun k => (34 ≤ k ∧ k ≤ 47)) z.2.2.2.2 r.2)) := by
  unfold F_Pair_bestTogether_b10
  refine wp_if (fun c1 => ?_) (fun c1 => ?_)
  · exact wp_some Same.rfl'
  · refine wp_if (fun c2 => ?_) (fun c2 => ?_)
    · exact wp_some Same.rfl'
    · unfold F_Pair_bestTogether_l32
      refine wp_bind (Ψ := fun r => Same (fun k => (34 ≤ k ∧ k ≤ 47)) z.2.2.2.2 r.2.2.2) (wp_while (P := fun z => Same (fun k => (34 ≤ k ∧ k ≤ 47)) z.2.2.2.2 z.2.2.2.2) (μ := fun z => muU z.2.2.2.1) (fun z hz => wp_mono (T_Pair_bestTogether_b32 z.2.2.2.1 z) (fun x hx => ?_)) FUEL (z.1, z.2.1, z.2.2.1, 0, z.2.2.2.2) Same.rfl' (mu_fuel _)) ?_
      · rcases x with x | x
        · exact ⟨hz.trans (hx.1.mono (fun k hk => by first | omega | exact hk.elim | (dsimp only at hk ⊢; omega))), hx.2⟩
        · exact hz.trans (hx.mono (fun k hk => by first | omega | exact hk.elim | (dsimp only at hk ⊢; omega)))
      intro r hr
      exact wp_some ⟨hr, (muU_le c1)⟩
theorem T_Pair_bestTogether (M : Mem) : wpO (F_Pair_bestTogether M) (fun r => Same (fun k => (34 ≤ k ∧ k ≤ 47)) M r.2) := by
  unfold F_Pair_bestTogether
  unfold F_Pair_bestTogether_l10
  refine wp_bind (Ψ := fun r => Same (fun k => (34 ≤ k ∧ k ≤ 47)) M r.2) (wp_while (P := fun z => Same (fun k => (34 ≤ k ∧ k ≤ 47)) M z.2.2.2.2) (μ := fun z => muU z.2.2.2.1) (fun z hz => wp_mono (T_Pair_bestTogether_b10  z) (fun x hx => ?_)) FUEL (((-1)), 0, 1, 0, M) Same.rfl' (mu_fuel _)) ?_
  · rcases x with x | x
    · exact ⟨hz.trans (hx.1.mono (fun k hk => by first | omega | exact hk.elim | (dsimp only at hk ⊢; omega))), hx.2⟩
    · exact hz.trans (hx.mono (fun k hk => by first | omega | exact hk.elim | (dsimp only at hk ⊢; omega)))
  intro r hr
  exact wp_some hr
theorem T_Pair_lossTo (x1 : Int32) (x2 : Int32) (M : Mem) : wpO (F_Pair_lossTo x1 x2 M) (fun r => True) := by
  unfold F_Pair_lossTo
  refine wp_bind (T_Row_at 43 9 0 M) (fun r1 hr1 => ?_)
  refine wp_bind (T_Row_at 43 9 x1 M) (fun r2 hr2 => ?_)
  refine wp_if (fun c1 => ?_) (fun c1 => ?_)
  · exact wp_some trivial
  · refine wp_if (fun c2 => ?_) (fun c2 => ?_)
    · refine wp_bind (T_Row_at 41 18 x2 M) (fun r3 hr3 => ?_)
      refine wp_bind (T_Row_at 41 18 ((2 * x1) + x2) M) (fun r4 hr4 => ?_)
      refine wp_t (by intro q; rw [q] at c2; exact absurd c2 (by decide)) ?_
      refine wp_bind (T_Math_floorDiv (-(r3 - (r4 * (r1 / r2)))) r1 M (by intro q; rw [q] at c1; exact c1 (by decide))) (fun r5 hr5 => ?_)
      exact wp_some trivial
    · exact wp_some trivial
theorem T_Math_max_JJJ (x0 : Int64) (x2 : Int64) (M : Mem) : wpO (F_Math_max_JJJ x0 x2 M) (fun r => True) := by
  unfold F_Math_max_JJJ
  refine wp_if (fun c1 => ?_) (fun c1 => ?_)
  · exact wp_some trivial
  · exact wp_some trivial
theorem T_Pair_costToLeave_b7 (M : Mem) (z : Int64 × Int32 × Int32) : wpO (F_Pair_costToLeave_b7 M z) (fun r => (match r with | .inl s => muU s.2.2 < muU z.2.2 | .inr r => True)) := by
  unfold F_Pair_costToLeave_b7
  refine wp_if (fun c1 => ?_) (fun c1 => ?_)
  · exact wp_some trivial
  · refine wp_bind (T_Pair_lossTo z.2.1 0 M) (fun r1 hr1 => ?_)
    refine wp_bind (T_Pair_lossTo z.2.1 1 M) (fun r2 hr2 => ?_)
    refine wp_bind (T_Math_max_JJJ r1 r2 M) (fun r3 hr3 => ?_)
    refine wp_bind (T_Math_max_JJJ z.1 r3 M) (fun r4 hr4 => ?_)
    refine wp_bind (T_Row_small 37 9 z.2.1 M) (fun r5 hr5 => ?_)
    exact wp_some (muU_le c1)
theorem T_Pair_costToLeave (M : Mem) : wpO (F_Pair_costToLeave M) (fun r => True) := by
  unfold F_Pair_costToLeave
  unfold F_Pair_costToLeave_l7
  refine wp_bind (Ψ := fun r => True) (wp_while (P := fun _ => True) (μ := fun z => muU z.2.2) (fun z hz => wp_mono (T_Pair_costToLeave_b7 M z) (fun x hx => ?_)) FUEL (0, 0, 0) trivial (mu_fuel _)) ?_
  · rcases x with x | x
    · exact ⟨trivial, hx⟩
    · trivial
  intro r hr
  exact wp_some trivial
theorem T_Pair_chanceOf (x1 : Int32) (M : Mem) : wpO (F_Pair_chanceOf x1 M) (fun r => True) := by
  unfold F_Pair_chanceOf
  refine wp_if (fun c1 => ?_) (fun c1 => ?_)
  · exact wp_some trivial
  · exact wp_some trivial
theorem T_Pair_fillDoubt_b134 (x1 : Int32) (x2 : Int32) (x3 : Int32) (x4 : Int32) (x5 : Int32) (x8 : Int32) (z : Int32 × Mem) : wpO (F_Pair_fillDoubt_b134 x1 x2 x3 x4 x5 x8 z) (fun r => (match r with | .inl s => Same (fun k => k = 49) z.2 s.2 ∧ muU s.1 < muU z.1 | .inr r => Same (fun k => k = 49) z.2 r)) := by
  unfold F_Pair_fillDoubt_b134
  refine wp_if (fun c1 => ?_) (fun c1 => ?_)
  · exact wp_some Same.rfl'
  · refine wp_if (fun c2 => ?_) (fun c2 => ?_)
    · unfold F_Pair_fillDoubt_j153
      refine wp_bind (T_Pair_chanceOf ((b2i true)) z.2) (fun r8 hr8 => ?_)
      refine wp_if (fun c3 => ?_) (fun c3 => ?_)
      · unfold F_Pair_fillDoubt_j169
        refine wp_bind (T_Pair_chanceOf ((b2i true)) z.2) (fun r9 hr9 => ?_)
        refine wp_bind (T_Well_nextOf (z.2.1 34 2) x2 z.1 z.2) (fun r10 hr10 => ?_)
        refine wp_bind (T_Well_nextOf (z.2.1 34 3) x3 x8 z.2) (fun r11 hr11 => ?_)
        refine wp_bind (T_Row_add 49 16 ((4 * x1) + ((2 * r10) + r11)) (((-(z.2.1 1 1)).toInt64) * (r8 * r9)) z.2) (fun r12 hr12 => ?_)
        have mr12 : Same (fun k => k = 49) z.2 r12 := hr12.mono (fun k hk => by first | omega | exact hk.elim | (dsimp only at hk ⊢; omega))
        exact wp_some ⟨mr12, (muU_le c1)⟩
      · unfold F_Pair_fillDoubt_j169
        refine wp_bind (T_Pair_chanceOf ((b2i false)) z.2) (fun r9 hr9 => ?_)
        refine wp_bind (T_Well_nextOf (z.2.1 34 2) x2 z.1 z.2) (fun r10 hr10 => ?_)
        refine wp_bind (T_Well_nextOf (z.2.1 34 3) x3 x8 z.2) (fun r11 hr11 => ?_)
        refine wp_bind (T_Row_add 49 16 ((4 * x1) + ((2 * r10) + r11)) (((-(z.2.1 1 1)).toInt64) * (r8 * r9)) z.2) (fun r12 hr12 => ?_)
        have mr12 : Same (fun k => k = 49) z.2 r12 := hr12.mono (fun k hk => by first | omega | exact hk.elim | (dsimp only at hk ⊢; omega))
        exact wp_some ⟨mr12, (muU_le c1)⟩
    · unfold F_Pair_fillDoubt_j153
      refine wp_bind (T_Pair_chanceOf ((b2i false)) z.2) (fun r8 hr8 => ?_)
      refine wp_if (fun c4 => ?_) (fun c4 => ?_)
      · unfold F_Pair_fillDoubt_j169
        refine wp_bind (T_Pair_chanceOf ((b2i true)) z.2) (fun r9 hr9 => ?_)
        refine wp_bind (T_Well_nextOf (z.2.1 34 2) x2 z.1 z.2) (fun r10 hr10 => ?_)
        refine wp_bind (T_Well_nextOf (z.2.1 34 3) x3 x8 z.2) (fun r11 hr11 => ?_)
        refine wp_bind (T_Row_add 49 16 ((4 * x1) + ((2 * r10) + r11)) (((-(z.2.1 1 1)).toInt64) * (r8 * r9)) z.2) (fun r12 hr12 => ?_)
        have mr12 : Same (fun k => k = 49) z.2 r12 := hr12.mono (fun k hk => by first | omega | exact hk.elim | (dsimp only at hk ⊢; omega))
        exact wp_some ⟨mr12, (muU_le c1)⟩
      · unfold F_Pair_fillDoubt_j169
        refine wp_bind (T_Pair_chanceOf ((b2i false)) z.2) (fun r9 hr9 => ?_)
        refine wp_bind (T_Well_nextOf (z.2.1 34 2) x2 z.1 z.2) (fun r10 hr10 => ?_)
        refine wp_bind (T_Well_nextOf (z.2.1 34 3) x3 x8 z.2) (fun r11 hr11 => ?_)
        refine wp_bind (T_Row_add 49 16 ((4 * x1) + ((2 * r10) + r11)) (((-(z.2.1 1 1)).toInt64) * (r8 * r9)) z.2) (fun r12 hr12 => ?_)
        have mr12 : Same (fun k => k = 49) z.2 r12 := hr12.mono (fun k hk => by first | omega | exact hk.elim | (dsimp only at hk ⊢; omega))
        exact wp_some ⟨mr12, (muU_le c1)⟩
theorem T_Pair_fillDoubt_b125 (x1 : Int32) (x2 : Int32) (x3 : Int32) (x4 : Int32) (x5 : Int32) (z : Int32 × Mem) : wpO (F_Pair_fillDoubt_b125 x1 x2 x3 x4 x5 z) (fun r => (match r with | .inl s => Same (fun k => k = 49) z.2 s.2 ∧ muU s.1 < muU z.1 | .inr r => Same (fun k => k = 49) z.2 r)) := by
  unfold F_Pair_fillDoubt_b125
  refine wp_if (fun c1 => ?_) (fun c1 => ?_)
  · exact wp_some Same.rfl'
  · unfold F_Pair_fillDoubt_l134
    refine wp_bind (Ψ := fun r => Same (fun k => k = 49) z.2 r) (wp_while (P := fun z => Same (fun k => k = 49) z.2 z.2) (μ := fun z => muU z.1) (fun z hz => wp_mono (T_Pair_fillDoubt_b134 x1 x2 x3 x4 x5 z.1 z) (fun x hx => ?_)) FUEL (0, z.2) Same.rfl' (mu_fuel _)) ?_
    · rcases x with x | x
      · exact ⟨hz.trans (hx.1.mono (fun k hk => by first | omega | exact hk.elim | (dsimp only at hk ⊢; omega))), hx.2⟩
      · exact hz.trans (hx.mono (fun k hk => by first | omega | exact hk.elim | (dsimp only at hk ⊢; omega)))
    intro r hr
    exact wp_some ⟨hr, (muU_le c1)⟩
theorem T_Pair_fillDoubt (x1 : Int32) (x2 : Int32) (x3 : Int32) (M : Mem) : wpO (F_Pair_fillDoubt x1 x2 x3 M) (fun r => Same (fun k => (49 ≤ k ∧ k ≤ 51)) M r) := by
  unfold F_Pair_fillDoubt
  refine wp_bind (T_Well_actOf (M.1 34 2) x2 M) (fun r1 hr1 => ?_)
  refine wp_bind (T_Well_actOf (M.1 34 3) x3 M) (fun r2 hr2 => ?_)
  refine wp_bind (T_Row_add 49 16 (5 * x1) ((((M.1 1 2).toInt64) * ((M.1 1 4).toInt64)) * ((M.1 1 4).toInt64)) M) (fun r3 hr3 => ?_)
  have mr3 : Same (fun k => (49 ≤ k ∧ k ≤ 51)) M r3 := hr3.mono (fun k hk => by first | omega | exact hk.elim | (dsimp only at hk ⊢; omega))
  refine wp_bind (T_Well_bringsTo 0 r1 r2 r3) (fun r4 hr4 => ?_)
  refine wp_bind (T_Row_put 51 8 (2 * x1) (((((M.1 1 2).toInt64) * ((M.1 1 4).toInt64)) * ((M.1 1 4).toInt64)) * r4.toInt64) r3) (fun r5 hr5 => ?_)
  have mr5 := (mr3).trans (hr5.mono (fun k hk => by first | omega | exact hk.elim | (dsimp only at hk ⊢; omega)))
  refine wp_bind (T_Well_bringsTo 1 r1 r2 r5) (fun r6 hr6 => ?_)
  refine wp_bind (T_Row_put 51 8 ((2 * x1) + 1) (((((M.1 1 2).toInt64) * ((M.1 1 4).toInt64)) * ((M.1 1 4).toInt64)) * r6.toInt64) r5) (fun r7 hr7 => ?_)
  have mr7 := (mr5).trans (hr7.mono (fun k hk => by first | omega | exact hk.elim | (dsimp only at hk ⊢; omega)))
  unfold F_Pair_fillDoubt_l125
  refine wp_bind (Ψ := fun r => Same (fun k => (49 ≤ k ∧ k ≤ 51)) M r) (wp_while (P := fun z => Same (fun k => (49 ≤ k ∧ k ≤ 51)) M z.2) (μ := fun z => muU z.1) (fun z hz => wp_mono (T_Pair_fillDoubt_b125 x1 x2 x3 r1 r2 z) (fun x hx => ?_)) FUEL (0, r7) mr7 (mu_fuel _)) ?_
  · rcases x with x | x
    · exact ⟨hz.trans (hx.1.mono (fun k hk => by first | omega | exact hk.elim | (dsimp only at hk ⊢; omega))), hx.2⟩
    · exact hz.trans (hx.mono (fun k hk => by first | omega | exact hk.elim | (dsimp only at hk ⊢; omega)))
  intro r hr
  exact wp_some hr
theorem T_Pair_fillDoubts_b18 (z : Int32 × Mem) : wpO (F_Pair_fillDoubts_b18 z) (fun r => (match r with | .inl s => Same (fun k => (49 ≤ k ∧ k ≤ 51)) z.2 s.2 ∧ muU s.1 < muU z.1 | .inr r => Same (fun k => (49 ≤ k ∧ k ≤ 51)) z.2 r)) := by
  unfold F_Pair_fillDoubts_b18
  refine wp_if (fun c1 => ?_) (fun c1 => ?_)
  · exact wp_some Same.rfl'
  · refine wp_if (fun c2 => ?_) (fun c2 => ?_)
    · unfold F_Pair_fillDoubts_j57
      refine wp_bind (T_Row_put 49 16 (5 * z.1) 1 z.2) (fun r3 hr3 => ?_)
      have mr3 : Same (fun k => (49 ≤ k ∧ k ≤ 51)) z.2 r3 := hr3.mono (fun k hk => by first | omega | exact hk.elim | (dsimp only at hk ⊢; omega))
      exact wp_some ⟨mr3, (muU_le c1)⟩
    · refine wp_if (fun c3 => ?_) (fun c3 => ?_)
      · unfold F_Pair_fillDoubts_j57
        refine wp_bind (T_Row_put 49 16 (5 * z.1) 1 z.2) (fun r3 hr3 => ?_)
        have mr3 : Same (fun k => (49 ≤ k ∧ k ≤ 51)) z.2 r3 := hr3.mono (fun k hk => by first | omega | exact hk.elim | (dsimp only at hk ⊢; omega))
        exact wp_some ⟨mr3, (muU_le c1)⟩
      · refine wp_bind (T_Pair_fillDoubt z.1 (z.1 / 2) (irm z.1 2) z.2) (fun r4 hr4 => ?_)
        have mr4 : Same (fun k => (49 ≤ k ∧ k ≤ 51)) z.2 r4 := hr4.mono (fun k hk => by first | omega | exact hk.elim | (dsimp only at hk ⊢; omega))
        exact wp_some ⟨mr4, (muU_le c1)⟩
theorem T_Pair_fillDoubts (M : Mem) : wpO (F_Pair_fillDoubts M) (fun r => Same (fun k => (49 ≤ k ∧ k ≤ 51)) M r) := by
  unfold F_Pair_fillDoubts
  refine wp_bind (T_Row_setAll 49 16 0 M) (fun r1 hr1 => ?_)
  have mr1 : Same (fun k => (49 ≤ k ∧ k ≤ 51)) M r1 := hr1.mono (fun k hk => by first | omega | exact hk.elim | (dsimp only at hk ⊢; omega))
  refine wp_bind (T_Row_setAll 51 8 0 r1) (fun r2 hr2 => ?_)
  have mr2 := (mr1).trans (hr2.mono (fun k hk => by first | omega | exact hk.elim | (dsimp only at hk ⊢; omega)))
  unfold F_Pair_fillDoubts_l18
  refine wp_bind (Ψ := fun r => Same (fun k => (49 ≤ k ∧ k ≤ 51)) M r) (wp_while (P := fun z => Same (fun k => (49 ≤ k ∧ k ≤ 51)) M z.2) (μ := fun z => muU z.1) (fun z hz => wp_mono (T_Pair_fillDoubts_b18  z) (fun x hx => ?_)) FUEL (0, r2) mr2 (mu_fuel _)) ?_
  · rcases x with x | x
    · exact ⟨hz.trans (hx.1.mono (fun k hk => by first | omega | exact hk.elim | (dsimp only at hk ⊢; omega))), hx.2⟩
    · exact hz.trans (hx.mono (fun k hk => by first | omega | exact hk.elim | (dsimp only at hk ⊢; omega)))
  intro r hr
  exact wp_some hr
theorem T_Pair_cofactorOf (x1 : Int32) (M : Mem) : wpO (F_Pair_cofactorOf x1 M) (fun r => True) := by
  unfold F_Pair_cofactorOf
  refine wp_if (fun c1 => ?_) (fun c1 => ?_)
  · unfold F_Pair_cofactorOf_j10
    refine wp_if (fun c2 => ?_) (fun c2 => ?_)
    · unfold F_Pair_cofactorOf_j23
      refine wp_if (fun c3 => ?_) (fun c3 => ?_)
      · unfold F_Pair_cofactorOf_j36
        refine wp_bind (T_Row_at 49 16 ((4 * ((b2i true))) + 1) M) (fun r1 hr1 => ?_)
        refine wp_bind (T_Row_at 49 16 ((4 * 1) + 2) M) (fun r2 hr2 => ?_)
        refine wp_bind (T_Row_at 49 16 ((4 * 2) + 3) M) (fun r3 hr3 => ?_)
        refine wp_bind (T_Row_at 49 16 ((4 * 1) + 3) M) (fun r4 hr4 => ?_)
        refine wp_bind (T_Row_at 49 16 ((4 * 2) + 2) M) (fun r5 hr5 => ?_)
        refine wp_bind (T_Row_at 49 16 ((4 * ((b2i true))) + 2) M) (fun r6 hr6 => ?_)
        refine wp_bind (T_Row_at 49 16 ((4 * 1) + 1) M) (fun r7 hr7 => ?_)
        refine wp_bind (T_Row_at 49 16 ((4 * 2) + 3) M) (fun r8 hr8 => ?_)
        refine wp_bind (T_Row_at 49 16 ((4 * 1) + 3) M) (fun r9 hr9 => ?_)
        refine wp_bind (T_Row_at 49 16 ((4 * 2) + 1) M) (fun r10 hr10 => ?_)
        refine wp_bind (T_Row_at 49 16 ((4 * ((b2i true))) + 3) M) (fun r11 hr11 => ?_)
        refine wp_bind (T_Row_at 49 16 ((4 * 1) + 1) M) (fun r12 hr12 => ?_)
        refine wp_bind (T_Row_at 49 16 ((4 * 2) + 2) M) (fun r13 hr13 => ?_)
        refine wp_bind (T_Row_at 49 16 ((4 * 1) + 2) M) (fun r14 hr14 => ?_)
        refine wp_bind (T_Row_at 49 16 ((4 * 2) + 1) M) (fun r15 hr15 => ?_)
        refine wp_if (fun c4 => ?_) (fun c4 => ?_)
        · exact wp_some trivial
        · exact wp_some trivial
      · unfold F_Pair_cofactorOf_j36
        refine wp_bind (T_Row_at 49 16 ((4 * ((b2i true))) + 1) M) (fun r1 hr1 => ?_)
        refine wp_bind (T_Row_at 49 16 ((4 * 1) + 2) M) (fun r2 hr2 => ?_)
        refine wp_bind (T_Row_at 49 16 ((4 * 3) + 3) M) (fun r3 hr3 => ?_)
        refine wp_bind (T_Row_at 49 16 ((4 * 1) + 3) M) (fun r4 hr4 => ?_)
        refine wp_bind (T_Row_at 49 16 ((4 * 3) + 2) M) (fun r5 hr5 => ?_)
        refine wp_bind (T_Row_at 49 16 ((4 * ((b2i true))) + 2) M) (fun r6 hr6 => ?_)
        refine wp_bind (T_Row_at 49 16 ((4 * 1) + 1) M) (fun r7 hr7 => ?_)
        refine wp_bind (T_Row_at 49 16 ((4 * 3) + 3) M) (fun r8 hr8 => ?_)
        refine wp_bind (T_Row_at 49 16 ((4 * 1) + 3) M) (fun r9 hr9 => ?_)
        refine wp_bind (T_Row_at 49 16 ((4 * 3) + 1) M) (fun r10 hr10 => ?_)
        refine wp_bind (T_Row_at 49 16 ((4 * ((b2i true))) + 3) M) (fun r11 hr11 => ?_)
        refine wp_bind (T_Row_at 49 16 ((4 * 1) + 1) M) (fun r12 hr12 => ?_)
        refine wp_bind (T_Row_at 49 16 ((4 * 3) + 2) M) (fun r13 hr13 => ?_)
        refine wp_bind (T_Row_at 49 16 ((4 * 1) + 2) M) (fun r14 hr14 => ?_)
        refine wp_bind (T_Row_at 49 16 ((4 * 3) + 1) M) (fun r15 hr15 => ?_)
        refine wp_if (fun c5 => ?_) (fun c5 => ?_)
        · exact wp_some trivial
        · exact wp_some trivial
    · unfold F_Pair_cofactorOf_j23
      refine wp_if (fun c6 => ?_) (fun c6 => ?_)
      · unfold F_Pair_cofactorOf_j36
        refine wp_bind (T_Row_at 49 16 ((4 * ((b2i true))) + 1) M) (fun r1 hr1 => ?_)
        refine wp_bind (T_Row_at 49 16 ((4 * 2) + 2) M) (fun r2 hr2 => ?_)
        refine wp_bind (T_Row_at 49 16 ((4 * 2) + 3) M) (fun r3 hr3 => ?_)
        refine wp_bind (T_Row_at 49 16 ((4 * 2) + 3) M) (fun r4 hr4 => ?_)
        refine wp_bind (T_Row_at 49 16 ((4 * 2) + 2) M) (fun r5 hr5 => ?_)
        refine wp_bind (T_Row_at 49 16 ((4 * ((b2i true))) + 2) M) (fun r6 hr6 => ?_)
        refine wp_bind (T_Row_at 49 16 ((4 * 2) + 1) M) (fun r7 hr7 => ?_)
        refine wp_bind (T_Row_at 49 16 ((4 * 2) + 3) M) (fun r8 hr8 => ?_)
        refine wp_bind (T_Row_at 49 16 ((4 * 2) + 3) M) (fun r9 hr9 => ?_)
        refine wp_bind (T_Row_at 49 16 ((4 * 2) + 1) M) (fun r10 hr10 => ?_)
        refine wp_bind (T_Row_at 49 16 ((4 * ((b2i true))) + 3) M) (fun r11 hr11 => ?_)
        refine wp_bind (T_Row_at 49 16 ((4 * 2) + 1) M) (fun r12 hr12 => ?_)
        refine wp_bind (T_Row_at 49 16 ((4 * 2) + 2) M) (fun r13 hr13 => ?_)
        refine wp_bind (T_Row_at 49 16 ((4 * 2) + 2) M) (fun r14 hr14 => ?_)
        refine wp_bind (T_Row_at 49 16 ((4 * 2) + 1) M) (fun r15 hr15 => ?_)
        refine wp_if (fun c7 => ?_) (fun c7 => ?_)
        · exact wp_some trivial
        · exact wp_some trivial
      · unfold F_Pair_cofactorOf_j36
        refine wp_bind (T_Row_at 49 16 ((4 * ((b2i true))) + 1) M) (fun r1 hr1 => ?_)
        refine wp_bind (T_Row_at 49 16 ((4 * 2) + 2) M) (fun r2 hr2 => ?_)
        refine wp_bind (T_Row_at 49 16 ((4 * 3) + 3) M) (fun r3 hr3 => ?_)
        refine wp_bind (T_Row_at 49 16 ((4 * 2) + 3) M) (fun r4 hr4 => ?_)
        refine wp_bind (T_Row_at 49 16 ((4 * 3) + 2) M) (fun r5 hr5 => ?_)
        refine wp_bind (T_Row_at 49 16 ((4 * ((b2i true))) + 2) M) (fun r6 hr6 => ?_)
        refine wp_bind (T_Row_at 49 16 ((4 * 2) + 1) M) (fun r7 hr7 => ?_)
        refine wp_bind (T_Row_at 49 16 ((4 * 3) + 3) M) (fun r8 hr8 => ?_)
        refine wp_bind (T_Row_at 49 16 ((4 * 2) + 3) M) (fun r9 hr9 => ?_)
        refine wp_bind (T_Row_at 49 16 ((4 * 3) + 1) M) (fun r10 hr10 => ?_)
        refine wp_bind (T_Row_at 49 16 ((4 * ((b2i true))) + 3) M) (fun r11 hr11 => ?_)
        refine wp_bind (T_Row_at 49 16 ((4 * 2) + 1) M) (fun r12 hr12 => ?_)
        refine wp_bind (T_Row_at 49 16 ((4 * 3) + 2) M) (fun r13 hr13 => ?_)
        refine wp_bind (T_Row_at 49 16 ((4 * 2) + 2) M) (fun r14 hr14 => ?_)
        refine wp_bind (T_Row_at 49 16 ((4 * 3) + 1) M) (fun r15 hr15 => ?_)
        refine wp_if (fun c8 => ?_) (fun c8 => ?_)
        · exact wp_some trivial
        · exact wp_some trivial
  · unfold F_Pair_cofactorOf_j10
    refine wp_if (fun c9 => ?_) (fun c9 => ?_)
    · unfold F_Pair_cofactorOf_j23
      refine wp_if (fun c10 => ?_) (fun c10 => ?_)
      · unfold F_Pair_cofactorOf_j36
        refine wp_bind (T_Row_at 49 16 ((4 * ((b2i false))) + 1) M) (fun r1 hr1 => ?_)
        refine wp_bind (T_Row_at 49 16 ((4 * 1) + 2) M) (fun r2 hr2 => ?_)
        refine wp_bind (T_Row_at 49 16 ((4 * 2) + 3) M) (fun r3 hr3 => ?_)
        refine wp_bind (T_Row_at 49 16 ((4 * 1) + 3) M) (fun r4 hr4 => ?_)
        refine wp_bind (T_Row_at 49 16 ((4 * 2) + 2) M) (fun r5 hr5 => ?_)
        refine wp_bind (T_Row_at 49 16 ((4 * ((b2i false))) + 2) M) (fun r6 hr6 => ?_)
        refine wp_bind (T_Row_at 49 16 ((4 * 1) + 1) M) (fun r7 hr7 => ?_)
        refine wp_bind (T_Row_at 49 16 ((4 * 2) + 3) M) (fun r8 hr8 => ?_)
        refine wp_bind (T_Row_at 49 16 ((4 * 1) + 3) M) (fun r9 hr9 => ?_)
        refine wp_bind (T_Row_at 49 16 ((4 * 2) + 1) M) (fun r10 hr10 => ?_)
        refine wp_bind (T_Row_at 49 16 ((4 * ((b2i false))) + 3) M) (fun r11 hr11 => ?_)
        refine wp_bind (T_Row_at 49 16 ((4 * 1) + 1) M) (fun r12 hr12 => ?_)
        refine wp_bind (T_Row_at 49 16 ((4 * 2) + 2) M) (fun r13 hr13 => ?_)
        refine wp_bind (T_Row_at 49 16 ((4 * 1) + 2) M) (fun r14 hr14 => ?_)
        refine wp_bind (T_Row_at 49 16 ((4 * 2) + 1) M) (fun r15 hr15 => ?_)
        refine wp_if (fun c11 => ?_) (fun c11 => ?_)
        · exact wp_some trivial
        · exact wp_some trivial
      · unfold F_Pair_cofactorOf_j36
        refine wp_bind (T_Row_at 49 16 ((4 * ((b2i false))) + 1) M) (fun r1 hr1 => ?_)
        refine wp_bind (T_Row_at 49 16 ((4 * 1) + 2) M) (fun r2 hr2 => ?_)
        refine wp_bind (T_Row_at 49 16 ((4 * 3) + 3) M) (fun r3 hr3 => ?_)
        refine wp_bind (T_Row_at 49 16 ((4 * 1) + 3) M) (fun r4 hr4 => ?_)
        refine wp_bind (T_Row_at 49 16 ((4 * 3) + 2) M) (fun r5 hr5 => ?_)
        refine wp_bind (T_Row_at 49 16 ((4 * ((b2i false))) + 2) M) (fun r6 hr6 => ?_)
        refine wp_bind (T_Row_at 49 16 ((4 * 1) + 1) M) (fun r7 hr7 => ?_)
        refine wp_bind (T_Row_at 49 16 ((4 * 3) + 3) M) (fun r8 hr8 => ?_)
        refine wp_bind (T_Row_at 49 16 ((4 * 1) + 3) M) (fun r9 hr9 => ?_)
        refine wp_bind (T_Row_at 49 16 ((4 * 3) + 1) M) (fun r10 hr10 => ?_)
        refine wp_bind (T_Row_at 49 16 ((4 * ((b2i false))) + 3) M) (fun r11 hr11 => ?_)
        refine wp_bind (T_Row_at 49 16 ((4 * 1) + 1) M) (fun r12 hr12 => ?_)
        refine wp_bind (T_Row_at 49 16 ((4 * 3) + 2) M) (fun r13 hr13 => ?_)
        refine wp_bind (T_Row_at 49 16 ((4 * 1) + 2) M) (fun r14 hr14 => ?_)
        refine wp_bind (T_Row_at 49 16 ((4 * 3) + 1) M) (fun r15 hr15 => ?_)
        refine wp_if (fun c12 => ?_) (fun c12 => ?_)
        · exact wp_some trivial
        · exact wp_some trivial
    · unfold F_Pair_cofactorOf_j23
      refine wp_if (fun c13 => ?_) (fun c13 => ?_)
      · unfold F_Pair_cofactorOf_j36
        refine wp_bind (T_Row_at 49 16 ((4 * ((b2i false))) + 1) M) (fun r1 hr1 => ?_)
        refine wp_bind (T_Row_at 49 16 ((4 * 2) + 2) M) (fun r2 hr2 => ?_)
        refine wp_bind (T_Row_at 49 16 ((4 * 2) + 3) M) (fun r3 hr3 => ?_)
        refine wp_bind (T_Row_at 49 16 ((4 * 2) + 3) M) (fun r4 hr4 => ?_)
        refine wp_bind (T_Row_at 49 16 ((4 * 2) + 2) M) (fun r5 hr5 => ?_)
        refine wp_bind (T_Row_at 49 16 ((4 * ((b2i false))) + 2) M) (fun r6 hr6 => ?_)
        refine wp_bind (T_Row_at 49 16 ((4 * 2) + 1) M) (fun r7 hr7 => ?_)
        refine wp_bind (T_Row_at 49 16 ((4 * 2) + 3) M) (fun r8 hr8 => ?_)
        refine wp_bind (T_Row_at 49 16 ((4 * 2) + 3) M) (fun r9 hr9 => ?_)
        refine wp_bind (T_Row_at 49 16 ((4 * 2) + 1) M) (fun r10 hr10 => ?_)
        refine wp_bind (T_Row_at 49 16 ((4 * ((b2i false))) + 3) M) (fun r11 hr11 => ?_)
        refine wp_bind (T_Row_at 49 16 ((4 * 2) + 1) M) (fun r12 hr12 => ?_)
        refine wp_bind (T_Row_at 49 16 ((4 * 2) + 2) M) (fun r13 hr13 => ?_)
        refine wp_bind (T_Row_at 49 16 ((4 * 2) + 2) M) (fun r14 hr14 => ?_)
        refine wp_bind (T_Row_at 49 16 ((4 * 2) + 1) M) (fun r15 hr15 => ?_)
        refine wp_if (fun c14 => ?_) (fun c14 => ?_)
        · exact wp_some trivial
        · exact wp_some trivial
      · unfold F_Pair_cofactorOf_j36
        refine wp_bind (T_Row_at 49 16 ((4 * ((b2i false))) + 1) M) (fun r1 hr1 => ?_)
        refine wp_bind (T_Row_at 49 16 ((4 * 2) + 2) M) (fun r2 hr2 => ?_)
        refine wp_bind (T_Row_at 49 16 ((4 * 3) + 3) M) (fun r3 hr3 => ?_)
        refine wp_bind (T_Row_at 49 16 ((4 * 2) + 3) M) (fun r4 hr4 => ?_)
        refine wp_bind (T_Row_at 49 16 ((4 * 3) + 2) M) (fun r5 hr5 => ?_)
        refine wp_bind (T_Row_at 49 16 ((4 * ((b2i false))) + 2) M) (fun r6 hr6 => ?_)
        refine wp_bind (T_Row_at 49 16 ((4 * 2) + 1) M) (fun r7 hr7 => ?_)
        refine wp_bind (T_Row_at 49 16 ((4 * 3) + 3) M) (fun r8 hr8 => ?_)
        refine wp_bind (T_Row_at 49 16 ((4 * 2) + 3) M) (fun r9 hr9 => ?_)
        refine wp_bind (T_Row_at 49 16 ((4 * 3) + 1) M) (fun r10 hr10 => ?_)
        refine wp_bind (T_Row_at 49 16 ((4 * ((b2i false))) + 3) M) (fun r11 hr11 => ?_)
        refine wp_bind (T_Row_at 49 16 ((4 * 2) + 1) M) (fun r12 hr12 => ?_)
        refine wp_bind (T_Row_at 49 16 ((4 * 3) + 2) M) (fun r13 hr13 => ?_)
        refine wp_bind (T_Row_at 49 16 ((4 * 2) + 2) M) (fun r14 hr14 => ?_)
        refine wp_bind (T_Row_at 49 16 ((4 * 3) + 1) M) (fun r15 hr15 => ?_)
        refine wp_if (fun c15 => ?_) (fun c15 => ?_)
        · exact wp_some trivial
        · exact wp_some trivial
theorem T_Pair_tellDoubted_b13 (o3 : Nat) (x1 : Int32) (x2 : Int32) (M : Mem) (z : Int64 × Int64 × Int32) : wpO (F_Pair_tellDoubted_b13 o3 x1 x2 M z) (fun r => (match r with | .inl s => muU s.2.2 < muU z.2.2 | .inr r => True)) := by
  unfold F_Pair_tellDoubted_b13
  refine wp_if (fun c1 => ?_) (fun c1 => ?_)
  · exact wp_some trivial
  · refine wp_bind (T_Pair_cofactorOf z.2.2 M) (fun r5 hr5 => ?_)
    refine wp_bind (T_Row_at 51 8 ((2 * z.2.2) + x1) M) (fun r6 hr6 => ?_)
    refine wp_bind (T_Row_at 49 16 (4 * z.2.2) M) (fun r7 hr7 => ?_)
    exact wp_some (muU_le c1)
theorem T_Pair_tellDoubted (o3 : Nat) (x1 : Int32) (x2 : Int32) (M : Mem) : wpO (F_Pair_tellDoubted o3 x1 x2 M) (fun r => Same (fun k => (49 ≤ k ∧ k ≤ 51) ∨ k = o3) M r) := by
  unfold F_Pair_tellDoubted
  refine wp_bind (T_Pair_fillDoubts M) (fun r1 hr1 => ?_)
  have mr1 : Same (fun k => (49 ≤ k ∧ k ≤ 51) ∨ k = o3) M r1 := hr1.mono (fun k hk => by first | omega | exact hk.elim | (dsimp only at hk ⊢; omega))
  unfold F_Pair_tellDoubted_l13
  refine wp_bind (Ψ := fun r => True) (wp_while (P := fun _ => True) (μ := fun z => muU z.2.2) (fun z hz => wp_mono (T_Pair_tellDoubted_b13 o3 x1 x2 r1 z) (fun x hx => ?_)) FUEL (0, 0, 0) trivial (mu_fuel _)) ?_
  · rcases x with x | x
    · exact ⟨trivial, hx⟩
    · trivial
  intro r hr
  unfold F_Pair_tellDoubted_j73
  refine wp_bind (T_Fraction_be o3 r.1 r.2 r1) (fun r2 hr2 => ?_)
  have mr2 := (mr1).trans (hr2.mono (fun k hk => by first | omega | exact hk.elim | (dsimp only at hk ⊢; omega)))
  refine wp_if (fun c1 => ?_) (fun c1 => ?_)
  · exact wp_some mr2
  · refine wp_bind (T_Chain_tellWorth 35 o3 0 x1 r2) (fun r3 hr3 => ?_)
    have mr3 := (mr2).trans (hr3.mono (fun k hk => by first | omega | exact hk.elim | (dsimp only at hk ⊢; omega)))
    refine wp_bind (T_Fraction_be o3 (((r3.2 o3 0) * (r2.2 o3 1)) - ((r2.2 o3 0) * (r3.2 o3 1))) ((r3.2 o3 1) * (r2.2 o3 1)) r3) (fun r4 hr4 => ?_)
    have mr4 := (mr3).trans (hr4.mono (fun k hk => by first | omega | exact hk.elim | (dsimp only at hk ⊢; omega)))
    exact wp_some mr4
theorem T_Answer_bringsIn (x1 : Int32) (x2 : Int32) (M : Mem) : wpO (F_Answer_bringsIn x1 x2 M) (fun r => True) := by
  unfold F_Answer_bringsIn
  refine wp_bind (T_Well_actOf (M.1 52 4) x1 M) (fun r1 hr1 => ?_)
  refine wp_bind (T_Well_bringsOwn (M.1 52 3) x2 r1 M) (fun r2 hr2 => ?_)
  exact wp_some trivial
theorem T_Answer_reckon_b9 (z : Int32 × Mem) : wpO (F_Answer_reckon_b9 z) (fun r => (match r with | .inl s => Same (fun k => (55 ≤ k ∧ k ≤ 57)) z.2 s.2 ∧ muU s.1 < muU z.1 | .inr r => Same (fun k => (55 ≤ k ∧ k ≤ 57)) z.2 r)) := by
  unfold F_Answer_reckon_b9
  refine wp_if (fun c1 => ?_) (fun c1 => ?_)
  · exact wp_some Same.rfl'
  · refine wp_bind (T_Row_small 67 3 z.1 z.2) (fun r3 hr3 => ?_)
    refine wp_bind (T_Well_nextOf (z.2.1 52 4) z.1 r3 z.2) (fun r4 hr4 => ?_)
    refine wp_bind (T_Answer_bringsIn z.1 r3 z.2) (fun r5 hr5 => ?_)
    refine wp_bind (T_Chain_put 53 z.1 r4 r5 0 z.2) (fun r6 hr6 => ?_)
    have mr6 : Same (fun k => (55 ≤ k ∧ k ≤ 57)) z.2 r6 := hr6.mono (fun k hk => by first | omega | exact hk.elim | (dsimp only at hk ⊢; omega))
    exact wp_some ⟨mr6, (muU_le c1)⟩
theorem T_Answer_reckon (M : Mem) : wpO (F_Answer_reckon M) (fun r => Same (fun k => (53 ≤ k ∧ k ≤ 65)) M r) := by
  unfold F_Answer_reckon
  refine wp_bind (T_Chain_clear 53 M) (fun r1 hr1 => ?_)
  have mr1 : Same (fun k => (53 ≤ k ∧ k ≤ 65)) M r1 := hr1.mono (fun k hk => by first | omega | exact hk.elim | (dsimp only at hk ⊢; omega))
  unfold F_Answer_reckon_l9
  refine wp_bind (Ψ := fun r => Same (fun k => (53 ≤ k ∧ k ≤ 65)) M r) (wp_while (P := fun z => Same (fun k => (53 ≤ k ∧ k ≤ 65)) M z.2) (μ := fun z => muU z.1) (fun z hz => wp_mono (T_Answer_reckon_b9  z) (fun x hx => ?_)) FUEL (0, r1) mr1 (mu_fuel _)) ?_
  · rcases x with x | x
    · exact ⟨hz.trans (hx.1.mono (fun k hk => by first | omega | exact hk.elim | (dsimp only at hk ⊢; omega))), hx.2⟩
    · exact hz.trans (hx.mono (fun k hk => by first | omega | exact hk.elim | (dsimp only at hk ⊢; omega)))
  intro r hr
  unfold F_Answer_reckon_j60
  refine wp_bind (T_Chain_reckon 53 ((r.1 1 1).toInt64) ((r.1 1 2).toInt64) r) (fun r2 hr2 => ?_)
  have mr2 := (hr).trans (hr2.mono (fun k hk => by first | omega | exact hk.elim | (dsimp only at hk ⊢; omega)))
  exact wp_some mr2
theorem T_Answer_orderOf (x1 : Int32) (x2 : Int32) (M : Mem) : wpO (F_Answer_orderOf x1 x2 M) (fun r => True) := by
  unfold F_Answer_orderOf
  refine wp_bind (T_Answer_bringsIn x1 x2 M) (fun r1 hr1 => ?_)
  refine wp_bind (T_Well_nextOf (M.1 52 4) x1 x2 M) (fun r2 hr2 => ?_)
  refine wp_bind (T_Chain_orderOf 53 r1 r2 0 x1 M) (fun r3 hr3 => ?_)
  exact wp_some trivial
theorem T_Answer_isBettered_b14 (x2 : Int32) (z : Bool × Int32 × Mem) : wpO (F_Answer_isBettered_b14 x2 z) (fun r => (match r with | .inl s => Same (fun k => k = 67) z.2.2 s.2.2 ∧ muU s.2.1 < muU z.2.1 | .inr r => Same (fun k => k = 67) z.2.2 r.2)) := by
  unfold F_Answer_isBettered_b14
  refine wp_if (fun c1 => ?_) (fun c1 => ?_)
  · exact wp_some Same.rfl'
  · refine wp_bind (T_Answer_orderOf x2 z.2.1 z.2.2) (fun r1 hr1 => ?_)
    refine wp_if (fun c2 => ?_) (fun c2 => ?_)
    · exact wp_some ⟨Same.rfl', (muU_le c1)⟩
    · refine wp_bind (T_Row_put 67 3 x2 z.2.1.toInt64 z.2.2) (fun r2 hr2 => ?_)
      have mr2 : Same (fun k => k = 67) z.2.2 r2 := hr2.mono (fun k hk => by first | omega | exact hk.elim | (dsimp only at hk ⊢; omega))
      exact wp_some ⟨mr2, (muU_le c1)⟩
theorem T_Answer_isBettered_b4 (z : Bool × Int32 × Mem) : wpO (F_Answer_isBettered_b4 z) (fun r => (match r with | .inl s => Same (fun k => k = 67) z.2.2 s.2.2 ∧ muU s.2.1 < muU z.2.1 | .inr r => Same (fun k => k = 67) z.2.2 r.2)) := by
  unfold F_Answer_isBettered_b4
  refine wp_if (fun c1 => ?_) (fun c1 => ?_)
  · exact wp_some Same.rfl'
  · unfold F_Answer_isBettered_l14
    refine wp_bind (Ψ := fun r => Same (fun k => k = 67) z.2.2 r.2) (wp_while (P := fun z => Same (fun k => k = 67) z.2.2 z.2.2) (μ := fun z => muU z.2.1) (fun z hz => wp_mono (T_Answer_isBettered_b14 z.2.1 z) (fun x hx => ?_)) FUEL (z.1, 0, z.2.2) Same.rfl' (mu_fuel _)) ?_
    · rcases x with x | x
      · exact ⟨hz.trans (hx.1.mono (fun k hk => by first | omega | exact hk.elim | (dsimp only at hk ⊢; omega))), hx.2⟩
      · exact hz.trans (hx.mono (fun k hk => by first | omega | exact hk.elim | (dsimp only at hk ⊢; omega)))
    intro r hr
    exact wp_some ⟨hr, (muU_le c1)⟩
theorem T_Answer_isBettered (M : Mem) : wpO (F_Answer_isBettered M) (fun r => Same (fun k => k = 67) M r.2) := by
  unfold F_Answer_isBettered
  unfold F_Answer_isBettered_l4
  refine wp_bind (Ψ := fun r => Same (fun k => k = 67) M r.2) (wp_while (P := fun z => Same (fun k => k = 67) M z.2.2) (μ := fun z => muU z.2.1) (fun z hz => wp_mono (T_Answer_isBettered_b4  z) (fun x hx => ?_)) FUEL (false, 0, M) Same.rfl' (mu_fuel _)) ?_
  · rcases x with x | x
    · exact ⟨hz.trans (hx.1.mono (fun k hk => by first | omega | exact hk.elim | (dsimp only at hk ⊢; omega))), hx.2⟩
    · exact hz.trans (hx.mono (fun k hk => by first | omega | exact hk.elim | (dsimp only at hk ⊢; omega)))
  intro r hr
  exact wp_some hr
theorem T_Answer_look_b43 (z : Int32 × Mem) : wpO (F_Answer_look_b43 z) (fun r => (match r with | .inl s => Same (fun k => (53 ≤ k ∧ k ≤ 67)) z.2 s.2 ∧ muU s.1 < muU z.1 | .inr r => Same (fun k => (53 ≤ k ∧ k ≤ 67)) z.2 r)) := by
  unfold F_Answer_look_b43
  refine wp_if (fun c1 => ?_) (fun c1 => ?_)
  · exact wp_some Same.rfl'
  · refine wp_bind (T_Answer_isBettered z.2) (fun r5 hr5 => ?_)
    have mr5 : Same (fun k => (53 ≤ k ∧ k ≤ 67)) z.2 r5.2 := hr5.mono (fun k hk => by first | omega | exact hk.elim | (dsimp only at hk ⊢; omega))
    refine wp_if (fun c2 => ?_) (fun c2 => ?_)
    · refine wp_bind (T_Answer_reckon r5.2) (fun r6 hr6 => ?_)
      have mr6 := (mr5).trans (hr6.mono (fun k hk => by first | omega | exact hk.elim | (dsimp only at hk ⊢; omega)))
      exact wp_some ⟨mr6, (muU_le c1)⟩
    · exact wp_some mr5
theorem T_Answer_look (x1 : Int32) (x2 : Int32) (M : Mem) : wpO (F_Answer_look x1 x2 M) (fun r => Same (fun k => (52 ≤ k ∧ k ≤ 67)) M r) := by
  unfold F_Answer_look
  refine wp_bind (T_Well_moodsOf ((mSI (mSI M 52 3 x1) 52 4 x2).1 52 4) (mSI (mSI M 52 3 x1) 52 4 x2)) (fun r1 hr1 => ?_)
  refine wp_bind (T_Math_min_III r1 3 (mSI (mSI M 52 3 x1) 52 4 x2)) (fun r2 hr2 => ?_)
  refine wp_bind (T_Row_setAll 67 3 0 (mSI (mSI (mSI M 52 3 x1) 52 4 x2) 52 5 r2)) (fun r3 hr3 => ?_)
  have mr3 := (((((((Same.rfl').sI (by first | omega | (dsimp only; omega)))).sI (by first | omega | (dsimp only; omega)))).sI (by first | omega | (dsimp only; omega)))).trans (hr3.mono (fun k hk => by first | omega | exact hk.elim | (dsimp only at hk ⊢; omega)))
  refine wp_bind (T_Answer_reckon r3) (fun r4 hr4 => ?_)
  have mr4 := (mr3).trans (hr4.mono (fun k hk => by first | omega | exact hk.elim | (dsimp only at hk ⊢; omega)))
  unfold F_Answer_look_l43
  refine wp_bind (Ψ := fun r => Same (fun k => (52 ≤ k ∧ k ≤ 67)) M r) (wp_while (P := fun z => Same (fun k => (52 ≤ k ∧ k ≤ 67)) M z.2) (μ := fun z => muU z.1) (fun z hz => wp_mono (T_Answer_look_b43  z) (fun x hx => ?_)) FUEL (0, r4) mr4 (mu_fuel _)) ?_
  · rcases x with x | x
    · exact ⟨hz.trans (hx.1.mono (fun k hk => by first | omega | exact hk.elim | (dsimp only at hk ⊢; omega))), hx.2⟩
    · exact hz.trans (hx.mono (fun k hk => by first | omega | exact hk.elim | (dsimp only at hk ⊢; omega)))
  intro r hr
  exact wp_some hr
theorem T_Answer_actIn_b2 (x1 : Int32) (M : Mem) (z : Int32) : wpO (F_Answer_actIn_b2 x1 M z) (fun r => (match r with | .inl s => muU s < muU z | .inr r => (match r with | .inl s => True | .inr r => True))) := by
  unfold F_Answer_actIn_b2
  refine wp_if (fun c1 => ?_) (fun c1 => ?_)
  · exact wp_some trivial
  · refine wp_bind (T_Answer_orderOf x1 z M) (fun r2 hr2 => ?_)
    refine wp_if (fun c2 => ?_) (fun c2 => ?_)
    · exact wp_some trivial
    · exact wp_some (muU_le c1)
theorem T_Answer_actIn (x1 : Int32) (M : Mem) : wpO (F_Answer_actIn x1 M) (fun r => True) := by
  unfold F_Answer_actIn
  unfold F_Answer_actIn_l2
  refine wp_bind (Ψ := fun q => (match q with | .inl s => True | .inr r => True)) (wp_while (P := fun _ => True) (μ := fun z => muU z) (fun z hz => wp_mono (T_Answer_actIn_b2 x1 M z) (fun x hx => ?_)) FUEL 0 trivial (mu_fuel _)) ?_
  · rcases x with x | x
    · exact ⟨trivial, hx⟩
    · rcases x with x | x
      · trivial
      · trivial
  intro q hq
  rcases q with r1 | r1
  · exact wp_some trivial
  · unfold F_Answer_actIn_j30
    refine wp_bind (T_Row_small 67 3 x1 M) (fun r1 hr1 => ?_)
    exact wp_some trivial
theorem T_Answer_tellWorth (o2 : Nat) (x1 : Int32) (M : Mem) : wpO (F_Answer_tellWorth o2 x1 M) (fun r => Same (fun k => k = o2) M r) := by
  unfold F_Answer_tellWorth
  refine wp_bind (T_Chain_tellWorth 53 o2 x1 0 M) (fun r1 hr1 => ?_)
  have mr1 : Same (fun k => k = o2) M r1 := hr1.mono (fun k hk => by first | omega | exact hk.elim | (dsimp only at hk ⊢; omega))
  exact wp_some mr1
theorem T_Math_max_III (x0 : Int32) (x1 : Int32) (M : Mem) : wpO (F_Math_max_III x0 x1 M) (fun r => True) := by
  unfold F_Math_max_III
  refine wp_if (fun c1 => ?_) (fun c1 => ?_)
  · exact wp_some trivial
  · exact wp_some trivial
theorem T_Day_mostAgainst_b14 (x1 : Int32) (x2 : Int32) (M : Mem) (z : Int32 × Int32) : wpO (F_Day_mostAgainst_b14 x1 x2 M z) (fun r => (match r with | .inl s => muU s.2 < muU z.2 | .inr r => True)) := by
  unfold F_Day_mostAgainst_b14
  refine wp_if (fun c1 => ?_) (fun c1 => ?_)
  · exact wp_some trivial
  · refine wp_bind (T_Well_bringsOwn x1 z.2 x2 M) (fun r2 hr2 => ?_)
    refine wp_bind (T_Math_max_III z.1 r2 M) (fun r3 hr3 => ?_)
    exact wp_some (muU_le c1)
theorem T_Day_mostAgainst (x1 : Int32) (x2 : Int32) (M : Mem) : wpO (F_Day_mostAgainst x1 x2 M) (fun r => True) := by
  unfold F_Day_mostAgainst
  refine wp_bind (T_Well_bringsOwn x1 0 x2 M) (fun r1 hr1 => ?_)
  unfold F_Day_mostAgainst_l14
  refine wp_bind (Ψ := fun r => True) (wp_while (P := fun _ => True) (μ := fun z => muU z.2) (fun z hz => wp_mono (T_Day_mostAgainst_b14 x1 x2 M z) (fun x hx => ?_)) FUEL (r1, 1) trivial (mu_fuel _)) ?_
  · rcases x with x | x
    · exact ⟨trivial, hx⟩
    · trivial
  intro r hr
  exact wp_some trivial
theorem T_Day_threatTo_b4 (x1 : Int32) (M : Mem) (z : Int32 × Int32) : wpO (F_Day_threatTo_b4 x1 M z) (fun r => (match r with | .inl s => muU s.2 < muU z.2 | .inr r => True)) := by
  unfold F_Day_threatTo_b4
  refine wp_if (fun c1 => ?_) (fun c1 => ?_)
  · exact wp_some trivial
  · refine wp_bind (T_Day_mostAgainst x1 z.2 M) (fun r1 hr1 => ?_)
    refine wp_bind (T_Day_mostAgainst x1 z.1 M) (fun r2 hr2 => ?_)
    refine wp_if (fun c2 => ?_) (fun c2 => ?_)
    · exact wp_some (muU_le c1)
    · exact wp_some (muU_le c1)
theorem T_Day_threatTo (x1 : Int32) (M : Mem) : wpO (F_Day_threatTo x1 M) (fun r => True) := by
  unfold F_Day_threatTo
  unfold F_Day_threatTo_l4
  refine wp_bind (Ψ := fun r => True) (wp_while (P := fun _ => True) (μ := fun z => muU z.2) (fun z hz => wp_mono (T_Day_threatTo_b4 x1 M z) (fun x hx => ?_)) FUEL (0, 1) trivial (mu_fuel _)) ?_
  · rcases x with x | x
    · exact ⟨trivial, hx⟩
    · trivial
  intro r hr
  exact wp_some trivial
theorem T_Day_leastOf (x1 : Int32) (M : Mem) : wpO (F_Day_leastOf x1 M) (fun r => True) := by
  unfold F_Day_leastOf
  refine wp_bind (T_Day_threatTo x1 M) (fun r1 hr1 => ?_)
  refine wp_bind (T_Day_mostAgainst x1 r1 M) (fun r2 hr2 => ?_)
  exact wp_some trivial
theorem T_Day_steadyPairs_b17 (x2 : Int32) (M : Mem) (z : Int32 × Int32) : wpO (F_Day_steadyPairs_b17 x2 M z) (fun r => (match r with | .inl s => muU s.2 < muU z.2 | .inr r => True)) := by
  unfold F_Day_steadyPairs_b17
  refine wp_if (fun c1 => ?_) (fun c1 => ?_)
  · exact wp_some trivial
  · refine wp_bind (T_Well_bringsTo 0 x2 z.2 M) (fun r1 hr1 => ?_)
    refine wp_bind (T_Day_mostAgainst 0 z.2 M) (fun r2 hr2 => ?_)
    refine wp_if (fun c2 => ?_) (fun c2 => ?_)
    · exact wp_some (muU_le c1)
    · refine wp_bind (T_Well_bringsTo 1 x2 z.2 M) (fun r3 hr3 => ?_)
      refine wp_bind (T_Day_mostAgainst 1 x2 M) (fun r4 hr4 => ?_)
      refine wp_if (fun c3 => ?_) (fun c3 => ?_)
      · exact wp_some (muU_le c1)
      · exact wp_some (muU_le c1)
theorem T_Day_steadyPairs_b4 (M : Mem) (z : Int32 × Int32) : wpO (F_Day_steadyPairs_b4 M z) (fun r => (match r with | .inl s => muU s.2 < muU z.2 | .inr r => True)) := by
  unfold F_Day_steadyPairs_b4
  refine wp_if (fun c1 => ?_) (fun c1 => ?_)
  · exact wp_some trivial
  · unfold F_Day_steadyPairs_l17
    refine wp_bind (Ψ := fun r => True) (wp_while (P := fun _ => True) (μ := fun z => muU z.2) (fun z hz => wp_mono (T_Day_steadyPairs_b17 z.2 M z) (fun x hx => ?_)) FUEL (z.1, 0) trivial (mu_fuel _)) ?_
    · rcases x with x | x
      · exact ⟨trivial, hx⟩
      · trivial
    intro r hr
    exact wp_some (muU_le c1)
theorem T_Day_steadyPairs (M : Mem) : wpO (F_Day_steadyPairs M) (fun r => True) := by
  unfold F_Day_steadyPairs
  unfold F_Day_steadyPairs_l4
  refine wp_bind (Ψ := fun r => True) (wp_while (P := fun _ => True) (μ := fun z => muU z.2) (fun z hz => wp_mono (T_Day_steadyPairs_b4 M z) (fun x hx => ?_)) FUEL (0, 0) trivial (mu_fuel _)) ?_
  · rcases x with x | x
    · exact ⟨trivial, hx⟩
    · trivial
  intro r hr
  exact wp_some trivial
theorem T_Day_setWeights (x1 : Int32) (x2 : Int64) (x4 : Int32) (x5 : Int64) (M : Mem) : wpO (F_Day_setWeights x1 x2 x4 x5 M) (fun r => Same (fun k => k = 72) M r) := by
  unfold F_Day_setWeights
  refine wp_bind (T_Row_setAll 72 3 0 M) (fun r1 hr1 => ?_)
  have mr1 : Same (fun k => k = 72) M r1 := hr1.mono (fun k hk => by first | omega | exact hk.elim | (dsimp only at hk ⊢; omega))
  refine wp_bind (T_Row_add 72 3 x1 x2 r1) (fun r2 hr2 => ?_)
  have mr2 := (mr1).trans (hr2.mono (fun k hk => by first | omega | exact hk.elim | (dsimp only at hk ⊢; omega)))
  refine wp_bind (T_Row_add 72 3 x4 x5 r2) (fun r3 hr3 => ?_)
  have mr3 := (mr2).trans (hr3.mono (fun k hk => by first | omega | exact hk.elim | (dsimp only at hk ⊢; omega)))
  exact wp_some mr3
theorem T_Day_mixBrings_b5 (x1 : Int32) (M : Mem) (z : Int64 × Int32) : wpO (F_Day_mixBrings_b5 x1 M z) (fun r => (match r with | .inl s => muU s.2 < muU z.2 | .inr r => True)) := by
  unfold F_Day_mixBrings_b5
  refine wp_if (fun c1 => ?_) (fun c1 => ?_)
  · exact wp_some trivial
  · refine wp_bind (T_Row_at 72 3 z.2 M) (fun r1 hr1 => ?_)
    refine wp_bind (T_Row_at 70 9 ((3 * z.2) + x1) M) (fun r2 hr2 => ?_)
    exact wp_some (muU_le c1)
theorem T_Day_mixBrings (x1 : Int32) (M : Mem) : wpO (F_Day_mixBrings x1 M) (fun r => True) := by
  unfold F_Day_mixBrings
  unfold F_Day_mixBrings_l5
  refine wp_bind (Ψ := fun r => True) (wp_while (P := fun _ => True) (μ := fun z => muU z.2) (fun z hz => wp_mono (T_Day_mixBrings_b5 x1 M z) (fun x hx => ?_)) FUEL (0, 0) trivial (mu_fuel _)) ?_
  · rcases x with x | x
    · exact ⟨trivial, hx⟩
    · trivial
  intro r hr
  exact wp_some trivial
theorem T_Math_min_JJJ (x0 : Int64) (x2 : Int64) (M : Mem) : wpO (F_Math_min_JJJ x0 x2 M) (fun r => True) := by
  unfold F_Math_min_JJJ
  refine wp_if (fun c1 => ?_) (fun c1 => ?_)
  · exact wp_some trivial
  · exact wp_some trivial
theorem T_Day_tryMix_b113 (x3 : Int32) (x4 : Int64) (M : Mem) (z : Int64 × Int32) : wpO (F_Day_tryMix_b113 x3 x4 M z) (fun r => (match r with | .inl s => muU s.2 < muU z.2 | .inr r => True)) := by
  unfold F_Day_tryMix_b113
  refine wp_if (fun c1 => ?_) (fun c1 => ?_)
  · exact wp_some trivial
  · refine wp_bind (T_Day_mixBrings z.2 M) (fun r8 hr8 => ?_)
    refine wp_bind (T_Math_min_JJJ z.1 (x3.toInt64 * r8) M) (fun r9 hr9 => ?_)
    exact wp_some (muU_le c1)
theorem T_Day_tryMix (M : Mem) : wpO (F_Day_tryMix M) (fun r => Same (fun k => k = 68) M r) := by
  unfold F_Day_tryMix
  refine wp_bind (T_Row_at 72 3 0 M) (fun r1 hr1 => ?_)
  refine wp_bind (T_Row_at 72 3 1 M) (fun r2 hr2 => ?_)
  refine wp_bind (T_Row_at 72 3 2 M) (fun r3 hr3 => ?_)
  refine wp_if (fun c1 => ?_) (fun c1 => ?_)
  · unfold F_Day_tryMix_j38
    refine wp_if (fun c2 => ?_) (fun c2 => ?_)
    · exact wp_some Same.rfl'
    · refine wp_bind (T_Row_at 72 3 0 M) (fun r4 hr4 => ?_)
      refine wp_if (fun c3 => ?_) (fun c3 => ?_)
      · exact wp_some Same.rfl'
      · refine wp_bind (T_Row_at 72 3 1 M) (fun r5 hr5 => ?_)
        refine wp_if (fun c4 => ?_) (fun c4 => ?_)
        · exact wp_some Same.rfl'
        · refine wp_bind (T_Row_at 72 3 2 M) (fun r6 hr6 => ?_)
          refine wp_if (fun c5 => ?_) (fun c5 => ?_)
          · refine wp_bind (T_Day_mixBrings 0 M) (fun r7 hr7 => ?_)
            unfold F_Day_tryMix_l113
            refine wp_bind (Ψ := fun r => True) (wp_while (P := fun _ => True) (μ := fun z => muU z.2) (fun z hz => wp_mono (T_Day_tryMix_b113 1 (1.toInt64 * ((r1 + r2) + r3)) M z) (fun x hx => ?_)) FUEL ((1.toInt64 * r7), 1) trivial (mu_fuel _)) ?_
            · rcases x with x | x
              · exact ⟨trivial, hx⟩
              · trivial
            intro r hr
            unfold F_Day_tryMix_j147
            refine wp_if (fun c6 => ?_) (fun c6 => ?_)
            · exact wp_some ((((Same.rfl').sL (by first | omega | (dsimp only; omega)))).sL (by first | omega | (dsimp only; omega)))
            · refine wp_if (fun c7 => ?_) (fun c7 => ?_)
              · exact wp_some Same.rfl'
              · exact wp_some ((((Same.rfl').sL (by first | omega | (dsimp only; omega)))).sL (by first | omega | (dsimp only; omega)))
          · exact wp_some Same.rfl'
  · unfold F_Day_tryMix_j38
    refine wp_if (fun c8 => ?_) (fun c8 => ?_)
    · exact wp_some Same.rfl'
    · refine wp_bind (T_Row_at 72 3 0 M) (fun r4 hr4 => ?_)
      refine wp_if (fun c9 => ?_) (fun c9 => ?_)
      · exact wp_some Same.rfl'
      · refine wp_bind (T_Row_at 72 3 1 M) (fun r5 hr5 => ?_)
        refine wp_if (fun c10 => ?_) (fun c10 => ?_)
        · exact wp_some Same.rfl'
        · refine wp_bind (T_Row_at 72 3 2 M) (fun r6 hr6 => ?_)
          refine wp_if (fun c11 => ?_) (fun c11 => ?_)
          · refine wp_bind (T_Day_mixBrings 0 M) (fun r7 hr7 => ?_)
            unfold F_Day_tryMix_l113
            refine wp_bind (Ψ := fun r => True) (wp_while (P := fun _ => True) (μ := fun z => muU z.2) (fun z hz => wp_mono (T_Day_tryMix_b113 ((-1)) (((-1)).toInt64 * ((r1 + r2) + r3)) M z) (fun x hx => ?_)) FUEL ((((-1)).toInt64 * r7), 1) trivial (mu_fuel _)) ?_
            · rcases x with x | x
              · exact ⟨trivial, hx⟩
              · trivial
            intro r hr
            unfold F_Day_tryMix_j147
            refine wp_if (fun c12 => ?_) (fun c12 => ?_)
            · exact wp_some ((((Same.rfl').sL (by first | omega | (dsimp only; omega)))).sL (by first | omega | (dsimp only; omega)))
            · refine wp_if (fun c13 => ?_) (fun c13 => ?_)
              · exact wp_some Same.rfl'
              · exact wp_some ((((Same.rfl').sL (by first | omega | (dsimp only; omega)))).sL (by first | omega | (dsimp only; omega)))
          · exact wp_some Same.rfl'
theorem T_Day_tryMixesOfTwo_b18 (x1 : Int32) (x2 : Int32) (x3 : Int32) (z : Int32 × Mem) : wpO (F_Day_tryMixesOfTwo_b18 x1 x2 x3 z) (fun r => (match r with | .inl s => Same (fun k => k = 68 ∨ k = 72) z.2 s.2 ∧ muU s.1 < muU z.1 | .inr r => Same (fun k => k = 68 ∨ k = 72) z.2 r)) := by
  unfold F_Day_tryMixesOfTwo_b18
  refine wp_if (fun c1 => ?_) (fun c1 => ?_)
  · exact wp_some Same.rfl'
  · refine wp_bind (T_Row_at 70 9 ((3 * x2) + z.1) z.2) (fun r1 hr1 => ?_)
    refine wp_bind (T_Row_at 70 9 ((3 * x2) + x3) z.2) (fun r2 hr2 => ?_)
    refine wp_bind (T_Row_at 70 9 ((3 * x1) + x3) z.2) (fun r3 hr3 => ?_)
    refine wp_bind (T_Row_at 70 9 ((3 * x1) + z.1) z.2) (fun r4 hr4 => ?_)
    refine wp_bind (T_Day_setWeights x1 (r1 - r2) x2 (r3 - r4) z.2) (fun r5 hr5 => ?_)
    have mr5 : Same (fun k => k = 68 ∨ k = 72) z.2 r5 := hr5.mono (fun k hk => by first | omega | exact hk.elim | (dsimp only at hk ⊢; omega))
    refine wp_bind (T_Day_tryMix r5) (fun r6 hr6 => ?_)
    have mr6 := (mr5).trans (hr6.mono (fun k hk => by first | omega | exact hk.elim | (dsimp only at hk ⊢; omega)))
    exact wp_some ⟨mr6, (muU_le c1)⟩
theorem T_Day_tryMixesOfTwo_b2 (x1 : Int32) (x2 : Int32) (z : Int32 × Mem) : wpO (F_Day_tryMixesOfTwo_b2 x1 x2 z) (fun r => (match r with | .inl s => Same (fun k => k = 68 ∨ k = 72) z.2 s.2 ∧ muU s.1 < muU z.1 | .inr r => Same (fun k => k = 68 ∨ k = 72) z.2 r)) := by
  unfold F_Day_tryMixesOfTwo_b2
  refine wp_if (fun c1 => ?_) (fun c1 => ?_)
  · exact wp_some Same.rfl'
  · unfold F_Day_tryMixesOfTwo_l18
    refine wp_bind (Ψ := fun r => Same (fun k => k = 68 ∨ k = 72) z.2 r) (wp_while (P := fun z => Same (fun k => k = 68 ∨ k = 72) z.2 z.2) (μ := fun z => muU z.1) (fun z hz => wp_mono (T_Day_tryMixesOfTwo_b18 x1 x2 z.1 z) (fun x hx => ?_)) FUEL ((z.1 + 1), z.2) Same.rfl' (mu_fuel _)) ?_
    · rcases x with x | x
      · exact ⟨hz.trans (hx.1.mono (fun k hk => by first | omega | exact hk.elim | (dsimp only at hk ⊢; omega))), hx.2⟩
      · exact hz.trans (hx.mono (fun k hk => by first | omega | exact hk.elim | (dsimp only at hk ⊢; omega)))
    intro r hr
    exact wp_some ⟨hr, (muU_le c1)⟩
theorem T_Day_tryMixesOfTwo (x1 : Int32) (x2 : Int32) (M : Mem) : wpO (F_Day_tryMixesOfTwo x1 x2 M) (fun r => Same (fun k => k = 68 ∨ k = 72) M r) := by
  unfold F_Day_tryMixesOfTwo
  unfold F_Day_tryMixesOfTwo_l2
  refine wp_bind (Ψ := fun r => Same (fun k => k = 68 ∨ k = 72) M r) (wp_while (P := fun z => Same (fun k => k = 68 ∨ k = 72) M z.2) (μ := fun z => muU z.1) (fun z hz => wp_mono (T_Day_tryMixesOfTwo_b2 x1 x2 z) (fun x hx => ?_)) FUEL (0, M) Same.rfl' (mu_fuel _)) ?_
  · rcases x with x | x
    · exact ⟨hz.trans (hx.1.mono (fun k hk => by first | omega | exact hk.elim | (dsimp only at hk ⊢; omega))), hx.2⟩
    · exact hz.trans (hx.mono (fun k hk => by first | omega | exact hk.elim | (dsimp only at hk ⊢; omega)))
  intro r hr
  exact wp_some hr
theorem T_Day_tryMixOfThree_b29 (x1 : Int32) (x2 : Int32) (x3 : Int32) (M : Mem) (z : Int64 × Int32) : wpO (F_Day_tryMixOfThree_b29 x1 x2 x3 M z) (fun r => (match r with | .inl s => muU s.2 < muU z.2 | .inr r => True)) := by
  unfold F_Day_tryMixOfThree_b29
  refine wp_if (fun c1 => ?_) (fun c1 => ?_)
  · exact wp_some trivial
  · refine wp_bind (T_Row_at 70 9 (x2 + (irm (z.2 + 1) 3)) M) (fun r3 hr3 => ?_)
    refine wp_bind (T_Row_at 70 9 (x3 + (irm (z.2 + 2) 3)) M) (fun r4 hr4 => ?_)
    refine wp_bind (T_Row_at 70 9 (x2 + (irm (z.2 + 2) 3)) M) (fun r5 hr5 => ?_)
    refine wp_bind (T_Row_at 70 9 (x3 + (irm (z.2 + 1) 3)) M) (fun r6 hr6 => ?_)
    exact wp_some (muU_le c1)
theorem T_Day_tryMixOfThree_b2 (z : Int32 × Mem) : wpO (F_Day_tryMixOfThree_b2 z) (fun r => (match r with | .inl s => Same (fun k => k = 72) z.2 s.2 ∧ muU s.1 < muU z.1 | .inr r => Same (fun k => k = 72) z.2 r)) := by
  unfold F_Day_tryMixOfThree_b2
  refine wp_if (fun c1 => ?_) (fun c1 => ?_)
  · exact wp_some Same.rfl'
  · unfold F_Day_tryMixOfThree_l29
    refine wp_bind (Ψ := fun r => True) (wp_while (P := fun _ => True) (μ := fun z => muU z.2) (fun z hz => wp_mono (T_Day_tryMixOfThree_b29 z.1 (3 * (irm (z.1 + 1) 3)) (3 * (irm (z.1 + 2) 3)) z.2 z) (fun x hx => ?_)) FUEL (0, 0) trivial (mu_fuel _)) ?_
    · rcases x with x | x
      · exact ⟨trivial, hx⟩
      · trivial
    intro r hr
    unfold F_Day_tryMixOfThree_j109
    refine wp_bind (T_Row_put 72 3 z.1 r z.2) (fun r2 hr2 => ?_)
    have mr2 : Same (fun k => k = 72) z.2 r2 := hr2.mono (fun k hk => by first | omega | exact hk.elim | (dsimp only at hk ⊢; omega))
    exact wp_some ⟨mr2, (muU_le c1)⟩
theorem T_Day_tryMixOfThree (M : Mem) : wpO (F_Day_tryMixOfThree M) (fun r => Same (fun k => k = 68 ∨ k = 72) M r) := by
  unfold F_Day_tryMixOfThree
  unfold F_Day_tryMixOfThree_l2
  refine wp_bind (Ψ := fun r => Same (fun k => k = 68 ∨ k = 72) M r) (wp_while (P := fun z => Same (fun k => k = 68 ∨ k = 72) M z.2) (μ := fun z => muU z.1) (fun z hz => wp_mono (T_Day_tryMixOfThree_b2  z) (fun x hx => ?_)) FUEL (0, M) Same.rfl' (mu_fuel _)) ?_
  · rcases x with x | x
    · exact ⟨hz.trans (hx.1.mono (fun k hk => by first | omega | exact hk.elim | (dsimp only at hk ⊢; omega))), hx.2⟩
    · exact hz.trans (hx.mono (fun k hk => by first | omega | exact hk.elim | (dsimp only at hk ⊢; omega)))
  intro r hr
  unfold F_Day_tryMixOfThree_j125
  refine wp_bind (T_Day_tryMix r) (fun r1 hr1 => ?_)
  have mr1 := (hr).trans (hr1.mono (fun k hk => by first | omega | exact hk.elim | (dsimp only at hk ⊢; omega)))
  exact wp_some mr1
theorem T_Day_tellLots_b72 (o2 : Nat) (x3 : Int32) (z : Int32 × Mem) : wpO (F_Day_tellLots_b72 o2 x3 z) (fun r => (match r with | .inl s => Same (fun k => k = 68 ∨ k = 72) z.2 s.2 ∧ muU s.1 < muU z.1 | .inr r => Same (fun k => k = 68 ∨ k = 72) z.2 r)) := by
  unfold F_Day_tellLots_b72
  refine wp_if (fun c1 => ?_) (fun c1 => ?_)
  · exact wp_some Same.rfl'
  · refine wp_bind (T_Day_tryMixesOfTwo x3 z.1 z.2) (fun r5 hr5 => ?_)
    have mr5 : Same (fun k => k = 68 ∨ k = 72) z.2 r5 := hr5.mono (fun k hk => by first | omega | exact hk.elim | (dsimp only at hk ⊢; omega))
    exact wp_some ⟨mr5, (muU_le c1)⟩
theorem T_Day_tellLots_b44 (o2 : Nat) (z : Int32 × Mem) : wpO (F_Day_tellLots_b44 o2 z) (fun r => (match r with | .inl s => Same (fun k => k = 68 ∨ k = 72) z.2 s.2 ∧ muU s.1 < muU z.1 | .inr r => Same (fun k => k = 68 ∨ k = 72) z.2 r)) := by
  unfold F_Day_tellLots_b44
  refine wp_if (fun c1 => ?_) (fun c1 => ?_)
  · exact wp_some Same.rfl'
  · refine wp_bind (T_Day_setWeights z.1 1 z.1 0 z.2) (fun r3 hr3 => ?_)
    have mr3 : Same (fun k => k = 68 ∨ k = 72) z.2 r3 := hr3.mono (fun k hk => by first | omega | exact hk.elim | (dsimp only at hk ⊢; omega))
    refine wp_bind (T_Day_tryMix r3) (fun r4 hr4 => ?_)
    have mr4 := (mr3).trans (hr4.mono (fun k hk => by first | omega | exact hk.elim | (dsimp only at hk ⊢; omega)))
    unfold F_Day_tellLots_l72
    refine wp_bind (Ψ := fun r => Same (fun k => k = 68 ∨ k = 72) z.2 r) (wp_while (P := fun z => Same (fun k => k = 68 ∨ k = 72) z.2 z.2) (μ := fun z => muU z.1) (fun z hz => wp_mono (T_Day_tellLots_b72 o2 z.1 z) (fun x hx => ?_)) FUEL ((z.1 + 1), r4) mr4 (mu_fuel _)) ?_
    · rcases x with x | x
      · exact ⟨hz.trans (hx.1.mono (fun k hk => by first | omega | exact hk.elim | (dsimp only at hk ⊢; omega))), hx.2⟩
      · exact hz.trans (hx.mono (fun k hk => by first | omega | exact hk.elim | (dsimp only at hk ⊢; omega)))
    intro r hr
    exact wp_some ⟨hr, (muU_le c1)⟩
theorem T_Day_tellLots_b2 (o2 : Nat) (x1 : Int32) (z : Int32 × Mem) : wpO (F_Day_tellLots_b2 o2 x1 z) (fun r => (match r with | .inl s => Same (fun k => k = 70) z.2 s.2 ∧ muU s.1 < muU z.1 | .inr r => Same (fun k => k = 70) z.2 r)) := by
  unfold F_Day_tellLots_b2
  refine wp_if (fun c1 => ?_) (fun c1 => ?_)
  · exact wp_some Same.rfl'
  · refine wp_bind (T_Well_bringsOwn x1 (z.1 / 3) (irm z.1 3) z.2) (fun r6 hr6 => ?_)
    refine wp_bind (T_Row_put 70 9 z.1 r6.toInt64 z.2) (fun r7 hr7 => ?_)
    have mr7 : Same (fun k => k = 70) z.2 r7 := hr7.mono (fun k hk => by first | omega | exact hk.elim | (dsimp only at hk ⊢; omega))
    exact wp_some ⟨mr7, (muU_le c1)⟩
theorem T_Day_tellLots (o2 : Nat) (x1 : Int32) (M : Mem) : wpO (F_Day_tellLots o2 x1 M) (fun r => Same (fun k => (68 ≤ k ∧ k ≤ 72) ∨ k = o2) M r) := by
  unfold F_Day_tellLots
  unfold F_Day_tellLots_l2
  refine wp_bind (Ψ := fun r => Same (fun k => (68 ≤ k ∧ k ≤ 72) ∨ k = o2) M r) (wp_while (P := fun z => Same (fun k => (68 ≤ k ∧ k ≤ 72) ∨ k = o2) M z.2) (μ := fun z => muU z.1) (fun z hz => wp_mono (T_Day_tellLots_b2 o2 x1 z) (fun x hx => ?_)) FUEL (0, M) Same.rfl' (mu_fuel _)) ?_
  · rcases x with x | x
    · exact ⟨hz.trans (hx.1.mono (fun k hk => by first | omega | exact hk.elim | (dsimp only at hk ⊢; omega))), hx.2⟩
    · exact hz.trans (hx.mono (fun k hk => by first | omega | exact hk.elim | (dsimp only at hk ⊢; omega)))
  intro r hr
  unfold F_Day_tellLots_l44
  refine wp_bind (Ψ := fun r => Same (fun k => (68 ≤ k ∧ k ≤ 72) ∨ k = o2) M r) (wp_while (P := fun z => Same (fun k => (68 ≤ k ∧ k ≤ 72) ∨ k = o2) M z.2) (μ := fun z => muU z.1) (fun z hz => wp_mono (T_Day_tellLots_b44 o2 z) (fun x hx => ?_)) FUEL (0, (mSL r 68 4 0)) ((hr).sL (by first | omega | (dsimp only; omega))) (mu_fuel _)) ?_
  · rcases x with x | x
    · exact ⟨hz.trans (hx.1.mono (fun k hk => by first | omega | exact hk.elim | (dsimp only at hk ⊢; omega))), hx.2⟩
    · exact hz.trans (hx.mono (fun k hk => by first | omega | exact hk.elim | (dsimp only at hk ⊢; omega)))
  intro r hr
  unfold F_Day_tellLots_j103
  refine wp_if (fun c1 => ?_) (fun c1 => ?_)
  · refine wp_bind (T_Day_tryMixOfThree r) (fun r2 hr2 => ?_)
    have mr2 := (hr).trans (hr2.mono (fun k hk => by first | omega | exact hk.elim | (dsimp only at hk ⊢; omega)))
    unfold F_Day_tellLots_j118
    refine wp_bind (T_Fraction_be o2 (r2.2 68 3) (r2.2 68 4) r2) (fun r1 hr1 => ?_)
    have mr1 := (mr2).trans (hr1.mono (fun k hk => by first | omega | exact hk.elim | (dsimp only at hk ⊢; omega)))
    exact wp_some mr1
  · unfold F_Day_tellLots_j118
    refine wp_bind (T_Fraction_be o2 (r.2 68 3) (r.2 68 4) r) (fun r1 hr1 => ?_)
    have mr1 := (hr).trans (hr1.mono (fun k hk => by first | omega | exact hk.elim | (dsimp only at hk ⊢; omega)))
    exact wp_some mr1
theorem T_Day_isPoint (x1 : Int32) (M : Mem) : wpO (F_Day_isPoint x1 M) (fun r => True) := by
  unfold F_Day_isPoint
  refine wp_if (fun c1 => ?_) (fun c1 => ?_)
  · exact wp_some trivial
  · refine wp_if (fun c2 => ?_) (fun c2 => ?_)
    · exact wp_some trivial
    · exact wp_some trivial
theorem T_Day_across (x1 : Int32) (M : Mem) : wpO (F_Day_across x1 M) (fun r => True) := by
  unfold F_Day_across
  refine wp_bind (T_Well_bringsTo 0 (x1 / 3) (irm x1 3) M) (fun r1 hr1 => ?_)
  exact wp_some trivial
theorem T_Day_up (x1 : Int32) (M : Mem) : wpO (F_Day_up x1 M) (fun r => True) := by
  unfold F_Day_up
  refine wp_bind (T_Well_bringsTo 1 (x1 / 3) (irm x1 3) M) (fun r1 hr1 => ?_)
  exact wp_some trivial
theorem T_Day_firstCorner_b4 (M : Mem) (z : Int32 × Int32) : wpO (F_Day_firstCorner_b4 M z) (fun r => (match r with | .inl s => muU s.2 < muU z.2 | .inr r => True)) := by
  unfold F_Day_firstCorner_b4
  refine wp_if (fun c1 => ?_) (fun c1 => ?_)
  · exact wp_some trivial
  · refine wp_bind (T_Day_isPoint z.2 M) (fun r1 hr1 => ?_)
    refine wp_if (fun c2 => ?_) (fun c2 => ?_)
    · refine wp_bind (T_Day_across z.2 M) (fun r2 hr2 => ?_)
      refine wp_bind (T_Day_across z.1 M) (fun r3 hr3 => ?_)
      refine wp_if (fun c3 => ?_) (fun c3 => ?_)
      · exact wp_some (muU_le c1)
      · refine wp_bind (T_Day_across z.2 M) (fun r4 hr4 => ?_)
        refine wp_bind (T_Day_across z.1 M) (fun r5 hr5 => ?_)
        refine wp_if (fun c4 => ?_) (fun c4 => ?_)
        · refine wp_bind (T_Day_up z.2 M) (fun r6 hr6 => ?_)
          refine wp_bind (T_Day_up z.1 M) (fun r7 hr7 => ?_)
          refine wp_if (fun c5 => ?_) (fun c5 => ?_)
          · exact wp_some (muU_le c1)
          · exact wp_some (muU_le c1)
        · exact wp_some (muU_le c1)
    · exact wp_some (muU_le c1)
theorem T_Day_firstCorner (M : Mem) : wpO (F_Day_firstCorner M) (fun r => True) := by
  unfold F_Day_firstCorner
  unfold F_Day_firstCorner_l4
  refine wp_bind (Ψ := fun r => True) (wp_while (P := fun _ => True) (μ := fun z => muU z.2) (fun z hz => wp_mono (T_Day_firstCorner_b4 M z) (fun x hx => ?_)) FUEL (0, 1) trivial (mu_fuel _)) ?_
  · rcases x with x | x
    · exact ⟨trivial, hx⟩
    · trivial
  intro r hr
  exact wp_some trivial
theorem T_Day_isFurtherRight (x1 : Int32) (x2 : Int32) (x3 : Int32) (M : Mem) : wpO (F_Day_isFurtherRight x1 x2 x3 M) (fun r => True) := by
  unfold F_Day_isFurtherRight
  refine wp_bind (T_Day_across x2 M) (fun r1 hr1 => ?_)
  refine wp_bind (T_Day_across x1 M) (fun r2 hr2 => ?_)
  refine wp_bind (T_Day_up x2 M) (fun r3 hr3 => ?_)
  refine wp_bind (T_Day_up x1 M) (fun r4 hr4 => ?_)
  refine wp_bind (T_Day_across x3 M) (fun r5 hr5 => ?_)
  refine wp_bind (T_Day_across x1 M) (fun r6 hr6 => ?_)
  refine wp_bind (T_Day_up x3 M) (fun r7 hr7 => ?_)
  refine wp_bind (T_Day_up x1 M) (fun r8 hr8 => ?_)
  refine wp_if (fun c1 => ?_) (fun c1 => ?_)
  · exact wp_some trivial
  · refine wp_if (fun c2 => ?_) (fun c2 => ?_)
    · refine wp_if (fun c3 => ?_) (fun c3 => ?_)
      · exact wp_some trivial
      · exact wp_some trivial
    · exact wp_some trivial
theorem T_Day_cornerAfter_b4 (x1 : Int32) (M : Mem) (z : Int32 × Int32) : wpO (F_Day_cornerAfter_b4 x1 M z) (fun r => (match r with | .inl s => muU s.2 < muU z.2 | .inr r => True)) := by
  unfold F_Day_cornerAfter_b4
  refine wp_if (fun c1 => ?_) (fun c1 => ?_)
  · exact wp_some trivial
  · refine wp_bind (T_Day_isPoint z.2 M) (fun r1 hr1 => ?_)
    refine wp_if (fun c2 => ?_) (fun c2 => ?_)
    · refine wp_bind (T_Day_isFurtherRight x1 z.1 z.2 M) (fun r2 hr2 => ?_)
      refine wp_if (fun c3 => ?_) (fun c3 => ?_)
      · exact wp_some (muU_le c1)
      · exact wp_some (muU_le c1)
    · exact wp_some (muU_le c1)
theorem T_Day_cornerAfter (x1 : Int32) (M : Mem) : wpO (F_Day_cornerAfter x1 M) (fun r => True) := by
  unfold F_Day_cornerAfter
  unfold F_Day_cornerAfter_l4
  refine wp_bind (Ψ := fun r => True) (wp_while (P := fun _ => True) (μ := fun z => muU z.2) (fun z hz => wp_mono (T_Day_cornerAfter_b4 x1 M z) (fun x hx => ?_)) FUEL (x1, 0) trivial (mu_fuel _)) ?_
  · rcases x with x | x
    · exact ⟨trivial, hx⟩
    · trivial
  intro r hr
  exact wp_some trivial
theorem T_Day_findCorners_b12 (x1 : Int32) (z : Int32 × Mem) (h0 : 0 ≤ (z.2.1 68 5).toInt) (h8 : (z.2.1 68 5).toInt ≤ 8) : wpO (F_Day_findCorners_b12 x1 z) (fun x => match x with | .inl s => (0 ≤ (s.2.1 68 5).toInt ∧ (s.2.1 68 5).toInt ≤ 8 ∧ Same (fun k => (68 ≤ k ∧ k ≤ 76)) z.2 s.2) ∧ (9 - (s.2.1 68 5).toInt).toNat < (9 - (z.2.1 68 5).toInt).toNat | .inr r => Same (fun k => (68 ≤ k ∧ k ≤ 76)) z.2 r ∧ (r.1 68 5).toInt = (z.2.1 68 5).toInt + 1) := by
  unfold F_Day_findCorners_b12
  refine wp_bind (T_Day_across _ _) (fun r2 _ => ?_)
  refine wp_bind (T_Row_put 74 9 (z.2.1 68 5) r2.toInt64 z.2) (fun r3 h3 => ?_)
  refine wp_bind (T_Day_up _ _) (fun r4 _ => ?_)
  refine wp_bind (T_Row_put 76 9 (r3.1 68 5) r4.toInt64 r3) (fun r5 h5 => ?_)
  have e5 : r5.1 68 5 = z.2.1 68 5 := ((h5 68 (by decide)).1 5).trans ((h3 68 (by decide)).1 5)
  have s5 : Same (fun k => (68 ≤ k ∧ k ≤ 76)) z.2 r5 := (h3.mono (fun k hk => by first | omega | exact hk.elim | (dsimp only at hk ⊢; omega))).trans (h5.mono (fun k hk => by first | omega | exact hk.elim | (dsimp only at hk ⊢; omega)))
  have e6 : (mSI r5 68 5 (r5.1 68 5 + 1)).1 68 5 = z.2.1 68 5 + 1 := by rw [mI_hit, e5]
  have e7 : (z.2.1 68 5 + 1).toInt = (z.2.1 68 5).toInt + 1 := up1 (by omega)
  have s6 : Same (fun k => (68 ≤ k ∧ k ≤ 76)) z.2 (mSI r5 68 5 (r5.1 68 5 + 1)) := s5.sI (by first | omega | (dsimp only; omega))
  have stop : Same (fun k => (68 ≤ k ∧ k ≤ 76)) z.2 (mSI r5 68 5 (r5.1 68 5 + 1)) ∧ ((mSI r5 68 5 (r5.1 68 5 + 1)).1 68 5).toInt = (z.2.1 68 5).toInt + 1 := ⟨s6, by rw [e6, e7]⟩
  refine wp_bind (T_Day_cornerAfter _ _) (fun r6 _ => wp_if (fun c1 => wp_some stop) (fun c1 => ?_))
  have go : (0 ≤ ((mSI r5 68 5 (r5.1 68 5 + 1)).1 68 5).toInt ∧ ((mSI r5 68 5 (r5.1 68 5 + 1)).1 68 5).toInt ≤ 8 ∧ Same (fun k => (68 ≤ k ∧ k ≤ 76)) z.2 (mSI r5 68 5 (r5.1 68 5 + 1))) ∧ (9 - ((mSI r5 68 5 (r5.1 68 5 + 1)).1 68 5).toInt).toNat < (9 - (z.2.1 68 5).toInt).toNat := by
    rw [le_i, li9, e6, e7] at c1
    rw [e6, e7]
    exact ⟨⟨by omega, by omega, s6⟩, by omega⟩
  refine wp_bind (T_Day_across _ _) (fun r7 _ => wp_bind (T_Day_across _ _) (fun r8 _ => wp_if (fun c2 => ?_) (fun c2 => wp_some go)))
  refine wp_bind (T_Day_up _ _) (fun r9 _ => wp_bind (T_Day_up _ _) (fun r10 _ => wp_if (fun c3 => wp_some stop) (fun c3 => wp_some go)))
theorem T_Day_findCorners (M : Mem) : wpO (F_Day_findCorners M) (fun r => Same (fun k => (68 ≤ k ∧ k ≤ 76)) M r) := by
  unfold F_Day_findCorners
  refine wp_bind (T_Day_firstCorner _) (fun r1 _ => ?_)
  unfold F_Day_findCorners_l12
  have e0 : ((mSI M 68 5 0).1 68 5).toInt = 0 := by rw [mI_hit]; rfl
  refine wp_bind (Ψ := fun r => Same (fun k => (68 ≤ k ∧ k ≤ 76)) M r) (wp_while (P := fun z => 0 ≤ (z.2.1 68 5).toInt ∧ (z.2.1 68 5).toInt ≤ 8 ∧ Same (fun k => (68 ≤ k ∧ k ≤ 76)) M z.2) (μ := fun z => (9 - (z.2.1 68 5).toInt).toNat) (fun z hz => wp_mono (T_Day_findCorners_b12 r1 z hz.1 hz.2.1) (fun x hx => ?_)) FUEL (r1, mSI M 68 5 0) ⟨by omega, by omega, Same.rfl'.sI (by first | omega | (dsimp only; omega))⟩ (FUEL_big (by first | omega | (dsimp only; omega)))) (fun r hr => wp_some hr)
  rcases x with x | x
  · exact ⟨⟨hx.1.1, hx.1.2.1, hz.2.2.trans hx.1.2.2⟩, hx.2⟩
  · exact hz.2.2.trans hx.1

theorem T_Day_isBetweenEnds (x1 : Int32) (x2 : Int32) (x3 : Int32) (M : Mem) : wpO (F_Day_isBetweenEnds x1 x2 x3 M) (fun r => True) := by
  unfold F_Day_isBetweenEnds
  refine wp_bind (T_Row_at 76 9 0 M) (fun r1 hr1 => ?_)
  refine wp_bind (T_Row_at 76 9 ((M.1 68 5) - 1) M) (fun r2 hr2 => ?_)
  refine wp_bind (T_Math_max_JJJ r1 r2 M) (fun r3 hr3 => ?_)
  refine wp_bind (T_Row_at 76 9 0 M) (fun r4 hr4 => ?_)
  refine wp_bind (T_Row_at 76 9 ((M.1 68 5) - 1) M) (fun r5 hr5 => ?_)
  refine wp_bind (T_Math_min_JJJ r4 r5 M) (fun r6 hr6 => ?_)
  refine wp_bind (T_Row_at 74 9 0 M) (fun r7 hr7 => ?_)
  refine wp_if (fun c1 => ?_) (fun c1 => ?_)
  · exact wp_some trivial
  · refine wp_bind (T_Row_at 74 9 ((M.1 68 5) - 1) M) (fun r8 hr8 => ?_)
    refine wp_if (fun c2 => ?_) (fun c2 => ?_)
    · exact wp_some trivial
    · refine wp_if (fun c3 => ?_) (fun c3 => ?_)
      · exact wp_some trivial
      · refine wp_if (fun c4 => ?_) (fun c4 => ?_)
        · exact wp_some trivial
        · exact wp_some trivial
theorem T_Day_bodyHas_b3 (x1 : Int32) (x2 : Int32) (x3 : Int32) (M : Mem) (z : Int32) : wpO (F_Day_bodyHas_b3 x1 x2 x3 M z) (fun r => (match r with | .inl s => muU s < muU z | .inr r => (match r with | .inl s => True | .inr r => True))) := by
  unfold F_Day_bodyHas_b3
  refine wp_if (fun c1 => ?_) (fun c1 => ?_)
  · exact wp_some trivial
  · refine wp_if (fun c2 => ?_) (fun c2 => ?_)
    · exact wp_some trivial
    · refine wp_if (fun c3 => ?_) (fun c3 => ?_)
      · unfold F_Day_bodyHas_j38
        refine wp_bind (T_Row_at 74 9 0 M) (fun r2 hr2 => ?_)
        refine wp_bind (T_Row_at 74 9 z M) (fun r3 hr3 => ?_)
        refine wp_bind (T_Row_at 76 9 0 M) (fun r4 hr4 => ?_)
        refine wp_bind (T_Row_at 76 9 z M) (fun r5 hr5 => ?_)
        refine wp_bind (T_Row_at 74 9 z M) (fun r6 hr6 => ?_)
        refine wp_bind (T_Row_at 76 9 z M) (fun r7 hr7 => ?_)
        refine wp_if (fun c4 => ?_) (fun c4 => ?_)
        · exact wp_some (muU_le c1)
        · exact wp_some trivial
      · unfold F_Day_bodyHas_j38
        refine wp_bind (T_Row_at 74 9 (z + 1) M) (fun r2 hr2 => ?_)
        refine wp_bind (T_Row_at 74 9 z M) (fun r3 hr3 => ?_)
        refine wp_bind (T_Row_at 76 9 (z + 1) M) (fun r4 hr4 => ?_)
        refine wp_bind (T_Row_at 76 9 z M) (fun r5 hr5 => ?_)
        refine wp_bind (T_Row_at 74 9 z M) (fun r6 hr6 => ?_)
        refine wp_bind (T_Row_at 76 9 z M) (fun r7 hr7 => ?_)
        refine wp_if (fun c5 => ?_) (fun c5 => ?_)
        · exact wp_some (muU_le c1)
        · exact wp_some trivial
theorem T_Day_bodyHas (x1 : Int32) (x2 : Int32) (x3 : Int32) (M : Mem) : wpO (F_Day_bodyHas x1 x2 x3 M) (fun r => True) := by
  unfold F_Day_bodyHas
  unfold F_Day_bodyHas_l3
  refine wp_bind (Ψ := fun q => (match q with | .inl s => True | .inr r => True)) (wp_while (P := fun _ => True) (μ := fun z => muU z) (fun z hz => wp_mono (T_Day_bodyHas_b3 x1 x2 x3 M z) (fun x hx => ?_)) FUEL 0 trivial (mu_fuel _)) ?_
  · rcases x with x | x
    · exact ⟨trivial, hx⟩
    · rcases x with x | x
      · trivial
      · trivial
  intro q hq
  rcases q with r1 | r1
  · exact wp_some trivial
  · unfold F_Day_bodyHas_j140
    refine wp_if (fun c2 => ?_) (fun c2 => ?_)
    · exact wp_some trivial
    · refine wp_bind (T_Day_isBetweenEnds x1 x2 x3 M) (fun r1 hr1 => ?_)
      refine wp_if (fun c3 => ?_) (fun c3 => ?_)
      · exact wp_some trivial
      · exact wp_some trivial
theorem T_Day_mustBeKept (x1 : Int32) (x2 : Int32) (x3 : Int32) (M : Mem) : wpO (F_Day_mustBeKept x1 x2 x3 M) (fun r => True) := by
  unfold F_Day_mustBeKept
  refine wp_bind (T_Day_leastOf 0 M) (fun r1 hr1 => ?_)
  refine wp_if (fun c1 => ?_) (fun c1 => ?_)
  · exact wp_some trivial
  · refine wp_bind (T_Day_leastOf 1 M) (fun r2 hr2 => ?_)
    refine wp_if (fun c2 => ?_) (fun c2 => ?_)
    · exact wp_some trivial
    · exact wp_some trivial
theorem T_Day_laterWorth (x1 : Int32) (M : Mem) : wpO (F_Day_laterWorth x1 M) (fun r => True) := by
  unfold F_Day_laterWorth
  refine wp_if (fun c1 => ?_) (fun c1 => ?_)
  · exact wp_some trivial
  · refine wp_bind (T_Row_at 78 10 x1 M) (fun r1 hr1 => ?_)
    refine wp_t (ne_toL c1) ?_
    exact wp_some trivial
theorem T_Day_mostOtherwise_b23 (x1 : Int32) (x2 : Int32) (x3 : Int32) (M : Mem) (z : Int32 × Int32) : wpO (F_Day_mostOtherwise_b23 x1 x2 x3 M z) (fun r => (match r with | .inl s => muU s.2 < muU z.2 | .inr r => True)) := by
  unfold F_Day_mostOtherwise_b23
  refine wp_if (fun c1 => ?_) (fun c1 => ?_)
  · exact wp_some trivial
  · refine wp_if (fun c2 => ?_) (fun c2 => ?_)
    · exact wp_some (muU_le c1)
    · refine wp_bind (T_Well_bringsOwn x1 z.2 x3 M) (fun r2 hr2 => ?_)
      refine wp_bind (T_Math_max_III z.1 r2 M) (fun r3 hr3 => ?_)
      exact wp_some (muU_le c1)
theorem T_Day_mostOtherwise (x1 : Int32) (x2 : Int32) (x3 : Int32) (M : Mem) : wpO (F_Day_mostOtherwise x1 x2 x3 M) (fun r => True) := by
  unfold F_Day_mostOtherwise
  refine wp_if (fun c1 => ?_) (fun c1 => ?_)
  · unfold F_Day_mostOtherwise_j14
    refine wp_bind (T_Well_bringsOwn x1 ((b2i true)) x3 M) (fun r1 hr1 => ?_)
    unfold F_Day_mostOtherwise_l23
    refine wp_bind (Ψ := fun r => True) (wp_while (P := fun _ => True) (μ := fun z => muU z.2) (fun z hz => wp_mono (T_Day_mostOtherwise_b23 x1 x2 x3 M z) (fun x hx => ?_)) FUEL (r1, 0) trivial (mu_fuel _)) ?_
    · rcases x with x | x
      · exact ⟨trivial, hx⟩
      · trivial
    intro r hr
    exact wp_some trivial
  · unfold F_Day_mostOtherwise_j14
    refine wp_bind (T_Well_bringsOwn x1 ((b2i false)) x3 M) (fun r1 hr1 => ?_)
    unfold F_Day_mostOtherwise_l23
    refine wp_bind (Ψ := fun r => True) (wp_while (P := fun _ => True) (μ := fun z => muU z.2) (fun z hz => wp_mono (T_Day_mostOtherwise_b23 x1 x2 x3 M z) (fun x hx => ?_)) FUEL (r1, 0) trivial (mu_fuel _)) ?_
    · rcases x with x | x
      · exact ⟨trivial, hx⟩
      · trivial
    intro r hr
    exact wp_some trivial
theorem T_Day_isThreatEnough_b215 (x1 : Int32) (x4 : Int32) (x5 : Int32) (x6 : Int32) (x7 : Int64) (x11 : Int64) (M : Mem) (z : Bool × Int32) (hp0 : x6 ≤ 9) : wpO (F_Day_isThreatEnough_b215 x1 x4 x5 x6 x7 x11 M z) (fun r => (match r with | .inl s => muU s.2 < muU z.2 | .inr r => True)) := by
  unfold F_Day_isThreatEnough_b215
  refine wp_if (fun c1 => ?_) (fun c1 => ?_)
  · exact wp_some trivial
  · refine wp_if (fun c2 => ?_) (fun c2 => ?_)
    · exact wp_some (muU_nl c1 (Int32.le_trans hp0 (by decide)))
    · refine wp_bind (T_Row_at 78 10 z.2 M) (fun r6 hr6 => ?_)
      refine wp_bind (T_Day_mostOtherwise x1 x4 x5 M) (fun r7 hr7 => ?_)
      refine wp_if (fun c3 => ?_) (fun c3 => ?_)
      · exact wp_some (muU_nl c1 (Int32.le_trans hp0 (by decide)))
      · exact wp_some (muU_nl c1 (Int32.le_trans hp0 (by decide)))
theorem T_Day_isThreatEnough_b124 (x1 : Int32) (x2 : Int32) (x3 : Int32) (x4 : Int32) (x5 : Int32) (x6 : Int32) (x7 : Int64) (z : Int32 × Mem) (hp0 : x6 ≤ 9) : wpO (F_Day_isThreatEnough_b124 x1 x2 x3 x4 x5 x6 x7 z) (fun r => (match r with | .inl s => Same (fun k => k = 78) z.2 s.2 ∧ muU s.1 < muU z.1 | .inr r => Same (fun k => k = 78) z.2 r)) := by
  unfold F_Day_isThreatEnough_b124
  refine wp_if (fun c1 => ?_) (fun c1 => ?_)
  · exact wp_some Same.rfl'
  · refine wp_bind (T_Well_bringsOwn x1 x4 x5 z.2) (fun r8 hr8 => ?_)
    refine wp_bind (T_Day_laterWorth (z.1 - 1) z.2) (fun r9 hr9 => ?_)
    refine wp_bind (T_Row_put 78 10 z.1 ((x7 * r8.toInt64) + r9) z.2) (fun r10 hr10 => ?_)
    have mr10 : Same (fun k => k = 78) z.2 r10 := hr10.mono (fun k hk => by first | omega | exact hk.elim | (dsimp only at hk ⊢; omega))
    exact wp_some ⟨mr10, (muU_nl c1 (Int32.le_trans hp0 (by decide)))⟩
theorem T_Day_isThreatEnough_b21 (x1 : Int32) (x2 : Int32) (x3 : Int32) (x4 : Int32) (x5 : Int32) (x6 : Int32) (M : Mem) (z : Int64 × Int32) : wpO (F_Day_isThreatEnough_b21 x1 x2 x3 x4 x5 x6 M z) (fun r => (match r with | .inl s => muU s.2 < muU z.2 | .inr r => True)) := by
  unfold F_Day_isThreatEnough_b21
  refine wp_if (fun c1 => ?_) (fun c1 => ?_)
  · exact wp_some trivial
  · exact wp_some (muU_nl c1 (by decide))
theorem T_Day_isThreatEnough (x1 : Int32) (x2 : Int32) (x3 : Int32) (x4 : Int32) (x5 : Int32) (x6 : Int32) (M : Mem) (hp0 : x6 ≤ 9) : wpO (F_Day_isThreatEnough x1 x2 x3 x4 x5 x6 M) (fun r => Same (fun k => k = 78) M r.2) := by
  unfold F_Day_isThreatEnough
  unfold F_Day_isThreatEnough_l21
  refine wp_bind (Ψ := fun r => True) (wp_while (P := fun _ => True) (μ := fun z => muU z.2) (fun z hz => wp_mono (T_Day_isThreatEnough_b21 x1 x2 x3 x4 x5 x6 M z) (fun x hx => ?_)) FUEL ((((M.1 1 2) - (M.1 1 1)).toInt64), 0) trivial (mu_fuel _)) ?_
  · rcases x with x | x
    · exact ⟨trivial, hx⟩
    · trivial
  intro r hr
  unfold F_Day_isThreatEnough_j47
  refine wp_if (fun c1 => ?_) (fun c1 => ?_)
  · refine wp_t (ne_toL (by intro q; rw [q] at c1; exact absurd c1 (by decide))) ?_
    unfold F_Day_isThreatEnough_j97
    refine wp_bind (T_Well_bringsOwn x1 x2 x3 M) (fun r1 hr1 => ?_)
    refine wp_bind (T_Row_put 78 10 0 (((r / (((M.1 1 2) - (M.1 1 1)).toInt64)) * ((M.1 1 2).toInt64)) * r1.toInt64) M) (fun r2 hr2 => ?_)
    have mr2 : Same (fun k => k = 78) M r2 := hr2.mono (fun k hk => by first | omega | exact hk.elim | (dsimp only at hk ⊢; omega))
    unfold F_Day_isThreatEnough_l124
    refine wp_bind (Ψ := fun r => Same (fun k => k = 78) M r) (wp_while (P := fun z => Same (fun k => k = 78) M z.2) (μ := fun z => muU z.1) (fun z hz => wp_mono (T_Day_isThreatEnough_b124 x1 x2 x3 x4 x5 x6 r z (by first | decide | assumption | exact n32.mp (by assumption))) (fun x hx => ?_)) FUEL (1, r2) mr2 (mu_fuel _)) ?_
    · rcases x with x | x
      · exact ⟨hz.trans (hx.1.mono (fun k hk => by first | omega | exact hk.elim | (dsimp only at hk ⊢; omega))), hx.2⟩
      · exact hz.trans (hx.mono (fun k hk => by first | omega | exact hk.elim | (dsimp only at hk ⊢; omega)))
    intro r hr
    unfold F_Day_isThreatEnough_j171
    refine wp_bind (T_Day_laterWorth x6 r) (fun r3 hr3 => ?_)
    refine wp_bind (T_Row_at 78 10 0 r) (fun r4 hr4 => ?_)
    refine wp_bind (T_Day_mostOtherwise x1 x2 x3 r) (fun r5 hr5 => ?_)
    refine wp_if (fun c2 => ?_) (fun c2 => ?_)
    · unfold F_Day_isThreatEnough_l215
      refine wp_bind (Ψ := fun r => True) (wp_while (P := fun _ => True) (μ := fun z => muU z.2) (fun z hz => wp_mono (T_Day_isThreatEnough_b215 x1 x4 x5 x6 r r3 r z (by first | decide | assumption | exact n32.mp (by assumption))) (fun x hx => ?_)) FUEL (false, 1) trivial (mu_fuel _)) ?_
      · rcases x with x | x
        · exact ⟨trivial, hx⟩
        · trivial
      intro r hr
      unfold F_Day_isThreatEnough_j269
      refine wp_if (fun c3 => ?_) (fun c3 => ?_)
      · exact wp_some hr
      · exact wp_some hr
    · unfold F_Day_isThreatEnough_l215
      refine wp_bind (Ψ := fun r => True) (wp_while (P := fun _ => True) (μ := fun z => muU z.2) (fun z hz => wp_mono (T_Day_isThreatEnough_b215 x1 x4 x5 x6 r r3 r z (by first | decide | assumption | exact n32.mp (by assumption))) (fun x hx => ?_)) FUEL (true, 1) trivial (mu_fuel _)) ?_
      · rcases x with x | x
        · exact ⟨trivial, hx⟩
        · trivial
      intro r hr
      unfold F_Day_isThreatEnough_j269
      refine wp_if (fun c4 => ?_) (fun c4 => ?_)
      · exact wp_some hr
      · exact wp_some hr
  · unfold F_Day_isThreatEnough_j97
    refine wp_bind (T_Well_bringsOwn x1 x2 x3 M) (fun r1 hr1 => ?_)
    refine wp_bind (T_Row_put 78 10 0 (0 * r1.toInt64) M) (fun r2 hr2 => ?_)
    have mr2 : Same (fun k => k = 78) M r2 := hr2.mono (fun k hk => by first | omega | exact hk.elim | (dsimp only at hk ⊢; omega))
    unfold F_Day_isThreatEnough_l124
    refine wp_bind (Ψ := fun r => Same (fun k => k = 78) M r) (wp_while (P := fun z => Same (fun k => k = 78) M z.2) (μ := fun z => muU z.1) (fun z hz => wp_mono (T_Day_isThreatEnough_b124 x1 x2 x3 x4 x5 x6 r z (by first | decide | assumption | exact n32.mp (by assumption))) (fun x hx => ?_)) FUEL (1, r2) mr2 (mu_fuel _)) ?_
    · rcases x with x | x
      · exact ⟨hz.trans (hx.1.mono (fun k hk => by first | omega | exact hk.elim | (dsimp only at hk ⊢; omega))), hx.2⟩
      · exact hz.trans (hx.mono (fun k hk => by first | omega | exact hk.elim | (dsimp only at hk ⊢; omega)))
    intro r hr
    unfold F_Day_isThreatEnough_j171
    refine wp_bind (T_Day_laterWorth x6 r) (fun r3 hr3 => ?_)
    refine wp_bind (T_Row_at 78 10 0 r) (fun r4 hr4 => ?_)
    refine wp_bind (T_Day_mostOtherwise x1 x2 x3 r) (fun r5 hr5 => ?_)
    refine wp_if (fun c5 => ?_) (fun c5 => ?_)
    · unfold F_Day_isThreatEnough_l215
      refine wp_bind (Ψ := fun r => True) (wp_while (P := fun _ => True) (μ := fun z => muU z.2) (fun z hz => wp_mono (T_Day_isThreatEnough_b215 x1 x4 x5 x6 r r3 r z (by first | decide | assumption | exact n32.mp (by assumption))) (fun x hx => ?_)) FUEL (false, 1) trivial (mu_fuel _)) ?_
      · rcases x with x | x
        · exact ⟨trivial, hx⟩
        · trivial
      intro r hr
      unfold F_Day_isThreatEnough_j269
      refine wp_if (fun c6 => ?_) (fun c6 => ?_)
      · exact wp_some hr
      · exact wp_some hr
    · unfold F_Day_isThreatEnough_l215
      refine wp_bind (Ψ := fun r => True) (wp_while (P := fun _ => True) (μ := fun z => muU z.2) (fun z hz => wp_mono (T_Day_isThreatEnough_b215 x1 x4 x5 x6 r r3 r z (by first | decide | assumption | exact n32.mp (by assumption))) (fun x hx => ?_)) FUEL (true, 1) trivial (mu_fuel _)) ?_
      · rcases x with x | x
        · exact ⟨trivial, hx⟩
        · trivial
      intro r hr
      unfold F_Day_isThreatEnough_j269
      refine wp_if (fun c7 => ?_) (fun c7 => ?_)
      · exact wp_some hr
      · exact wp_some hr
theorem T_Day_fewestThreatDays_b3 (x1 : Int32) (x2 : Int32) (x3 : Int32) (x4 : Int32) (z : Int32 × Mem) : wpO (F_Day_fewestThreatDays_b3 x1 x2 x3 x4 z) (fun r => (match r with | .inl s => Same (fun k => k = 78) z.2 s.2 ∧ muU s.1 < muU z.1 | .inr r => (match r with | .inl s => Same (fun k => k = 78) z.2 s.2 | .inr r => Same (fun k => k = 78) z.2 r))) := by
  unfold F_Day_fewestThreatDays_b3
  refine wp_if (fun c1 => ?_) (fun c1 => ?_)
  · exact wp_some Same.rfl'
  · refine wp_bind (T_Day_isThreatEnough 0 x1 x2 x3 x4 z.1 z.2 (by first | decide | assumption | exact n32.mp (by assumption))) (fun r1 hr1 => ?_)
    have mr1 : Same (fun k => k = 78) z.2 r1.2 := hr1.mono (fun k hk => by first | omega | exact hk.elim | (dsimp only at hk ⊢; omega))
    refine wp_if (fun c2 => ?_) (fun c2 => ?_)
    · refine wp_bind (T_Day_isThreatEnough 1 x2 x1 x4 x3 z.1 r1.2 (by first | decide | assumption | exact n32.mp (by assumption))) (fun r2 hr2 => ?_)
      have mr2 := (mr1).trans (hr2.mono (fun k hk => by first | omega | exact hk.elim | (dsimp only at hk ⊢; omega)))
      refine wp_if (fun c3 => ?_) (fun c3 => ?_)
      · exact wp_some mr2
      · exact wp_some ⟨mr2, (muU_nl c1 (by decide))⟩
    · exact wp_some ⟨mr1, (muU_nl c1 (by decide))⟩
theorem T_Day_fewestThreatDays (x1 : Int32) (x2 : Int32) (x3 : Int32) (x4 : Int32) (M : Mem) : wpO (F_Day_fewestThreatDays x1 x2 x3 x4 M) (fun r => Same (fun k => k = 78) M r.2) := by
  unfold F_Day_fewestThreatDays
  unfold F_Day_fewestThreatDays_l3
  refine wp_bind (Ψ := fun q => (match q with | .inl s => Same (fun k => k = 78) M s.2 | .inr r => Same (fun k => k = 78) M r)) (wp_while (P := fun z => Same (fun k => k = 78) M z.2) (μ := fun z => muU z.1) (fun z hz => wp_mono (T_Day_fewestThreatDays_b3 x1 x2 x3 x4 z) (fun x hx => ?_)) FUEL (0, M) Same.rfl' (mu_fuel _)) ?_
  · rcases x with x | x
    · exact ⟨hz.trans (hx.1.mono (fun k hk => by first | omega | exact hk.elim | (dsimp only at hk ⊢; omega))), hx.2⟩
    · rcases x with x | x
      · exact hz.trans (hx.mono (fun k hk => by first | omega | exact hk.elim | (dsimp only at hk ⊢; omega)))
      · exact hz.trans (hx.mono (fun k hk => by first | omega | exact hk.elim | (dsimp only at hk ⊢; omega)))
  intro q hq
  rcases q with r1 | r1
  · exact wp_some hq
  · exact wp_some hq
theorem T_Crowd_seeWhoIsThere_b2 (z : Int32 × Mem) : wpO (F_Crowd_seeWhoIsThere_b2 z) (fun r => (match r with | .inl s => Same (fun k => k = 82) z.2 s.2 ∧ muU s.1 < muU z.1 | .inr r => Same (fun k => k = 82) z.2 r)) := by
  unfold F_Crowd_seeWhoIsThere_b2
  refine wp_if (fun c1 => ?_) (fun c1 => ?_)
  · exact wp_some Same.rfl'
  · refine wp_if (fun c2 => ?_) (fun c2 => ?_)
    · unfold F_Crowd_seeWhoIsThere_j40
      refine wp_bind (T_Row_put 82 8 z.1 0 z.2) (fun r1 hr1 => ?_)
      have mr1 : Same (fun k => k = 82) z.2 r1 := hr1.mono (fun k hk => by first | omega | exact hk.elim | (dsimp only at hk ⊢; omega))
      exact wp_some ⟨mr1, (muU_le c1)⟩
    · refine wp_bind (T_Well_isBarred z.1 z.2) (fun r2 hr2 => ?_)
      refine wp_if (fun c3 => ?_) (fun c3 => ?_)
      · unfold F_Crowd_seeWhoIsThere_j40
        refine wp_bind (T_Row_put 82 8 z.1 0 z.2) (fun r1 hr1 => ?_)
        have mr1 : Same (fun k => k = 82) z.2 r1 := hr1.mono (fun k hk => by first | omega | exact hk.elim | (dsimp only at hk ⊢; omega))
        exact wp_some ⟨mr1, (muU_le c1)⟩
      · unfold F_Crowd_seeWhoIsThere_j40
        refine wp_bind (T_Row_put 82 8 z.1 1 z.2) (fun r1 hr1 => ?_)
        have mr1 : Same (fun k => k = 82) z.2 r1 := hr1.mono (fun k hk => by first | omega | exact hk.elim | (dsimp only at hk ⊢; omega))
        exact wp_some ⟨mr1, (muU_le c1)⟩
theorem T_Crowd_seeWhoIsThere (M : Mem) : wpO (F_Crowd_seeWhoIsThere M) (fun r => Same (fun k => k = 82) M r) := by
  unfold F_Crowd_seeWhoIsThere
  unfold F_Crowd_seeWhoIsThere_l2
  refine wp_bind (Ψ := fun r => Same (fun k => k = 82) M r) (wp_while (P := fun z => Same (fun k => k = 82) M z.2) (μ := fun z => muU z.1) (fun z hz => wp_mono (T_Crowd_seeWhoIsThere_b2  z) (fun x hx => ?_)) FUEL (0, M) Same.rfl' (mu_fuel _)) ?_
  · rcases x with x | x
    · exact ⟨hz.trans (hx.1.mono (fun k hk => by first | omega | exact hk.elim | (dsimp only at hk ⊢; omega))), hx.2⟩
    · exact hz.trans (hx.mono (fun k hk => by first | omega | exact hk.elim | (dsimp only at hk ⊢; omega)))
  intro r hr
  exact wp_some hr
theorem T_Crowd_isThere (x1 : Int32) (M : Mem) : wpO (F_Crowd_isThere x1 M) (fun r => True) := by
  unfold F_Crowd_isThere
  refine wp_bind (T_Row_at 82 8 x1 M) (fun r1 hr1 => ?_)
  refine wp_if (fun c1 => ?_) (fun c1 => ?_)
  · exact wp_some trivial
  · exact wp_some trivial
theorem T_Walk_start (x1 : Int32) (x2 : Int32) (M : Mem) : wpO (F_Walk_start x1 x2 M) (fun r => Same (fun k => k = 79) M r) := by
  unfold F_Walk_start
  exact wp_some ((((((((Same.rfl').sI (by first | omega | (dsimp only; omega)))).sI (by first | omega | (dsimp only; omega)))).sI (by first | omega | (dsimp only; omega)))).sI (by first | omega | (dsimp only; omega)))
theorem T_Walk_goOn (x1 : Int32) (x2 : Int32) (M : Mem) : wpO (F_Walk_goOn x1 x2 M) (fun r => Same (fun k => k = 79) M r) := by
  unfold F_Walk_goOn
  refine wp_bind (T_Well_nextOf (M.1 79 1) (M.1 79 3) x1 M) (fun r1 hr1 => ?_)
  refine wp_bind (T_Well_nextOf ((mSI M 79 3 r1).1 79 2) ((mSI M 79 3 r1).1 79 4) x2 (mSI M 79 3 r1)) (fun r2 hr2 => ?_)
  exact wp_some ((((Same.rfl').sI (by first | omega | (dsimp only; omega)))).sI (by first | omega | (dsimp only; omega)))
theorem T_Walk_gotInRounds_b11 (z : Int32 × Int32 × Mem) : wpO (F_Walk_gotInRounds_b11 z) (fun r => (match r with | .inl s => Same (fun k => k = 79) z.2.2 s.2.2 ∧ muU s.2.1 < muU z.2.1 | .inr r => Same (fun k => k = 79) z.2.2 r.2)) := by
  unfold F_Walk_gotInRounds_b11
  refine wp_if (fun c1 => ?_) (fun c1 => ?_)
  · exact wp_some Same.rfl'
  · refine wp_bind (T_Well_actOf (z.2.2.1 79 1) (z.2.2.1 79 3) z.2.2) (fun r2 hr2 => ?_)
    refine wp_bind (T_Well_actOf (z.2.2.1 79 2) (z.2.2.1 79 4) z.2.2) (fun r3 hr3 => ?_)
    refine wp_bind (T_Well_bringsTo 0 r2 r3 z.2.2) (fun r4 hr4 => ?_)
    refine wp_bind (T_Walk_goOn r3 r2 z.2.2) (fun r5 hr5 => ?_)
    have mr5 : Same (fun k => k = 79) z.2.2 r5 := hr5.mono (fun k hk => by first | omega | exact hk.elim | (dsimp only at hk ⊢; omega))
    exact wp_some ⟨mr5, (muU_le c1)⟩
theorem T_Walk_gotInRounds (x1 : Int32) (x2 : Int32) (M : Mem) : wpO (F_Walk_gotInRounds x1 x2 M) (fun r => Same (fun k => k = 79) M r.2) := by
  unfold F_Walk_gotInRounds
  refine wp_bind (T_Walk_start x1 x2 M) (fun r1 hr1 => ?_)
  have mr1 : Same (fun k => k = 79) M r1 := hr1.mono (fun k hk => by first | omega | exact hk.elim | (dsimp only at hk ⊢; omega))
  unfold F_Walk_gotInRounds_l11
  refine wp_bind (Ψ := fun r => Same (fun k => k = 79) M r.2) (wp_while (P := fun z => Same (fun k => k = 79) M z.2.2) (μ := fun z => muU z.2.1) (fun z hz => wp_mono (T_Walk_gotInRounds_b11  z) (fun x hx => ?_)) FUEL (0, 0, r1) mr1 (mu_fuel _)) ?_
  · rcases x with x | x
    · exact ⟨hz.trans (hx.1.mono (fun k hk => by first | omega | exact hk.elim | (dsimp only at hk ⊢; omega))), hx.2⟩
    · exact hz.trans (hx.mono (fun k hk => by first | omega | exact hk.elim | (dsimp only at hk ⊢; omega)))
  intro r hr
  exact wp_some hr
theorem T_Crowd_meetAll_b10 (x1 : Int32) (z : Int32 × Mem) : wpO (F_Crowd_meetAll_b10 x1 z) (fun r => (match r with | .inl s => Same (fun k => k = 79 ∨ k = 84) z.2 s.2 ∧ muU s.1 < muU z.1 | .inr r => Same (fun k => k = 79 ∨ k = 84) z.2 r)) := by
  unfold F_Crowd_meetAll_b10
  refine wp_if (fun c1 => ?_) (fun c1 => ?_)
  · exact wp_some Same.rfl'
  · refine wp_bind (T_Crowd_isThere x1 z.2) (fun r1 hr1 => ?_)
    refine wp_if (fun c2 => ?_) (fun c2 => ?_)
    · refine wp_bind (T_Crowd_isThere z.1 z.2) (fun r4 hr4 => ?_)
      refine wp_if (fun c3 => ?_) (fun c3 => ?_)
      · unfold F_Crowd_meetAll_j37
        refine wp_if (fun c4 => ?_) (fun c4 => ?_)
        · refine wp_bind (T_Walk_gotInRounds x1 z.1 z.2) (fun r3 hr3 => ?_)
          have mr3 : Same (fun k => k = 79 ∨ k = 84) z.2 r3.2 := hr3.mono (fun k hk => by first | omega | exact hk.elim | (dsimp only at hk ⊢; omega))
          unfold F_Crowd_meetAll_j66
          refine wp_bind (T_Row_put 84 64 ((8 * x1) + z.1) r3.1.toInt64 r3.2) (fun r2 hr2 => ?_)
          have mr2 := (mr3).trans (hr2.mono (fun k hk => by first | omega | exact hk.elim | (dsimp only at hk ⊢; omega)))
          exact wp_some ⟨mr2, (muU_le c1)⟩
        · unfold F_Crowd_meetAll_j66
          refine wp_bind (T_Row_put 84 64 ((8 * x1) + z.1) 0 z.2) (fun r2 hr2 => ?_)
          have mr2 : Same (fun k => k = 79 ∨ k = 84) z.2 r2 := hr2.mono (fun k hk => by first | omega | exact hk.elim | (dsimp only at hk ⊢; omega))
          exact wp_some ⟨mr2, (muU_le c1)⟩
      · unfold F_Crowd_meetAll_j37
        refine wp_if (fun c5 => ?_) (fun c5 => ?_)
        · refine wp_bind (T_Walk_gotInRounds x1 z.1 z.2) (fun r3 hr3 => ?_)
          have mr3 : Same (fun k => k = 79 ∨ k = 84) z.2 r3.2 := hr3.mono (fun k hk => by first | omega | exact hk.elim | (dsimp only at hk ⊢; omega))
          unfold F_Crowd_meetAll_j66
          refine wp_bind (T_Row_put 84 64 ((8 * x1) + z.1) r3.1.toInt64 r3.2) (fun r2 hr2 => ?_)
          have mr2 := (mr3).trans (hr2.mono (fun k hk => by first | omega | exact hk.elim | (dsimp only at hk ⊢; omega)))
          exact wp_some ⟨mr2, (muU_le c1)⟩
        · unfold F_Crowd_meetAll_j66
          refine wp_bind (T_Row_put 84 64 ((8 * x1) + z.1) 0 z.2) (fun r2 hr2 => ?_)
          have mr2 : Same (fun k => k = 79 ∨ k = 84) z.2 r2 := hr2.mono (fun k hk => by first | omega | exact hk.elim | (dsimp only at hk ⊢; omega))
          exact wp_some ⟨mr2, (muU_le c1)⟩
    · unfold F_Crowd_meetAll_j37
      refine wp_if (fun c6 => ?_) (fun c6 => ?_)
      · refine wp_bind (T_Walk_gotInRounds x1 z.1 z.2) (fun r3 hr3 => ?_)
        have mr3 : Same (fun k => k = 79 ∨ k = 84) z.2 r3.2 := hr3.mono (fun k hk => by first | omega | exact hk.elim | (dsimp only at hk ⊢; omega))
        unfold F_Crowd_meetAll_j66
        refine wp_bind (T_Row_put 84 64 ((8 * x1) + z.1) r3.1.toInt64 r3.2) (fun r2 hr2 => ?_)
        have mr2 := (mr3).trans (hr2.mono (fun k hk => by first | omega | exact hk.elim | (dsimp only at hk ⊢; omega)))
        exact wp_some ⟨mr2, (muU_le c1)⟩
      · unfold F_Crowd_meetAll_j66
        refine wp_bind (T_Row_put 84 64 ((8 * x1) + z.1) 0 z.2) (fun r2 hr2 => ?_)
        have mr2 : Same (fun k => k = 79 ∨ k = 84) z.2 r2 := hr2.mono (fun k hk => by first | omega | exact hk.elim | (dsimp only at hk ⊢; omega))
        exact wp_some ⟨mr2, (muU_le c1)⟩
theorem T_Crowd_meetAll_b2 (z : Int32 × Mem) : wpO (F_Crowd_meetAll_b2 z) (fun r => (match r with | .inl s => Same (fun k => k = 79 ∨ k = 84) z.2 s.2 ∧ muU s.1 < muU z.1 | .inr r => Same (fun k => k = 79 ∨ k = 84) z.2 r)) := by
  unfold F_Crowd_meetAll_b2
  refine wp_if (fun c1 => ?_) (fun c1 => ?_)
  · exact wp_some Same.rfl'
  · unfold F_Crowd_meetAll_l10
    refine wp_bind (Ψ := fun r => Same (fun k => k = 79 ∨ k = 84) z.2 r) (wp_while (P := fun z => Same (fun k => k = 79 ∨ k = 84) z.2 z.2) (μ := fun z => muU z.1) (fun z hz => wp_mono (T_Crowd_meetAll_b10 z.1 z) (fun x hx => ?_)) FUEL (0, z.2) Same.rfl' (mu_fuel _)) ?_
    · rcases x with x | x
      · exact ⟨hz.trans (hx.1.mono (fun k hk => by first | omega | exact hk.elim | (dsimp only at hk ⊢; omega))), hx.2⟩
      · exact hz.trans (hx.mono (fun k hk => by first | omega | exact hk.elim | (dsimp only at hk ⊢; omega)))
    intro r hr
    exact wp_some ⟨hr, (muU_le c1)⟩
theorem T_Crowd_meetAll (M : Mem) : wpO (F_Crowd_meetAll M) (fun r => Same (fun k => k = 79 ∨ k = 84) M r) := by
  unfold F_Crowd_meetAll
  unfold F_Crowd_meetAll_l2
  refine wp_bind (Ψ := fun r => Same (fun k => k = 79 ∨ k = 84) M r) (wp_while (P := fun z => Same (fun k => k = 79 ∨ k = 84) M z.2) (μ := fun z => muU z.1) (fun z hz => wp_mono (T_Crowd_meetAll_b2  z) (fun x hx => ?_)) FUEL (0, M) Same.rfl' (mu_fuel _)) ?_
  · rcases x with x | x
    · exact ⟨hz.trans (hx.1.mono (fun k hk => by first | omega | exact hk.elim | (dsimp only at hk ⊢; omega))), hx.2⟩
    · exact hz.trans (hx.mono (fun k hk => by first | omega | exact hk.elim | (dsimp only at hk ⊢; omega)))
  intro r hr
  exact wp_some hr
theorem T_Crowd_keepsOut (x1 : Int32) (x2 : Int32) (M : Mem) : wpO (F_Crowd_keepsOut x1 x2 M) (fun r => Same (fun k => k = 79) M r.2) := by
  unfold F_Crowd_keepsOut
  refine wp_bind (T_Walk_gotInRounds x1 x1 M) (fun r1 hr1 => ?_)
  have mr1 : Same (fun k => k = 79) M r1.2 := hr1.mono (fun k hk => by first | omega | exact hk.elim | (dsimp only at hk ⊢; omega))
  refine wp_bind (T_Walk_gotInRounds x2 x1 r1.2) (fun r2 hr2 => ?_)
  have mr2 := (mr1).trans (hr2.mono (fun k hk => by first | omega | exact hk.elim | (dsimp only at hk ⊢; omega)))
  refine wp_if (fun c1 => ?_) (fun c1 => ?_)
  · exact wp_some mr2
  · refine wp_if (fun c2 => ?_) (fun c2 => ?_)
    · refine wp_bind (T_Walk_gotInRounds x1 x2 r2.2) (fun r3 hr3 => ?_)
      have mr3 := (mr2).trans (hr3.mono (fun k hk => by first | omega | exact hk.elim | (dsimp only at hk ⊢; omega)))
      refine wp_bind (T_Walk_gotInRounds x2 x2 r3.2) (fun r4 hr4 => ?_)
      have mr4 := (mr3).trans (hr4.mono (fun k hk => by first | omega | exact hk.elim | (dsimp only at hk ⊢; omega)))
      refine wp_if (fun c3 => ?_) (fun c3 => ?_)
      · exact wp_some mr4
      · exact wp_some mr4
    · exact wp_some mr2
theorem T_Crowd_keepsOthersOut_b6 (x1 : Int32) (z : Int32 × Mem) : wpO (F_Crowd_keepsOthersOut_b6 x1 z) (fun r => (match r with | .inl s => Same (fun k => k = 79) z.2 s.2 ∧ muU s.1 < muU z.1 | .inr r => (match r with | .inl s => Same (fun k => k = 79) z.2 s | .inr r => Same (fun k => k = 79) z.2 r))) := by
  unfold F_Crowd_keepsOthersOut_b6
  refine wp_if (fun c1 => ?_) (fun c1 => ?_)
  · exact wp_some Same.rfl'
  · refine wp_if (fun c2 => ?_) (fun c2 => ?_)
    · exact wp_some ⟨Same.rfl', (muU_le c1)⟩
    · refine wp_bind (T_Crowd_isThere z.1 z.2) (fun r2 hr2 => ?_)
      refine wp_if (fun c3 => ?_) (fun c3 => ?_)
      · refine wp_bind (T_Crowd_keepsOut x1 z.1 z.2) (fun r3 hr3 => ?_)
        have mr3 : Same (fun k => k = 79) z.2 r3.2 := hr3.mono (fun k hk => by first | omega | exact hk.elim | (dsimp only at hk ⊢; omega))
        refine wp_if (fun c4 => ?_) (fun c4 => ?_)
        · exact wp_some ⟨mr3, (muU_le c1)⟩
        · exact wp_some mr3
      · exact wp_some ⟨Same.rfl', (muU_le c1)⟩
theorem T_Crowd_keepsOthersOut (x1 : Int32) (M : Mem) : wpO (F_Crowd_keepsOthersOut x1 M) (fun r => Same (fun k => k = 79 ∨ k = 82) M r.2) := by
  unfold F_Crowd_keepsOthersOut
  refine wp_bind (T_Crowd_seeWhoIsThere M) (fun r1 hr1 => ?_)
  have mr1 : Same (fun k => k = 79 ∨ k = 82) M r1 := hr1.mono (fun k hk => by first | omega | exact hk.elim | (dsimp only at hk ⊢; omega))
  unfold F_Crowd_keepsOthersOut_l6
  refine wp_bind (Ψ := fun q => (match q with | .inl s => Same (fun k => k = 79 ∨ k = 82) M s | .inr r => Same (fun k => k = 79 ∨ k = 82) M r)) (wp_while (P := fun z => Same (fun k => k = 79 ∨ k = 82) M z.2) (μ := fun z => muU z.1) (fun z hz => wp_mono (T_Crowd_keepsOthersOut_b6 x1 z) (fun x hx => ?_)) FUEL (0, r1) mr1 (mu_fuel _)) ?_
  · rcases x with x | x
    · exact ⟨hz.trans (hx.1.mono (fun k hk => by first | omega | exact hk.elim | (dsimp only at hk ⊢; omega))), hx.2⟩
    · rcases x with x | x
      · exact hz.trans (hx.mono (fun k hk => by first | omega | exact hk.elim | (dsimp only at hk ⊢; omega)))
      · exact hz.trans (hx.mono (fun k hk => by first | omega | exact hk.elim | (dsimp only at hk ⊢; omega)))
  intro q hq
  rcases q with r1 | r1
  · exact wp_some hq
  · exact wp_some hq
theorem T_Crowd_fitOf_b5 (x1 : Int32) (M : Mem) (z : Int64 × Int32) : wpO (F_Crowd_fitOf_b5 x1 M z) (fun r => (match r with | .inl s => muU s.2 < muU z.2 | .inr r => True)) := by
  unfold F_Crowd_fitOf_b5
  refine wp_if (fun c1 => ?_) (fun c1 => ?_)
  · exact wp_some trivial
  · refine wp_bind (T_Row_at 84 64 ((8 * x1) + z.2) M) (fun r1 hr1 => ?_)
    refine wp_bind (T_Row_at 9 8 z.2 M) (fun r2 hr2 => ?_)
    exact wp_some (muU_le c1)
theorem T_Crowd_fitOf (x1 : Int32) (M : Mem) : wpO (F_Crowd_fitOf x1 M) (fun r => True) := by
  unfold F_Crowd_fitOf
  unfold F_Crowd_fitOf_l5
  refine wp_bind (Ψ := fun r => True) (wp_while (P := fun _ => True) (μ := fun z => muU z.2) (fun z hz => wp_mono (T_Crowd_fitOf_b5 x1 M z) (fun x hx => ?_)) FUEL (0, 0) trivial (mu_fuel _)) ?_
  · rcases x with x | x
    · exact ⟨trivial, hx⟩
    · trivial
  intro r hr
  exact wp_some trivial
theorem T_Crowd_findPart (x1 : Int32) (x2 : Int64) (x4 : Int64) (M : Mem) : wpO (F_Crowd_findPart x1 x2 x4 M) (fun r => Same (fun k => (88 ≤ k ∧ k ≤ 90)) M r) := by
  unfold F_Crowd_findPart
  refine wp_if (fun c1 => ?_) (fun c1 => ?_)
  · refine wp_bind (T_Row_at 86 8 x1 M) (fun r1 hr1 => ?_)
    refine wp_t (by decide) ?_
    refine wp_t (by intro q; rw [q] at c1; exact absurd c1 (by decide)) ?_
    refine wp_t (by decide) ?_
    refine wp_t (by intro q; rw [q] at c1; exact absurd c1 (by decide)) ?_
    refine wp_t (by intro q; rw [q] at c1; exact absurd c1 (by decide)) ?_
    refine wp_bind (T_Row_put 90 8 x1 (((((x2 / 1024) * r1) / x4) * 1024) + ((((lrm ((x2 / 1024) * r1) x4) * 1024) + ((lrm x2 1024) * r1)) / x4)) M) (fun r2 hr2 => ?_)
    have mr2 : Same (fun k => (88 ≤ k ∧ k ≤ 90)) M r2 := hr2.mono (fun k hk => by first | omega | exact hk.elim | (dsimp only at hk ⊢; omega))
    refine wp_t (by intro q; rw [q] at c1; exact absurd c1 (by decide)) ?_
    refine wp_bind (T_Row_put 88 8 x1 (lrm (((lrm ((x2 / 1024) * r1) x4) * 1024) + ((lrm x2 1024) * r1)) x4) r2) (fun r3 hr3 => ?_)
    have mr3 := (mr2).trans (hr3.mono (fun k hk => by first | omega | exact hk.elim | (dsimp only at hk ⊢; omega)))
    exact wp_some mr3
  · exact wp_some Same.rfl'
theorem T_Crowd_giveToGreatestRest_b4 (M : Mem) (z : Int32 × Int32) : wpO (F_Crowd_giveToGreatestRest_b4 M z) (fun r => (match r with | .inl s => muU s.2 < muU z.2 | .inr r => True)) := by
  unfold F_Crowd_giveToGreatestRest_b4
  refine wp_if (fun c1 => ?_) (fun c1 => ?_)
  · exact wp_some trivial
  · refine wp_bind (T_Row_at 88 8 z.2 M) (fun r3 hr3 => ?_)
    refine wp_bind (T_Row_at 88 8 z.1 M) (fun r4 hr4 => ?_)
    refine wp_if (fun c2 => ?_) (fun c2 => ?_)
    · exact wp_some (muU_le c1)
    · exact wp_some (muU_le c1)
theorem T_Crowd_giveToGreatestRest (M : Mem) : wpO (F_Crowd_giveToGreatestRest M) (fun r => Same (fun k => (88 ≤ k ∧ k ≤ 90)) M r) := by
  unfold F_Crowd_giveToGreatestRest
  unfold F_Crowd_giveToGreatestRest_l4
  refine wp_bind (Ψ := fun r => True) (wp_while (P := fun _ => True) (μ := fun z => muU z.2) (fun z hz => wp_mono (T_Crowd_giveToGreatestRest_b4 M z) (fun x hx => ?_)) FUEL (0, 1) trivial (mu_fuel _)) ?_
  · rcases x with x | x
    · exact ⟨trivial, hx⟩
    · trivial
  intro r hr
  unfold F_Crowd_giveToGreatestRest_j38
  refine wp_bind (T_Row_add 90 8 r 1 M) (fun r1 hr1 => ?_)
  have mr1 : Same (fun k => (88 ≤ k ∧ k ≤ 90)) M r1 := hr1.mono (fun k hk => by first | omega | exact hk.elim | (dsimp only at hk ⊢; omega))
  refine wp_bind (T_Row_put 88 8 r ((-1)) r1) (fun r2 hr2 => ?_)
  have mr2 := (mr1).trans (hr2.mono (fun k hk => by first | omega | exact hk.elim | (dsimp only at hk ⊢; omega)))
  exact wp_some mr2
theorem T_Crowd_takeLater_b4 (z : Bool × Int32 × Mem) : wpO (F_Crowd_takeLater_b4 z) (fun r => (match r with | .inl s => Same (fun k => k = 9) z.2.2 s.2.2 ∧ muU s.2.1 < muU z.2.1 | .inr r => Same (fun k => k = 9) z.2.2 r.2)) := by
  unfold F_Crowd_takeLater_b4
  refine wp_if (fun c1 => ?_) (fun c1 => ?_)
  · exact wp_some Same.rfl'
  · refine wp_bind (T_Crowd_isThere z.2.1 z.2.2) (fun r1 hr1 => ?_)
    refine wp_if (fun c2 => ?_) (fun c2 => ?_)
    · refine wp_if (fun c3 => ?_) (fun c3 => ?_)
      · unfold F_Crowd_takeLater_j50
        refine wp_bind (T_Row_at 90 8 z.2.1 z.2.2) (fun r2 hr2 => ?_)
        refine wp_bind (T_Row_put 9 8 z.2.1 r2 z.2.2) (fun r3 hr3 => ?_)
        have mr3 : Same (fun k => k = 9) z.2.2 r3 := hr3.mono (fun k hk => by first | omega | exact hk.elim | (dsimp only at hk ⊢; omega))
        exact wp_some ⟨mr3, (muU_le c1)⟩
      · refine wp_bind (T_Row_at 90 8 z.2.1 z.2.2) (fun r4 hr4 => ?_)
        refine wp_bind (T_Row_at 9 8 z.2.1 z.2.2) (fun r5 hr5 => ?_)
        refine wp_if (fun c4 => ?_) (fun c4 => ?_)
        · unfold F_Crowd_takeLater_j50
          refine wp_bind (T_Row_at 90 8 z.2.1 z.2.2) (fun r2 hr2 => ?_)
          refine wp_bind (T_Row_put 9 8 z.2.1 r2 z.2.2) (fun r3 hr3 => ?_)
          have mr3 : Same (fun k => k = 9) z.2.2 r3 := hr3.mono (fun k hk => by first | omega | exact hk.elim | (dsimp only at hk ⊢; omega))
          exact wp_some ⟨mr3, (muU_le c1)⟩
        · unfold F_Crowd_takeLater_j50
          refine wp_bind (T_Row_at 90 8 z.2.1 z.2.2) (fun r2 hr2 => ?_)
          refine wp_bind (T_Row_put 9 8 z.2.1 r2 z.2.2) (fun r3 hr3 => ?_)
          have mr3 : Same (fun k => k = 9) z.2.2 r3 := hr3.mono (fun k hk => by first | omega | exact hk.elim | (dsimp only at hk ⊢; omega))
          exact wp_some ⟨mr3, (muU_le c1)⟩
    · exact wp_some ⟨Same.rfl', (muU_le c1)⟩
theorem T_Crowd_takeLater (M : Mem) : wpO (F_Crowd_takeLater M) (fun r => Same (fun k => k = 9) M r.2) := by
  unfold F_Crowd_takeLater
  unfold F_Crowd_takeLater_l4
  refine wp_bind (Ψ := fun r => Same (fun k => k = 9) M r.2) (wp_while (P := fun z => Same (fun k => k = 9) M z.2.2) (μ := fun z => muU z.2.1) (fun z hz => wp_mono (T_Crowd_takeLater_b4  z) (fun x hx => ?_)) FUEL (false, 0, M) Same.rfl' (mu_fuel _)) ?_
  · rcases x with x | x
    · exact ⟨hz.trans (hx.1.mono (fun k hk => by first | omega | exact hk.elim | (dsimp only at hk ⊢; omega))), hx.2⟩
    · exact hz.trans (hx.mono (fun k hk => by first | omega | exact hk.elim | (dsimp only at hk ⊢; omega)))
  intro r hr
  exact wp_some hr
theorem T_Crowd_growOneStep_b150 (x5 : Int64) (z : Int32 × Mem) : wpO (F_Crowd_growOneStep_b150 x5 z) (fun r => (match r with | .inl s => Same (fun k => (88 ≤ k ∧ k ≤ 90)) z.2 s.2 ∧ muU s.1 < muU z.1 | .inr r => Same (fun k => (88 ≤ k ∧ k ≤ 90)) z.2 r)) := by
  unfold F_Crowd_growOneStep_b150
  refine wp_if (fun c1 => ?_) (fun c1 => ?_)
  · exact wp_some Same.rfl'
  · refine wp_if (fun c2 => ?_) (fun c2 => ?_)
    · exact wp_some Same.rfl'
    · refine wp_bind (T_Crowd_giveToGreatestRest z.2) (fun r2 hr2 => ?_)
      have mr2 : Same (fun k => (88 ≤ k ∧ k ≤ 90)) z.2 r2 := hr2.mono (fun k hk => by first | omega | exact hk.elim | (dsimp only at hk ⊢; omega))
      exact wp_some ⟨mr2, (muU_le c1)⟩
theorem T_Crowd_growOneStep_b112 (x1 : Int64) (x3 : Int64) (z : Int64 × Int32 × Mem) : wpO (F_Crowd_growOneStep_b112 x1 x3 z) (fun r => (match r with | .inl s => Same (fun k => (88 ≤ k ∧ k ≤ 90)) z.2.2 s.2.2 ∧ muU s.2.1 < muU z.2.1 | .inr r => Same (fun k => (88 ≤ k ∧ k ≤ 90)) z.2.2 r.2)) := by
  unfold F_Crowd_growOneStep_b112
  refine wp_if (fun c1 => ?_) (fun c1 => ?_)
  · exact wp_some Same.rfl'
  · refine wp_bind (T_Crowd_findPart z.2.1 x1 x3 z.2.2) (fun r3 hr3 => ?_)
    have mr3 : Same (fun k => (88 ≤ k ∧ k ≤ 90)) z.2.2 r3 := hr3.mono (fun k hk => by first | omega | exact hk.elim | (dsimp only at hk ⊢; omega))
    refine wp_bind (T_Row_at 90 8 z.2.1 r3) (fun r4 hr4 => ?_)
    exact wp_some ⟨mr3, (muU_le c1)⟩
theorem T_Crowd_growOneStep_b7 (z : Int64 × Int64 × Int32 × Mem) : wpO (F_Crowd_growOneStep_b7 z) (fun r => (match r with | .inl s => Same (fun k => k = 86) z.2.2.2 s.2.2.2 ∧ muU s.2.2.1 < muU z.2.2.1 | .inr r => Same (fun k => k = 86) z.2.2.2 r.2.2)) := by
  unfold F_Crowd_growOneStep_b7
  refine wp_if (fun c1 => ?_) (fun c1 => ?_)
  · exact wp_some Same.rfl'
  · refine wp_bind (T_Crowd_isThere z.2.2.1 z.2.2.2) (fun r5 hr5 => ?_)
    refine wp_if (fun c2 => ?_) (fun c2 => ?_)
    · refine wp_bind (T_Row_at 9 8 z.2.2.1 z.2.2.2) (fun r9 hr9 => ?_)
      refine wp_bind (T_Crowd_fitOf z.2.2.1 z.2.2.2) (fun r10 hr10 => ?_)
      unfold F_Crowd_growOneStep_j46
      refine wp_bind (T_Row_put 86 8 z.2.2.1 (r9 * r10) z.2.2.2) (fun r6 hr6 => ?_)
      have mr6 : Same (fun k => k = 86) z.2.2.2 r6 := hr6.mono (fun k hk => by first | omega | exact hk.elim | (dsimp only at hk ⊢; omega))
      refine wp_bind (T_Crowd_isThere z.2.2.1 r6) (fun r7 hr7 => ?_)
      refine wp_if (fun c3 => ?_) (fun c3 => ?_)
      · refine wp_bind (T_Row_at 9 8 z.2.2.1 r6) (fun r8 hr8 => ?_)
        exact wp_some ⟨mr6, (muU_le c1)⟩
      · exact wp_some ⟨mr6, (muU_le c1)⟩
    · unfold F_Crowd_growOneStep_j46
      refine wp_bind (T_Row_put 86 8 z.2.2.1 0 z.2.2.2) (fun r6 hr6 => ?_)
      have mr6 : Same (fun k => k = 86) z.2.2.2 r6 := hr6.mono (fun k hk => by first | omega | exact hk.elim | (dsimp only at hk ⊢; omega))
      refine wp_bind (T_Crowd_isThere z.2.2.1 r6) (fun r7 hr7 => ?_)
      refine wp_if (fun c4 => ?_) (fun c4 => ?_)
      · refine wp_bind (T_Row_at 9 8 z.2.2.1 r6) (fun r8 hr8 => ?_)
        exact wp_some ⟨mr6, (muU_le c1)⟩
      · exact wp_some ⟨mr6, (muU_le c1)⟩
theorem T_Crowd_growOneStep (M : Mem) : wpO (F_Crowd_growOneStep M) (fun r => Same (fun k => k = 9 ∨ (86 ≤ k ∧ k ≤ 90)) M r.2) := by
  unfold F_Crowd_growOneStep
  unfold F_Crowd_growOneStep_l7
  refine wp_bind (Ψ := fun r => Same (fun k => k = 9 ∨ (86 ≤ k ∧ k ≤ 90)) M r.2.2) (wp_while (P := fun z => Same (fun k => k = 9 ∨ (86 ≤ k ∧ k ≤ 90)) M z.2.2.2) (μ := fun z => muU z.2.2.1) (fun z hz => wp_mono (T_Crowd_growOneStep_b7  z) (fun x hx => ?_)) FUEL (0, 0, 0, M) Same.rfl' (mu_fuel _)) ?_
  · rcases x with x | x
    · exact ⟨hz.trans (hx.1.mono (fun k hk => by first | omega | exact hk.elim | (dsimp only at hk ⊢; omega))), hx.2⟩
    · exact hz.trans (hx.mono (fun k hk => by first | omega | exact hk.elim | (dsimp only at hk ⊢; omega)))
  intro r hr
  unfold F_Crowd_growOneStep_j98
  refine wp_if (fun c1 => ?_) (fun c1 => ?_)
  · unfold F_Crowd_growOneStep_l112
    refine wp_bind (Ψ := fun r => Same (fun k => k = 9 ∨ (86 ≤ k ∧ k ≤ 90)) M r.2) (wp_while (P := fun z => Same (fun k => k = 9 ∨ (86 ≤ k ∧ k ≤ 90)) M z.2.2) (μ := fun z => muU z.2.1) (fun z hz => wp_mono (T_Crowd_growOneStep_b112 r.1 r.2.1 z) (fun x hx => ?_)) FUEL (r.1, 0, r.2.2) hr (mu_fuel _)) ?_
    · rcases x with x | x
      · exact ⟨hz.trans (hx.1.mono (fun k hk => by first | omega | exact hk.elim | (dsimp only at hk ⊢; omega))), hx.2⟩
      · exact hz.trans (hx.mono (fun k hk => by first | omega | exact hk.elim | (dsimp only at hk ⊢; omega)))
    intro r hr
    unfold F_Crowd_growOneStep_l150
    refine wp_bind (Ψ := fun r => Same (fun k => k = 9 ∨ (86 ≤ k ∧ k ≤ 90)) M r) (wp_while (P := fun z => Same (fun k => k = 9 ∨ (86 ≤ k ∧ k ≤ 90)) M z.2) (μ := fun z => muU z.1) (fun z hz => wp_mono (T_Crowd_growOneStep_b150 r.1 z) (fun x hx => ?_)) FUEL (0, r.2) hr (mu_fuel _)) ?_
    · rcases x with x | x
      · exact ⟨hz.trans (hx.1.mono (fun k hk => by first | omega | exact hk.elim | (dsimp only at hk ⊢; omega))), hx.2⟩
      · exact hz.trans (hx.mono (fun k hk => by first | omega | exact hk.elim | (dsimp only at hk ⊢; omega)))
    intro r hr
    unfold F_Crowd_growOneStep_j176
    refine wp_bind (T_Crowd_takeLater r) (fun r1 hr1 => ?_)
    have mr1 := (hr).trans (hr1.mono (fun k hk => by first | omega | exact hk.elim | (dsimp only at hk ⊢; omega)))
    exact wp_some mr1
  · exact wp_some hr
theorem T_Crowd_growSteps_b12 (x1 : Int32) (z : Int32 × Int32 × Mem) : wpO (F_Crowd_growSteps_b12 x1 z) (fun r => (match r with | .inl s => Same (fun k => k = 9 ∨ (86 ≤ k ∧ k ≤ 90)) z.2.2 s.2.2 ∧ muU s.2.1 < muU z.2.1 | .inr r => Same (fun k => k = 9 ∨ (86 ≤ k ∧ k ≤ 90)) z.2.2 r.2)) := by
  unfold F_Crowd_growSteps_b12
  refine wp_if (fun c1 => ?_) (fun c1 => ?_)
  · exact wp_some Same.rfl'
  · refine wp_bind (T_Crowd_growOneStep z.2.2) (fun r3 hr3 => ?_)
    have mr3 : Same (fun k => k = 9 ∨ (86 ≤ k ∧ k ≤ 90)) z.2.2 r3.2 := hr3.mono (fun k hk => by first | omega | exact hk.elim | (dsimp only at hk ⊢; omega))
    refine wp_if (fun c2 => ?_) (fun c2 => ?_)
    · exact wp_some ⟨mr3, (muU_le c1)⟩
    · exact wp_some ⟨mr3, (muU_le c1)⟩
theorem T_Crowd_growSteps (x1 : Int32) (M : Mem) : wpO (F_Crowd_growSteps x1 M) (fun r => Same (fun k => k = 9 ∨ k = 79 ∨ (82 ≤ k ∧ k ≤ 90)) M r.2) := by
  unfold F_Crowd_growSteps
  refine wp_bind (T_Crowd_seeWhoIsThere M) (fun r1 hr1 => ?_)
  have mr1 : Same (fun k => k = 9 ∨ k = 79 ∨ (82 ≤ k ∧ k ≤ 90)) M r1 := hr1.mono (fun k hk => by first | omega | exact hk.elim | (dsimp only at hk ⊢; omega))
  refine wp_bind (T_Crowd_meetAll r1) (fun r2 hr2 => ?_)
  have mr2 := (mr1).trans (hr2.mono (fun k hk => by first | omega | exact hk.elim | (dsimp only at hk ⊢; omega)))
  unfold F_Crowd_growSteps_l12
  refine wp_bind (Ψ := fun r => Same (fun k => k = 9 ∨ k = 79 ∨ (82 ≤ k ∧ k ≤ 90)) M r.2) (wp_while (P := fun z => Same (fun k => k = 9 ∨ k = 79 ∨ (82 ≤ k ∧ k ≤ 90)) M z.2.2) (μ := fun z => muU z.2.1) (fun z hz => wp_mono (T_Crowd_growSteps_b12 x1 z) (fun x hx => ?_)) FUEL (0, 0, r2) mr2 (mu_fuel _)) ?_
  · rcases x with x | x
    · exact ⟨hz.trans (hx.1.mono (fun k hk => by first | omega | exact hk.elim | (dsimp only at hk ⊢; omega))), hx.2⟩
    · exact hz.trans (hx.mono (fun k hk => by first | omega | exact hk.elim | (dsimp only at hk ⊢; omega)))
  intro r hr
  exact wp_some hr
theorem T_Walk_firstOtherwise_b8 (z : Int32 × Mem) : wpO (F_Walk_firstOtherwise_b8 z) (fun r => (match r with | .inl s => Same (fun k => k = 79) z.2 s.2 ∧ muU s.1 < muU z.1 | .inr r => (match r with | .inl s => Same (fun k => k = 79) z.2 s.2 | .inr r => (match r with | .inl s => Same (fun k => k = 79) z.2 s.2 | .inr r => Same (fun k => k = 79) z.2 r)))) := by
  unfold F_Walk_firstOtherwise_b8
  refine wp_if (fun c1 => ?_) (fun c1 => ?_)
  · exact wp_some Same.rfl'
  · refine wp_bind (T_Row_small 7 400 (2 * z.1) z.2) (fun r2 hr2 => ?_)
    refine wp_bind (T_Row_small 7 400 ((2 * z.1) + 1) z.2) (fun r3 hr3 => ?_)
    refine wp_bind (T_Well_actOf (z.2.1 79 1) (z.2.1 79 3) z.2) (fun r4 hr4 => ?_)
    refine wp_if (fun c2 => ?_) (fun c2 => ?_)
    · refine wp_bind (T_Well_actOf (z.2.1 79 2) (z.2.1 79 4) z.2) (fun r5 hr5 => ?_)
      refine wp_if (fun c3 => ?_) (fun c3 => ?_)
      · refine wp_bind (T_Walk_goOn r3 r2 z.2) (fun r6 hr6 => ?_)
        have mr6 : Same (fun k => k = 79) z.2 r6 := hr6.mono (fun k hk => by first | omega | exact hk.elim | (dsimp only at hk ⊢; omega))
        exact wp_some ⟨mr6, (muU_le c1)⟩
      · exact wp_some Same.rfl'
    · exact wp_some Same.rfl'
theorem T_Walk_firstOtherwise (x1 : Int32) (x2 : Int32) (M : Mem) : wpO (F_Walk_firstOtherwise x1 x2 M) (fun r => Same (fun k => k = 79) M r.2) := by
  unfold F_Walk_firstOtherwise
  refine wp_bind (T_Walk_start x1 x2 M) (fun r1 hr1 => ?_)
  have mr1 : Same (fun k => k = 79) M r1 := hr1.mono (fun k hk => by first | omega | exact hk.elim | (dsimp only at hk ⊢; omega))
  unfold F_Walk_firstOtherwise_l8
  refine wp_bind (Ψ := fun q => (match q with | .inl s => Same (fun k => k = 79) M s.2 | .inr r => (match r with | .inl s => Same (fun k => k = 79) M s.2 | .inr r => Same (fun k => k = 79) M r))) (wp_while (P := fun z => Same (fun k => k = 79) M z.2) (μ := fun z => muU z.1) (fun z hz => wp_mono (T_Walk_firstOtherwise_b8  z) (fun x hx => ?_)) FUEL (0, r1) mr1 (mu_fuel _)) ?_
  · rcases x with x | x
    · exact ⟨hz.trans (hx.1.mono (fun k hk => by first | omega | exact hk.elim | (dsimp only at hk ⊢; omega))), hx.2⟩
    · rcases x with x | x
      · exact hz.trans (hx.mono (fun k hk => by first | omega | exact hk.elim | (dsimp only at hk ⊢; omega)))
      · rcases x with x | x
        · exact hz.trans (hx.mono (fun k hk => by first | omega | exact hk.elim | (dsimp only at hk ⊢; omega)))
        · exact hz.trans (hx.mono (fun k hk => by first | omega | exact hk.elim | (dsimp only at hk ⊢; omega)))
  intro q hq
  rcases q with r1 | r1
  · exact wp_some hq
  · rcases r1 with r2 | r2
    · exact wp_some hq
    · exact wp_some hq
theorem T_Walk_broughtByRow_b4 (x1 : Int32) (M : Mem) (z : Int32 × Int32) : wpO (F_Walk_broughtByRow_b4 x1 M z) (fun r => (match r with | .inl s => muU s.2 < muU z.2 | .inr r => True)) := by
  unfold F_Walk_broughtByRow_b4
  refine wp_if (fun c1 => ?_) (fun c1 => ?_)
  · exact wp_some trivial
  · refine wp_bind (T_Row_small 7 400 (2 * z.2) M) (fun r1 hr1 => ?_)
    refine wp_bind (T_Row_small 7 400 ((2 * z.2) + 1) M) (fun r2 hr2 => ?_)
    refine wp_bind (T_Well_bringsTo x1 r1 r2 M) (fun r3 hr3 => ?_)
    exact wp_some (muU_le c1)
theorem T_Walk_broughtByRow (x1 : Int32) (M : Mem) : wpO (F_Walk_broughtByRow x1 M) (fun r => True) := by
  unfold F_Walk_broughtByRow
  unfold F_Walk_broughtByRow_l4
  refine wp_bind (Ψ := fun r => True) (wp_while (P := fun _ => True) (μ := fun z => muU z.2) (fun z hz => wp_mono (T_Walk_broughtByRow_b4 x1 M z) (fun x hx => ?_)) FUEL (0, 0) trivial (mu_fuel _)) ?_
  · rcases x with x | x
    · exact ⟨trivial, hx⟩
    · trivial
  intro r hr
  exact wp_some trivial
theorem T_Walk_see (x1 : Int32) (M : Mem) : wpO (F_Walk_see x1 M) (fun r => Same (fun k => k = 79) M r.2) := by
  unfold F_Walk_see
  refine wp_if (fun c1 => ?_) (fun c1 => ?_)
  · exact wp_some Same.rfl'
  · refine wp_if (fun c2 => ?_) (fun c2 => ?_)
    · refine wp_t (by intro q; rw [q] at c2; exact absurd c2 (by decide)) ?_
      refine wp_if (fun c3 => ?_) (fun c3 => ?_)
      · exact wp_some ((Same.rfl').sI (by first | omega | (dsimp only; omega)))
      · exact wp_some ((Same.rfl').sI (by first | omega | (dsimp only; omega)))
    · exact wp_some Same.rfl'
theorem T_Walk_draw_b18 (x3 : Int32) (x5 : Int32) (z : Int32 × Int32 × Mem) : wpO (F_Walk_draw_b18 x3 x5 z) (fun r => (match r with | .inl s => Same (fun k => k = 79) z.2.2 s.2.2 ∧ muU s.2.1 < muU z.2.1 | .inr r => Same (fun k => k = 79) z.2.2 r.2)) := by
  unfold F_Walk_draw_b18
  refine wp_if (fun c1 => ?_) (fun c1 => ?_)
  · exact wp_some Same.rfl'
  · refine wp_bind (T_Well_actOf (z.2.2.1 79 1) (z.2.2.1 79 3) z.2.2) (fun r2 hr2 => ?_)
    refine wp_bind (T_Well_actOf (z.2.2.1 79 2) (z.2.2.1 79 4) z.2.2) (fun r3 hr3 => ?_)
    refine wp_if (fun c2 => ?_) (fun c2 => ?_)
    · unfold F_Walk_draw_j83
      refine wp_bind (T_Walk_see r3 z.2.2) (fun r4 hr4 => ?_)
      have mr4 : Same (fun k => k = 79) z.2.2 r4.2 := hr4.mono (fun k hk => by first | omega | exact hk.elim | (dsimp only at hk ⊢; omega))
      refine wp_bind (T_Walk_see r2 r4.2) (fun r5 hr5 => ?_)
      have mr5 := (mr4).trans (hr5.mono (fun k hk => by first | omega | exact hk.elim | (dsimp only at hk ⊢; omega)))
      refine wp_bind (T_Walk_goOn r4.1 r5.1 r5.2) (fun r6 hr6 => ?_)
      have mr6 := (mr5).trans (hr6.mono (fun k hk => by first | omega | exact hk.elim | (dsimp only at hk ⊢; omega)))
      exact wp_some ⟨mr6, (muU_le c1)⟩
    · refine wp_bind (T_Well_bringsTo x5 r2 r3 z.2.2) (fun r7 hr7 => ?_)
      unfold F_Walk_draw_j83
      refine wp_bind (T_Walk_see r3 z.2.2) (fun r4 hr4 => ?_)
      have mr4 : Same (fun k => k = 79) z.2.2 r4.2 := hr4.mono (fun k hk => by first | omega | exact hk.elim | (dsimp only at hk ⊢; omega))
      refine wp_bind (T_Walk_see r2 r4.2) (fun r5 hr5 => ?_)
      have mr5 := (mr4).trans (hr5.mono (fun k hk => by first | omega | exact hk.elim | (dsimp only at hk ⊢; omega)))
      refine wp_bind (T_Walk_goOn r4.1 r5.1 r5.2) (fun r6 hr6 => ?_)
      have mr6 := (mr5).trans (hr6.mono (fun k hk => by first | omega | exact hk.elim | (dsimp only at hk ⊢; omega)))
      exact wp_some ⟨mr6, (muU_le c1)⟩
theorem T_Walk_draw (x1 : Int32) (x2 : Int32) (x3 : Int32) (x4 : Int32) (x5 : Int32) (M : Mem) : wpO (F_Walk_draw x1 x2 x3 x4 x5 M) (fun r => Same (fun k => k = 79) M r.2) := by
  unfold F_Walk_draw
  refine wp_bind (T_Walk_start x1 x2 M) (fun r1 hr1 => ?_)
  have mr1 : Same (fun k => k = 79) M r1 := hr1.mono (fun k hk => by first | omega | exact hk.elim | (dsimp only at hk ⊢; omega))
  unfold F_Walk_draw_l18
  refine wp_bind (Ψ := fun r => Same (fun k => k = 79) M r.2) (wp_while (P := fun z => Same (fun k => k = 79) M z.2.2) (μ := fun z => muU z.2.1) (fun z hz => wp_mono (T_Walk_draw_b18 x3 x5 z) (fun x hx => ?_)) FUEL (0, 0, (mSI r1 79 5 x4)) ((mr1).sI (by first | omega | (dsimp only; omega))) (mu_fuel _)) ?_
  · rcases x with x | x
    · exact ⟨hz.trans (hx.1.mono (fun k hk => by first | omega | exact hk.elim | (dsimp only at hk ⊢; omega))), hx.2⟩
    · exact hz.trans (hx.mono (fun k hk => by first | omega | exact hk.elim | (dsimp only at hk ⊢; omega)))
  intro r hr
  unfold F_Walk_draw_j116
  refine wp_if (fun c1 => ?_) (fun c1 => ?_)
  · refine wp_if (fun c2 => ?_) (fun c2 => ?_)
    · exact wp_some hr
    · exact wp_some hr
  · exact wp_some hr
theorem T_Bridge_tellEdge (o3 : Nat) (x1 : Int32) (x2 : Int32) (M : Mem) : wpO (F_Bridge_tellEdge o3 x1 x2 M) (fun r => Same (fun k => k = o3) M r) := by
  unfold F_Bridge_tellEdge
  refine wp_bind (T_Row_at 11 6 x1 M) (fun r1 hr1 => ?_)
  refine wp_bind (T_Row_at 13 6 x1 M) (fun r2 hr2 => ?_)
  refine wp_bind (T_Row_at 13 6 x1 M) (fun r3 hr3 => ?_)
  refine wp_if (fun c1 => ?_) (fun c1 => ?_)
  · refine wp_if (fun c2 => ?_) (fun c2 => ?_)
    · refine wp_bind (T_Fraction_be o3 (r1 - r2) (((x2 - 1).toInt64) * r3) M) (fun r4 hr4 => ?_)
      have mr4 : Same (fun k => k = o3) M r4 := hr4.mono (fun k hk => by first | omega | exact hk.elim | (dsimp only at hk ⊢; omega))
      exact wp_some mr4
    · refine wp_bind (T_Fraction_be o3 1 1 M) (fun r5 hr5 => ?_)
      have mr5 : Same (fun k => k = o3) M r5 := hr5.mono (fun k hk => by first | omega | exact hk.elim | (dsimp only at hk ⊢; omega))
      exact wp_some mr5
  · refine wp_bind (T_Fraction_be o3 0 1 M) (fun r6 hr6 => ?_)
    have mr6 : Same (fun k => k = o3) M r6 := hr6.mono (fun k hk => by first | omega | exact hk.elim | (dsimp only at hk ⊢; omega))
    exact wp_some mr6
theorem T_Bridge_weakest_b10 (z : Int32 × Int64 × Int64 × Int32 × Mem) : wpO (F_Bridge_weakest_b10 z) (fun r => (match r with | .inl s => Same (fun k => k = 92) z.2.2.2.2 s.2.2.2.2 ∧ muU s.2.2.2.1 < muU z.2.2.2.1 | .inr r => Same (fun k => k = 92) z.2.2.2.2 r.2)) := by
  unfold F_Bridge_weakest_b10
  refine wp_if (fun c1 => ?_) (fun c1 => ?_)
  · exact wp_some Same.rfl'
  · refine wp_bind (T_Bridge_tellEdge 92 z.2.2.2.1 (z.2.2.2.2.1 1 8) z.2.2.2.2) (fun r1 hr1 => ?_)
    have mr1 : Same (fun k => k = 92) z.2.2.2.2 r1 := hr1.mono (fun k hk => by first | omega | exact hk.elim | (dsimp only at hk ⊢; omega))
    refine wp_if (fun c2 => ?_) (fun c2 => ?_)
    · unfold F_Bridge_weakest_j67
      exact wp_some ⟨mr1, (muU_le c1)⟩
    · refine wp_if (fun c3 => ?_) (fun c3 => ?_)
      · exact wp_some ⟨mr1, (muU_le c1)⟩
      · unfold F_Bridge_weakest_j67
        exact wp_some ⟨mr1, (muU_le c1)⟩
theorem T_Bridge_weakest (M : Mem) : wpO (F_Bridge_weakest M) (fun r => Same (fun k => k = 92) M r.2) := by
  unfold F_Bridge_weakest
  unfold F_Bridge_weakest_l10
  refine wp_bind (Ψ := fun r => Same (fun k => k = 92) M r.2) (wp_while (P := fun z => Same (fun k => k = 92) M z.2.2.2.2) (μ := fun z => muU z.2.2.2.1) (fun z hz => wp_mono (T_Bridge_weakest_b10  z) (fun x hx => ?_)) FUEL (((-1)), 0, 1, 0, M) Same.rfl' (mu_fuel _)) ?_
  · rcases x with x | x
    · exact ⟨hz.trans (hx.1.mono (fun k hk => by first | omega | exact hk.elim | (dsimp only at hk ⊢; omega))), hx.2⟩
    · exact hz.trans (hx.mono (fun k hk => by first | omega | exact hk.elim | (dsimp only at hk ⊢; omega)))
  intro r hr
  exact wp_some hr
theorem T_Integer_bitCount (x0 : Int32) (M : Mem) : wpO (F_Integer_bitCount x0 M) (fun r => True) := by
  unfold F_Integer_bitCount
  exact wp_some trivial
theorem T_Bridge_isHeldWithout_b15 (x1 : Int32) (x2 : Int32) (z : Int32 × Mem) : wpO (F_Bridge_isHeldWithout_b15 x1 x2 z) (fun r => (match r with | .inl s => Same (fun k => k = 92) z.2 s.2 ∧ muU s.1 < muU z.1 | .inr r => (match r with | .inl s => Same (fun k => k = 92) z.2 s | .inr r => Same (fun k => k = 92) z.2 r))) := by
  unfold F_Bridge_isHeldWithout_b15
  refine wp_if (fun c1 => ?_) (fun c1 => ?_)
  · exact wp_some Same.rfl'
  · refine wp_if (fun c2 => ?_) (fun c2 => ?_)
    · refine wp_bind (T_Bridge_tellEdge 92 z.1 x2 z.2) (fun r2 hr2 => ?_)
      have mr2 : Same (fun k => k = 92) z.2 r2 := hr2.mono (fun k hk => by first | omega | exact hk.elim | (dsimp only at hk ⊢; omega))
      refine wp_if (fun c3 => ?_) (fun c3 => ?_)
      · exact wp_some ⟨mr2, (muU_le c1)⟩
      · exact wp_some mr2
    · exact wp_some ⟨Same.rfl', (muU_le c1)⟩
theorem T_Bridge_isHeldWithout (x1 : Int32) (M : Mem) : wpO (F_Bridge_isHeldWithout x1 M) (fun r => Same (fun k => k = 92) M r.2) := by
  unfold F_Bridge_isHeldWithout
  refine wp_bind (T_Integer_bitCount x1 M) (fun r1 hr1 => ?_)
  unfold F_Bridge_isHeldWithout_l15
  refine wp_bind (Ψ := fun q => (match q with | .inl s => Same (fun k => k = 92) M s | .inr r => Same (fun k => k = 92) M r)) (wp_while (P := fun z => Same (fun k => k = 92) M z.2) (μ := fun z => muU z.1) (fun z hz => wp_mono (T_Bridge_isHeldWithout_b15 x1 ((M.1 1 8) - r1) z) (fun x hx => ?_)) FUEL (0, M) Same.rfl' (mu_fuel _)) ?_
  · rcases x with x | x
    · exact ⟨hz.trans (hx.1.mono (fun k hk => by first | omega | exact hk.elim | (dsimp only at hk ⊢; omega))), hx.2⟩
    · rcases x with x | x
      · exact hz.trans (hx.mono (fun k hk => by first | omega | exact hk.elim | (dsimp only at hk ⊢; omega)))
      · exact hz.trans (hx.mono (fun k hk => by first | omega | exact hk.elim | (dsimp only at hk ⊢; omega)))
  intro q hq
  rcases q with r1 | r1
  · exact wp_some hq
  · exact wp_some hq
theorem T_Bridge_fewestOut_b16 (z : Int32 × Int32 × Mem) : wpO (F_Bridge_fewestOut_b16 z) (fun r => (match r with | .inl s => Same (fun k => k = 92) z.2.2 s.2.2 ∧ muD s.2.1 < muD z.2.1 | .inr r => Same (fun k => k = 92) z.2.2 r.2)) := by
  unfold F_Bridge_fewestOut_b16
  refine wp_if (fun c1 => ?_) (fun c1 => ?_)
  · exact wp_some Same.rfl'
  · refine wp_bind (T_Integer_bitCount z.2.1 z.2.2) (fun r1 hr1 => ?_)
    refine wp_bind (T_Integer_bitCount z.1 z.2.2) (fun r2 hr2 => ?_)
    refine wp_if (fun c2 => ?_) (fun c2 => ?_)
    · exact wp_some ⟨Same.rfl', (muD_0 c1)⟩
    · refine wp_bind (T_Bridge_isHeldWithout z.2.1 z.2.2) (fun r3 hr3 => ?_)
      have mr3 : Same (fun k => k = 92) z.2.2 r3.2 := hr3.mono (fun k hk => by first | omega | exact hk.elim | (dsimp only at hk ⊢; omega))
      refine wp_if (fun c3 => ?_) (fun c3 => ?_)
      · exact wp_some ⟨mr3, (muD_0 c1)⟩
      · exact wp_some ⟨mr3, (muD_0 c1)⟩
theorem T_Bridge_fewestOut (M : Mem) : wpO (F_Bridge_fewestOut M) (fun r => Same (fun k => k = 92) M r.2) := by
  unfold F_Bridge_fewestOut
  unfold F_Bridge_fewestOut_l16
  refine wp_bind (Ψ := fun r => Same (fun k => k = 92) M r.2) (wp_while (P := fun z => Same (fun k => k = 92) M z.2.2) (μ := fun z => muD z.2.1) (fun z hz => wp_mono (T_Bridge_fewestOut_b16  z) (fun x hx => ?_)) FUEL (((1 <<< ((M.1 1 8) &&& 31)) - 1), ((1 <<< ((M.1 1 8) &&& 31)) - 1), M) Same.rfl' (muD_fuel _)) ?_
  · rcases x with x | x
    · exact ⟨hz.trans (hx.1.mono (fun k hk => by first | omega | exact hk.elim | (dsimp only at hk ⊢; omega))), hx.2⟩
    · exact hz.trans (hx.mono (fun k hk => by first | omega | exact hk.elim | (dsimp only at hk ⊢; omega)))
  intro r hr
  exact wp_some hr
theorem T_Tape_hasRoom (M : Mem) : wpO (F_Tape_hasRoom M) (fun r => True) := by
  unfold F_Tape_hasRoom
  refine wp_if (fun c1 => ?_) (fun c1 => ?_)
  · exact wp_some trivial
  · exact wp_some trivial
theorem T_Tape_append_b3 (x1 : Int32) (z : Int32 × Mem) : wpO (F_Tape_append_b3 x1 z) (fun r => (match r with | .inl s => Same (fun k => (27 ≤ k ∧ k ≤ 29)) z.2 s.2 ∧ muD s.1 < muD z.1 | .inr r => Same (fun k => (27 ≤ k ∧ k ≤ 29)) z.2 r)) := by
  unfold F_Tape_append_b3
  refine wp_if (fun c1 => ?_) (fun c1 => ?_)
  · exact wp_some Same.rfl'
  · refine wp_bind (T_Row_put 29 400 (z.2.1 27 1) (((ush x1 z.1) &&& 255).toInt64) z.2) (fun r1 hr1 => ?_)
    have mr1 : Same (fun k => (27 ≤ k ∧ k ≤ 29)) z.2 r1 := hr1.mono (fun k hk => by first | omega | exact hk.elim | (dsimp only at hk ⊢; omega))
    exact wp_some ⟨((mr1).sI (by first | omega | (dsimp only; omega))), (muD_08 c1)⟩
theorem T_Tape_append (x1 : Int32) (M : Mem) : wpO (F_Tape_append x1 M) (fun r => Same (fun k => (27 ≤ k ∧ k ≤ 29)) M r) := by
  unfold F_Tape_append
  unfold F_Tape_append_l3
  refine wp_bind (Ψ := fun r => Same (fun k => (27 ≤ k ∧ k ≤ 29)) M r) (wp_while (P := fun z => Same (fun k => (27 ≤ k ∧ k ≤ 29)) M z.2) (μ := fun z => muD z.1) (fun z hz => wp_mono (T_Tape_append_b3 x1 z) (fun x hx => ?_)) FUEL (24, M) Same.rfl' (muD_fuel _)) ?_
  · rcases x with x | x
    · exact ⟨hz.trans (hx.1.mono (fun k hk => by first | omega | exact hk.elim | (dsimp only at hk ⊢; omega))), hx.2⟩
    · exact hz.trans (hx.mono (fun k hk => by first | omega | exact hk.elim | (dsimp only at hk ⊢; omega)))
  intro r hr
  exact wp_some hr
theorem T_Tape_byteAt (x1 : Int32) (M : Mem) : wpO (F_Tape_byteAt x1 M) (fun r => True) := by
  unfold F_Tape_byteAt
  refine wp_if (fun c1 => ?_) (fun c1 => ?_)
  · exact wp_some trivial
  · refine wp_bind (T_Row_small 29 400 x1 M) (fun r1 hr1 => ?_)
    exact wp_some trivial
theorem T_Tape_isRowOfDays_b2 (M : Mem) (z : Int32) : wpO (F_Tape_isRowOfDays_b2 M z) (fun r => (match r with | .inl s => muU s < muU z | .inr r => (match r with | .inl s => True | .inr r => True))) := by
  unfold F_Tape_isRowOfDays_b2
  refine wp_if (fun c1 => ?_) (fun c1 => ?_)
  · exact wp_some trivial
  · refine wp_bind (T_Tape_byteAt z M) (fun r1 hr1 => ?_)
    refine wp_if (fun c2 => ?_) (fun c2 => ?_)
    · exact wp_some (muU_le c1)
    · exact wp_some trivial
theorem T_Tape_isRowOfDays (M : Mem) : wpO (F_Tape_isRowOfDays M) (fun r => True) := by
  unfold F_Tape_isRowOfDays
  unfold F_Tape_isRowOfDays_l2
  refine wp_bind (Ψ := fun q => (match q with | .inl s => True | .inr r => True)) (wp_while (P := fun _ => True) (μ := fun z => muU z) (fun z hz => wp_mono (T_Tape_isRowOfDays_b2 M z) (fun x hx => ?_)) FUEL 0 trivial (mu_fuel _)) ?_
  · rcases x with x | x
    · exact ⟨trivial, hx⟩
    · rcases x with x | x
      · trivial
      · trivial
  intro q hq
  rcases q with r1 | r1
  · exact wp_some trivial
  · unfold F_Tape_isRowOfDays_j27
    refine wp_if (fun c2 => ?_) (fun c2 => ?_)
    · exact wp_some trivial
    · exact wp_some trivial
theorem T_Tape_isLetter (x1 : Int32) (M : Mem) : wpO (F_Tape_isLetter x1 M) (fun r => True) := by
  unfold F_Tape_isLetter
  refine wp_if (fun c1 => ?_) (fun c1 => ?_)
  · exact wp_some trivial
  · refine wp_if (fun c2 => ?_) (fun c2 => ?_)
    · exact wp_some trivial
    · exact wp_some trivial
theorem T_Tape_isFigure (x1 : Int32) (M : Mem) : wpO (F_Tape_isFigure x1 M) (fun r => True) := by
  unfold F_Tape_isFigure
  refine wp_if (fun c1 => ?_) (fun c1 => ?_)
  · exact wp_some trivial
  · refine wp_if (fun c2 => ?_) (fun c2 => ?_)
    · exact wp_some trivial
    · exact wp_some trivial
theorem T_Tape_step_b156 (z : Mem) : wpO (F_Tape_step_b156 z) (fun r => (match r with | .inl s => Same (fun k => k = 27) z s ∧ muT6 s < muT6 z | .inr r => Same (fun k => k = 27) z r)) := by
  unfold F_Tape_step_b156
  refine wp_if (fun c1 => ?_) (fun c1 => ?_)
  · exact wp_some Same.rfl'
  · refine wp_bind (T_Tape_byteAt (z.1 27 6) z) (fun r7 hr7 => ?_)
    refine wp_bind (T_Tape_isFigure r7 z) (fun r8 hr8 => ?_)
    refine wp_if (fun c2 => ?_) (fun c2 => ?_)
    · exact wp_some ⟨((Same.rfl').sI (by first | omega | (dsimp only; omega))), (muT6_s c1)⟩
    · exact wp_some Same.rfl'
theorem T_Tape_step_b97 (z : Mem) : wpO (F_Tape_step_b97 z) (fun r => (match r with | .inl s => Same (fun k => k = 27) z s ∧ muT6 s < muT6 z | .inr r => Same (fun k => k = 27) z r)) := by
  unfold F_Tape_step_b97
  refine wp_if (fun c1 => ?_) (fun c1 => ?_)
  · exact wp_some Same.rfl'
  · refine wp_bind (T_Tape_byteAt (z.1 27 6) z) (fun r9 hr9 => ?_)
    refine wp_bind (T_Tape_isLetter r9 z) (fun r10 hr10 => ?_)
    refine wp_if (fun c2 => ?_) (fun c2 => ?_)
    · exact wp_some ⟨((Same.rfl').sI (by first | omega | (dsimp only; omega))), (muT6_s c1)⟩
    · exact wp_some Same.rfl'
theorem T_Tape_step_b8 (z : Mem) : wpO (F_Tape_step_b8 z) (fun r => (match r with | .inl s => Same (fun k => k = 27) z s ∧ muT5 s < muT5 z | .inr r => Same (fun k => k = 27) z r)) := by
  unfold F_Tape_step_b8
  refine wp_if (fun c1 => ?_) (fun c1 => ?_)
  · exact wp_some Same.rfl'
  · refine wp_bind (T_Tape_byteAt (z.1 27 5) z) (fun r11 hr11 => ?_)
    refine wp_if (fun c2 => ?_) (fun c2 => ?_)
    · exact wp_some ⟨((Same.rfl').sI (by first | omega | (dsimp only; omega))), (muT5_s c1)⟩
    · exact wp_some Same.rfl'
theorem T_Tape_step (M : Mem) : wpO (F_Tape_step M) (fun r => Same (fun k => k = 27) M r) := by
  unfold F_Tape_step
  unfold F_Tape_step_l8
  refine wp_bind (Ψ := fun r => Same (fun k => k = 27) M r) (wp_while (P := fun z => Same (fun k => k = 27) M z) (μ := fun z => muT5 z) (fun z hz => wp_mono (T_Tape_step_b8  z) (fun x hx => ?_)) FUEL (mSI M 27 5 (M.1 27 6)) ((Same.rfl').sI (by first | omega | (dsimp only; omega))) (muT5_f _)) ?_
  · rcases x with x | x
    · exact ⟨hz.trans (hx.1.mono (fun k hk => by first | omega | exact hk.elim | (dsimp only at hk ⊢; omega))), hx.2⟩
    · exact hz.trans (hx.mono (fun k hk => by first | omega | exact hk.elim | (dsimp only at hk ⊢; omega)))
  intro r hr
  unfold F_Tape_step_j45
  refine wp_if (fun c1 => ?_) (fun c1 => ?_)
  · refine wp_bind (T_Tape_byteAt ((mSI (mSI r 27 6 (r.1 27 5)) 27 7 ((-1))).1 27 5) (mSI (mSI r 27 6 (r.1 27 5)) 27 7 ((-1)))) (fun r1 hr1 => ?_)
    refine wp_bind (T_Tape_isLetter r1 (mSI (mSI r 27 6 (r.1 27 5)) 27 7 ((-1)))) (fun r2 hr2 => ?_)
    refine wp_if (fun c2 => ?_) (fun c2 => ?_)
    · unfold F_Tape_step_l97
      refine wp_bind (Ψ := fun r => Same (fun k => k = 27) M r) (wp_while (P := fun z => Same (fun k => k = 27) M z) (μ := fun z => muT6 z) (fun z hz => wp_mono (T_Tape_step_b97  z) (fun x hx => ?_)) FUEL (mSI (mSI (mSI r 27 6 (r.1 27 5)) 27 7 ((-1))) 27 4 1) ((((((hr).sI (by first | omega | (dsimp only; omega)))).sI (by first | omega | (dsimp only; omega)))).sI (by first | omega | (dsimp only; omega))) (muT6_f _)) ?_
      · rcases x with x | x
        · exact ⟨hz.trans (hx.1.mono (fun k hk => by first | omega | exact hk.elim | (dsimp only at hk ⊢; omega))), hx.2⟩
        · exact hz.trans (hx.mono (fun k hk => by first | omega | exact hk.elim | (dsimp only at hk ⊢; omega)))
      intro r hr
      exact wp_some hr
    · refine wp_bind (T_Tape_byteAt ((mSI (mSI r 27 6 (r.1 27 5)) 27 7 ((-1))).1 27 5) (mSI (mSI r 27 6 (r.1 27 5)) 27 7 ((-1)))) (fun r3 hr3 => ?_)
      refine wp_bind (T_Tape_isFigure r3 (mSI (mSI r 27 6 (r.1 27 5)) 27 7 ((-1)))) (fun r4 hr4 => ?_)
      refine wp_if (fun c3 => ?_) (fun c3 => ?_)
      · unfold F_Tape_step_l156
        refine wp_bind (Ψ := fun r => Same (fun k => k = 27) M r) (wp_while (P := fun z => Same (fun k => k = 27) M z) (μ := fun z => muT6 z) (fun z hz => wp_mono (T_Tape_step_b156  z) (fun x hx => ?_)) FUEL (mSI (mSI (mSI r 27 6 (r.1 27 5)) 27 7 ((-1))) 27 4 2) ((((((hr).sI (by first | omega | (dsimp only; omega)))).sI (by first | omega | (dsimp only; omega)))).sI (by first | omega | (dsimp only; omega))) (muT6_f _)) ?_
        · rcases x with x | x
          · exact ⟨hz.trans (hx.1.mono (fun k hk => by first | omega | exact hk.elim | (dsimp only at hk ⊢; omega))), hx.2⟩
          · exact hz.trans (hx.mono (fun k hk => by first | omega | exact hk.elim | (dsimp only at hk ⊢; omega)))
        intro r hr
        unfold F_Tape_step_j195
        refine wp_bind (T_Tape_byteAt (r.1 27 5) r) (fun r6 hr6 => ?_)
        refine wp_if (fun c4 => ?_) (fun c4 => ?_)
        · refine wp_if (fun c5 => ?_) (fun c5 => ?_)
          · exact wp_some ((hr).sI (by first | omega | (dsimp only; omega)))
          · exact wp_some ((hr).sI (by first | omega | (dsimp only; omega)))
        · exact wp_some ((hr).sI (by first | omega | (dsimp only; omega)))
      · refine wp_bind (T_Tape_byteAt ((mSI (mSI (mSI r 27 6 (r.1 27 5)) 27 7 ((-1))) 27 4 3).1 27 5) (mSI (mSI (mSI r 27 6 (r.1 27 5)) 27 7 ((-1))) 27 4 3)) (fun r5 hr5 => ?_)
        exact wp_some ((((((((((hr).sI (by first | omega | (dsimp only; omega)))).sI (by first | omega | (dsimp only; omega)))).sI (by first | omega | (dsimp only; omega)))).sI (by first | omega | (dsimp only; omega)))).sI (by first | omega | (dsimp only; omega)))
  · exact wp_some ((((((hr).sI (by first | omega | (dsimp only; omega)))).sI (by first | omega | (dsimp only; omega)))).sI (by first | omega | (dsimp only; omega)))
theorem T_Tape_isWord (w : Nat) (M : Mem) : wpO (F_Tape_isWord w M) (fun _ => True) := by
  unfold F_Tape_isWord F_String_length
  refine wp_if (fun c1 => ?_) (fun _ => wp_some trivial)
  refine wp_bind (wp_some (Φ := fun _ => True) trivial) (fun r1 _ => wp_if (fun c2 => ?_) (fun _ => wp_some trivial))
  unfold F_Tape_isWord_l28
  refine wp_bind (Ψ := fun _ => True) (wp_while (P := fun z => 0 ≤ z.toInt) (μ := fun z => muU z) (fun z hz => ?_) FUEL 0 (by decide) (mu_fuel _)) (fun q _ => ?_)
  · unfold F_Tape_isWord_b28 F_String_length F_String_charAt
    refine wp_eq rfl (wp_if (fun _ => wp_some trivial) (fun c3 => ?_))
    refine wp_bind (T_Tape_byteAt _ _) (fun r3 _ => ?_)
    have c4 := m32.mp c3
    have hb : inb z (strL.getD w 0) := inb_of (by rw [lt_i, li0]; omega) c4
    rw [if_pos hb]
    refine wp_eq rfl (wp_if (fun _ => wp_some ⟨?_, muU_lt c4⟩) (fun _ => wp_some trivial))
    show 0 ≤ (z + 1).toInt
    rw [lt_i] at c4
    have := i_hi (nI (strL.getD w 0))
    rw [up1 (by omega)]
    omega
  · rcases q with q | q <;> exact wp_some trivial

theorem T_Tape_isNumber (M : Mem) : wpO (F_Tape_isNumber M) (fun r => True) := by
  unfold F_Tape_isNumber
  refine wp_if (fun c1 => ?_) (fun c1 => ?_)
  · refine wp_if (fun c2 => ?_) (fun c2 => ?_)
    · exact wp_some trivial
    · exact wp_some trivial
  · exact wp_some trivial
theorem T_Tape_isSign (x1 : Int32) (M : Mem) : wpO (F_Tape_isSign x1 M) (fun r => True) := by
  unfold F_Tape_isSign
  refine wp_if (fun c1 => ?_) (fun c1 => ?_)
  · refine wp_if (fun c2 => ?_) (fun c2 => ?_)
    · exact wp_some trivial
    · exact wp_some trivial
  · exact wp_some trivial
theorem T_Tape_readSeen_b112 (x1 : Int32) (x4 : Int32) (z : Int32 × Mem) : wpO (F_Tape_readSeen_b112 x1 x4 z) (fun r => (match r with | .inl s => Same (fun k => k = 31) z.2 s.2 ∧ muU s.1 < muU z.1 | .inr r => Same (fun k => k = 31) z.2 r)) := by
  unfold F_Tape_readSeen_b112
  refine wp_if (fun c1 => ?_) (fun c1 => ?_)
  · exact wp_some Same.rfl'
  · refine wp_if (fun c2 => ?_) (fun c2 => ?_)
    · exact wp_some Same.rfl'
    · refine wp_bind (T_Row_put 31 13 (x1 + z.1) ((z.2.1 27 7).toInt64) z.2) (fun r8 hr8 => ?_)
      have mr8 : Same (fun k => k = 31) z.2 r8 := hr8.mono (fun k hk => by first | omega | exact hk.elim | (dsimp only at hk ⊢; omega))
      exact wp_some ⟨mr8, (muU_le c2)⟩
theorem T_Tape_readSeen (x1 : Int32) (M : Mem) : wpO (F_Tape_readSeen x1 M) (fun r => Same (fun k => k = 27 ∨ (31 ≤ k ∧ k ≤ 33)) M r.2) := by
  unfold F_Tape_readSeen
  refine wp_bind (T_Tape_isWord 1 M) (fun r1 hr1 => ?_)
  refine wp_if (fun c1 => ?_) (fun c1 => ?_)
  · unfold F_Tape_readSeen_j20
    refine wp_if (fun c2 => ?_) (fun c2 => ?_)
    · unfold F_Tape_readSeen_j32
      refine wp_if (fun c3 => ?_) (fun c3 => ?_)
      · unfold F_Tape_readSeen_j45
        refine wp_bind (T_Tape_step M) (fun r2 hr2 => ?_)
        have mr2 : Same (fun k => k = 27 ∨ (31 ≤ k ∧ k ≤ 33)) M r2 := hr2.mono (fun k hk => by first | omega | exact hk.elim | (dsimp only at hk ⊢; omega))
        refine wp_bind (T_Tape_isWord 2 r2) (fun r3 hr3 => ?_)
        refine wp_if (fun c4 => ?_) (fun c4 => ?_)
        · refine wp_bind (T_Tape_step r2) (fun r4 hr4 => ?_)
          have mr4 := (mr2).trans (hr4.mono (fun k hk => by first | omega | exact hk.elim | (dsimp only at hk ⊢; omega)))
          refine wp_bind (T_Tape_isNumber r4) (fun r5 hr5 => ?_)
          refine wp_if (fun c5 => ?_) (fun c5 => ?_)
          · refine wp_bind (T_Row_at 33 3 (r4.1 27 7) r4) (fun r6 hr6 => ?_)
            refine wp_if (fun c6 => ?_) (fun c6 => ?_)
            · refine wp_bind (T_Row_put 33 3 (r4.1 27 7) ((r4.1 27 5).toInt64) r4) (fun r9 hr9 => ?_)
              have mr9 := (mr4).trans (hr9.mono (fun k hk => by first | omega | exact hk.elim | (dsimp only at hk ⊢; omega)))
              unfold F_Tape_readSeen_l112
              refine wp_bind (Ψ := fun r => Same (fun k => k = 27 ∨ (31 ≤ k ∧ k ≤ 33)) M r) (wp_while (P := fun z => Same (fun k => k = 27 ∨ (31 ≤ k ∧ k ≤ 33)) M z.2) (μ := fun z => muU z.1) (fun z hz => wp_mono (T_Tape_readSeen_b112 x1 2 z) (fun x hx => ?_)) FUEL (0, r9) mr9 (mu_fuel _)) ?_
              · rcases x with x | x
                · exact ⟨hz.trans (hx.1.mono (fun k hk => by first | omega | exact hk.elim | (dsimp only at hk ⊢; omega))), hx.2⟩
                · exact hz.trans (hx.mono (fun k hk => by first | omega | exact hk.elim | (dsimp only at hk ⊢; omega)))
              intro r hr
              unfold F_Tape_readSeen_j147
              refine wp_bind (T_Tape_step r) (fun r7 hr7 => ?_)
              have mr7 := (hr).trans (hr7.mono (fun k hk => by first | omega | exact hk.elim | (dsimp only at hk ⊢; omega)))
              exact wp_some mr7
            · unfold F_Tape_readSeen_l112
              refine wp_bind (Ψ := fun r => Same (fun k => k = 27 ∨ (31 ≤ k ∧ k ≤ 33)) M r) (wp_while (P := fun z => Same (fun k => k = 27 ∨ (31 ≤ k ∧ k ≤ 33)) M z.2) (μ := fun z => muU z.1) (fun z hz => wp_mono (T_Tape_readSeen_b112 x1 2 z) (fun x hx => ?_)) FUEL (0, r4) mr4 (mu_fuel _)) ?_
              · rcases x with x | x
                · exact ⟨hz.trans (hx.1.mono (fun k hk => by first | omega | exact hk.elim | (dsimp only at hk ⊢; omega))), hx.2⟩
                · exact hz.trans (hx.mono (fun k hk => by first | omega | exact hk.elim | (dsimp only at hk ⊢; omega)))
              intro r hr
              unfold F_Tape_readSeen_j147
              refine wp_bind (T_Tape_step r) (fun r7 hr7 => ?_)
              have mr7 := (hr).trans (hr7.mono (fun k hk => by first | omega | exact hk.elim | (dsimp only at hk ⊢; omega)))
              exact wp_some mr7
          · exact wp_some mr4
        · exact wp_some mr2
      · unfold F_Tape_readSeen_j45
        refine wp_bind (T_Tape_step M) (fun r2 hr2 => ?_)
        have mr2 : Same (fun k => k = 27 ∨ (31 ≤ k ∧ k ≤ 33)) M r2 := hr2.mono (fun k hk => by first | omega | exact hk.elim | (dsimp only at hk ⊢; omega))
        refine wp_bind (T_Tape_isWord 2 r2) (fun r3 hr3 => ?_)
        refine wp_if (fun c7 => ?_) (fun c7 => ?_)
        · refine wp_bind (T_Tape_step r2) (fun r4 hr4 => ?_)
          have mr4 := (mr2).trans (hr4.mono (fun k hk => by first | omega | exact hk.elim | (dsimp only at hk ⊢; omega)))
          refine wp_bind (T_Tape_isNumber r4) (fun r5 hr5 => ?_)
          refine wp_if (fun c8 => ?_) (fun c8 => ?_)
          · refine wp_bind (T_Row_at 33 3 (r4.1 27 7) r4) (fun r6 hr6 => ?_)
            refine wp_if (fun c9 => ?_) (fun c9 => ?_)
            · refine wp_bind (T_Row_put 33 3 (r4.1 27 7) ((r4.1 27 5).toInt64) r4) (fun r9 hr9 => ?_)
              have mr9 := (mr4).trans (hr9.mono (fun k hk => by first | omega | exact hk.elim | (dsimp only at hk ⊢; omega)))
              unfold F_Tape_readSeen_l112
              refine wp_bind (Ψ := fun r => Same (fun k => k = 27 ∨ (31 ≤ k ∧ k ≤ 33)) M r) (wp_while (P := fun z => Same (fun k => k = 27 ∨ (31 ≤ k ∧ k ≤ 33)) M z.2) (μ := fun z => muU z.1) (fun z hz => wp_mono (T_Tape_readSeen_b112 x1 (M.1 27 7) z) (fun x hx => ?_)) FUEL (0, r9) mr9 (mu_fuel _)) ?_
              · rcases x with x | x
                · exact ⟨hz.trans (hx.1.mono (fun k hk => by first | omega | exact hk.elim | (dsimp only at hk ⊢; omega))), hx.2⟩
                · exact hz.trans (hx.mono (fun k hk => by first | omega | exact hk.elim | (dsimp only at hk ⊢; omega)))
              intro r hr
              unfold F_Tape_readSeen_j147
              refine wp_bind (T_Tape_step r) (fun r7 hr7 => ?_)
              have mr7 := (hr).trans (hr7.mono (fun k hk => by first | omega | exact hk.elim | (dsimp only at hk ⊢; omega)))
              exact wp_some mr7
            · unfold F_Tape_readSeen_l112
              refine wp_bind (Ψ := fun r => Same (fun k => k = 27 ∨ (31 ≤ k ∧ k ≤ 33)) M r) (wp_while (P := fun z => Same (fun k => k = 27 ∨ (31 ≤ k ∧ k ≤ 33)) M z.2) (μ := fun z => muU z.1) (fun z hz => wp_mono (T_Tape_readSeen_b112 x1 (M.1 27 7) z) (fun x hx => ?_)) FUEL (0, r4) mr4 (mu_fuel _)) ?_
              · rcases x with x | x
                · exact ⟨hz.trans (hx.1.mono (fun k hk => by first | omega | exact hk.elim | (dsimp only at hk ⊢; omega))), hx.2⟩
                · exact hz.trans (hx.mono (fun k hk => by first | omega | exact hk.elim | (dsimp only at hk ⊢; omega)))
              intro r hr
              unfold F_Tape_readSeen_j147
              refine wp_bind (T_Tape_step r) (fun r7 hr7 => ?_)
              have mr7 := (hr).trans (hr7.mono (fun k hk => by first | omega | exact hk.elim | (dsimp only at hk ⊢; omega)))
              exact wp_some mr7
          · exact wp_some mr4
        · exact wp_some mr2
    · unfold F_Tape_readSeen_j32
      refine wp_if (fun c10 => ?_) (fun c10 => ?_)
      · unfold F_Tape_readSeen_j45
        refine wp_bind (T_Tape_step M) (fun r2 hr2 => ?_)
        have mr2 : Same (fun k => k = 27 ∨ (31 ≤ k ∧ k ≤ 33)) M r2 := hr2.mono (fun k hk => by first | omega | exact hk.elim | (dsimp only at hk ⊢; omega))
        refine wp_bind (T_Tape_isWord 2 r2) (fun r3 hr3 => ?_)
        refine wp_if (fun c11 => ?_) (fun c11 => ?_)
        · refine wp_bind (T_Tape_step r2) (fun r4 hr4 => ?_)
          have mr4 := (mr2).trans (hr4.mono (fun k hk => by first | omega | exact hk.elim | (dsimp only at hk ⊢; omega)))
          refine wp_bind (T_Tape_isNumber r4) (fun r5 hr5 => ?_)
          refine wp_if (fun c12 => ?_) (fun c12 => ?_)
          · refine wp_bind (T_Row_at 33 3 (r4.1 27 7) r4) (fun r6 hr6 => ?_)
            refine wp_if (fun c13 => ?_) (fun c13 => ?_)
            · refine wp_bind (T_Row_put 33 3 (r4.1 27 7) ((r4.1 27 5).toInt64) r4) (fun r9 hr9 => ?_)
              have mr9 := (mr4).trans (hr9.mono (fun k hk => by first | omega | exact hk.elim | (dsimp only at hk ⊢; omega)))
              unfold F_Tape_readSeen_l112
              refine wp_bind (Ψ := fun r => Same (fun k => k = 27 ∨ (31 ≤ k ∧ k ≤ 33)) M r) (wp_while (P := fun z => Same (fun k => k = 27 ∨ (31 ≤ k ∧ k ≤ 33)) M z.2) (μ := fun z => muU z.1) (fun z hz => wp_mono (T_Tape_readSeen_b112 x1 2 z) (fun x hx => ?_)) FUEL ((M.1 27 7), r9) mr9 (mu_fuel _)) ?_
              · rcases x with x | x
                · exact ⟨hz.trans (hx.1.mono (fun k hk => by first | omega | exact hk.elim | (dsimp only at hk ⊢; omega))), hx.2⟩
                · exact hz.trans (hx.mono (fun k hk => by first | omega | exact hk.elim | (dsimp only at hk ⊢; omega)))
              intro r hr
              unfold F_Tape_readSeen_j147
              refine wp_bind (T_Tape_step r) (fun r7 hr7 => ?_)
              have mr7 := (hr).trans (hr7.mono (fun k hk => by first | omega | exact hk.elim | (dsimp only at hk ⊢; omega)))
              exact wp_some mr7
            · unfold F_Tape_readSeen_l112
              refine wp_bind (Ψ := fun r => Same (fun k => k = 27 ∨ (31 ≤ k ∧ k ≤ 33)) M r) (wp_while (P := fun z => Same (fun k => k = 27 ∨ (31 ≤ k ∧ k ≤ 33)) M z.2) (μ := fun z => muU z.1) (fun z hz => wp_mono (T_Tape_readSeen_b112 x1 2 z) (fun x hx => ?_)) FUEL ((M.1 27 7), r4) mr4 (mu_fuel _)) ?_
              · rcases x with x | x
                · exact ⟨hz.trans (hx.1.mono (fun k hk => by first | omega | exact hk.elim | (dsimp only at hk ⊢; omega))), hx.2⟩
                · exact hz.trans (hx.mono (fun k hk => by first | omega | exact hk.elim | (dsimp only at hk ⊢; omega)))
              intro r hr
              unfold F_Tape_readSeen_j147
              refine wp_bind (T_Tape_step r) (fun r7 hr7 => ?_)
              have mr7 := (hr).trans (hr7.mono (fun k hk => by first | omega | exact hk.elim | (dsimp only at hk ⊢; omega)))
              exact wp_some mr7
          · exact wp_some mr4
        · exact wp_some mr2
      · unfold F_Tape_readSeen_j45
        refine wp_bind (T_Tape_step M) (fun r2 hr2 => ?_)
        have mr2 : Same (fun k => k = 27 ∨ (31 ≤ k ∧ k ≤ 33)) M r2 := hr2.mono (fun k hk => by first | omega | exact hk.elim | (dsimp only at hk ⊢; omega))
        refine wp_bind (T_Tape_isWord 2 r2) (fun r3 hr3 => ?_)
        refine wp_if (fun c14 => ?_) (fun c14 => ?_)
        · refine wp_bind (T_Tape_step r2) (fun r4 hr4 => ?_)
          have mr4 := (mr2).trans (hr4.mono (fun k hk => by first | omega | exact hk.elim | (dsimp only at hk ⊢; omega)))
          refine wp_bind (T_Tape_isNumber r4) (fun r5 hr5 => ?_)
          refine wp_if (fun c15 => ?_) (fun c15 => ?_)
          · refine wp_bind (T_Row_at 33 3 (r4.1 27 7) r4) (fun r6 hr6 => ?_)
            refine wp_if (fun c16 => ?_) (fun c16 => ?_)
            · refine wp_bind (T_Row_put 33 3 (r4.1 27 7) ((r4.1 27 5).toInt64) r4) (fun r9 hr9 => ?_)
              have mr9 := (mr4).trans (hr9.mono (fun k hk => by first | omega | exact hk.elim | (dsimp only at hk ⊢; omega)))
              unfold F_Tape_readSeen_l112
              refine wp_bind (Ψ := fun r => Same (fun k => k = 27 ∨ (31 ≤ k ∧ k ≤ 33)) M r) (wp_while (P := fun z => Same (fun k => k = 27 ∨ (31 ≤ k ∧ k ≤ 33)) M z.2) (μ := fun z => muU z.1) (fun z hz => wp_mono (T_Tape_readSeen_b112 x1 (M.1 27 7) z) (fun x hx => ?_)) FUEL ((M.1 27 7), r9) mr9 (mu_fuel _)) ?_
              · rcases x with x | x
                · exact ⟨hz.trans (hx.1.mono (fun k hk => by first | omega | exact hk.elim | (dsimp only at hk ⊢; omega))), hx.2⟩
                · exact hz.trans (hx.mono (fun k hk => by first | omega | exact hk.elim | (dsimp only at hk ⊢; omega)))
              intro r hr
              unfold F_Tape_readSeen_j147
              refine wp_bind (T_Tape_step r) (fun r7 hr7 => ?_)
              have mr7 := (hr).trans (hr7.mono (fun k hk => by first | omega | exact hk.elim | (dsimp only at hk ⊢; omega)))
              exact wp_some mr7
            · unfold F_Tape_readSeen_l112
              refine wp_bind (Ψ := fun r => Same (fun k => k = 27 ∨ (31 ≤ k ∧ k ≤ 33)) M r) (wp_while (P := fun z => Same (fun k => k = 27 ∨ (31 ≤ k ∧ k ≤ 33)) M z.2) (μ := fun z => muU z.1) (fun z hz => wp_mono (T_Tape_readSeen_b112 x1 (M.1 27 7) z) (fun x hx => ?_)) FUEL ((M.1 27 7), r4) mr4 (mu_fuel _)) ?_
              · rcases x with x | x
                · exact ⟨hz.trans (hx.1.mono (fun k hk => by first | omega | exact hk.elim | (dsimp only at hk ⊢; omega))), hx.2⟩
                · exact hz.trans (hx.mono (fun k hk => by first | omega | exact hk.elim | (dsimp only at hk ⊢; omega)))
              intro r hr
              unfold F_Tape_readSeen_j147
              refine wp_bind (T_Tape_step r) (fun r7 hr7 => ?_)
              have mr7 := (hr).trans (hr7.mono (fun k hk => by first | omega | exact hk.elim | (dsimp only at hk ⊢; omega)))
              exact wp_some mr7
          · exact wp_some mr4
        · exact wp_some mr2
  · refine wp_bind (T_Tape_isNumber M) (fun r10 hr10 => ?_)
    refine wp_if (fun c17 => ?_) (fun c17 => ?_)
    · unfold F_Tape_readSeen_j20
      refine wp_if (fun c18 => ?_) (fun c18 => ?_)
      · unfold F_Tape_readSeen_j32
        refine wp_if (fun c19 => ?_) (fun c19 => ?_)
        · unfold F_Tape_readSeen_j45
          refine wp_bind (T_Tape_step M) (fun r2 hr2 => ?_)
          have mr2 : Same (fun k => k = 27 ∨ (31 ≤ k ∧ k ≤ 33)) M r2 := hr2.mono (fun k hk => by first | omega | exact hk.elim | (dsimp only at hk ⊢; omega))
          refine wp_bind (T_Tape_isWord 2 r2) (fun r3 hr3 => ?_)
          refine wp_if (fun c20 => ?_) (fun c20 => ?_)
          · refine wp_bind (T_Tape_step r2) (fun r4 hr4 => ?_)
            have mr4 := (mr2).trans (hr4.mono (fun k hk => by first | omega | exact hk.elim | (dsimp only at hk ⊢; omega)))
            refine wp_bind (T_Tape_isNumber r4) (fun r5 hr5 => ?_)
            refine wp_if (fun c21 => ?_) (fun c21 => ?_)
            · refine wp_bind (T_Row_at 33 3 (r4.1 27 7) r4) (fun r6 hr6 => ?_)
              refine wp_if (fun c22 => ?_) (fun c22 => ?_)
              · refine wp_bind (T_Row_put 33 3 (r4.1 27 7) ((r4.1 27 5).toInt64) r4) (fun r9 hr9 => ?_)
                have mr9 := (mr4).trans (hr9.mono (fun k hk => by first | omega | exact hk.elim | (dsimp only at hk ⊢; omega)))
                unfold F_Tape_readSeen_l112
                refine wp_bind (Ψ := fun r => Same (fun k => k = 27 ∨ (31 ≤ k ∧ k ≤ 33)) M r) (wp_while (P := fun z => Same (fun k => k = 27 ∨ (31 ≤ k ∧ k ≤ 33)) M z.2) (μ := fun z => muU z.1) (fun z hz => wp_mono (T_Tape_readSeen_b112 x1 2 z) (fun x hx => ?_)) FUEL (0, r9) mr9 (mu_fuel _)) ?_
                · rcases x with x | x
                  · exact ⟨hz.trans (hx.1.mono (fun k hk => by first | omega | exact hk.elim | (dsimp only at hk ⊢; omega))), hx.2⟩
                  · exact hz.trans (hx.mono (fun k hk => by first | omega | exact hk.elim | (dsimp only at hk ⊢; omega)))
                intro r hr
                unfold F_Tape_readSeen_j147
                refine wp_bind (T_Tape_step r) (fun r7 hr7 => ?_)
                have mr7 := (hr).trans (hr7.mono (fun k hk => by first | omega | exact hk.elim | (dsimp only at hk ⊢; omega)))
                exact wp_some mr7
              · unfold F_Tape_readSeen_l112
                refine wp_bind (Ψ := fun r => Same (fun k => k = 27 ∨ (31 ≤ k ∧ k ≤ 33)) M r) (wp_while (P := fun z => Same (fun k => k = 27 ∨ (31 ≤ k ∧ k ≤ 33)) M z.2) (μ := fun z => muU z.1) (fun z hz => wp_mono (T_Tape_readSeen_b112 x1 2 z) (fun x hx => ?_)) FUEL (0, r4) mr4 (mu_fuel _)) ?_
                · rcases x with x | x
                  · exact ⟨hz.trans (hx.1.mono (fun k hk => by first | omega | exact hk.elim | (dsimp only at hk ⊢; omega))), hx.2⟩
                  · exact hz.trans (hx.mono (fun k hk => by first | omega | exact hk.elim | (dsimp only at hk ⊢; omega)))
                intro r hr
                unfold F_Tape_readSeen_j147
                refine wp_bind (T_Tape_step r) (fun r7 hr7 => ?_)
                have mr7 := (hr).trans (hr7.mono (fun k hk => by first | omega | exact hk.elim | (dsimp only at hk ⊢; omega)))
                exact wp_some mr7
            · exact wp_some mr4
          · exact wp_some mr2
        · unfold F_Tape_readSeen_j45
          refine wp_bind (T_Tape_step M) (fun r2 hr2 => ?_)
          have mr2 : Same (fun k => k = 27 ∨ (31 ≤ k ∧ k ≤ 33)) M r2 := hr2.mono (fun k hk => by first | omega | exact hk.elim | (dsimp only at hk ⊢; omega))
          refine wp_bind (T_Tape_isWord 2 r2) (fun r3 hr3 => ?_)
          refine wp_if (fun c23 => ?_) (fun c23 => ?_)
          · refine wp_bind (T_Tape_step r2) (fun r4 hr4 => ?_)
            have mr4 := (mr2).trans (hr4.mono (fun k hk => by first | omega | exact hk.elim | (dsimp only at hk ⊢; omega)))
            refine wp_bind (T_Tape_isNumber r4) (fun r5 hr5 => ?_)
            refine wp_if (fun c24 => ?_) (fun c24 => ?_)
            · refine wp_bind (T_Row_at 33 3 (r4.1 27 7) r4) (fun r6 hr6 => ?_)
              refine wp_if (fun c25 => ?_) (fun c25 => ?_)
              · refine wp_bind (T_Row_put 33 3 (r4.1 27 7) ((r4.1 27 5).toInt64) r4) (fun r9 hr9 => ?_)
                have mr9 := (mr4).trans (hr9.mono (fun k hk => by first | omega | exact hk.elim | (dsimp only at hk ⊢; omega)))
                unfold F_Tape_readSeen_l112
                refine wp_bind (Ψ := fun r => Same (fun k => k = 27 ∨ (31 ≤ k ∧ k ≤ 33)) M r) (wp_while (P := fun z => Same (fun k => k = 27 ∨ (31 ≤ k ∧ k ≤ 33)) M z.2) (μ := fun z => muU z.1) (fun z hz => wp_mono (T_Tape_readSeen_b112 x1 (M.1 27 7) z) (fun x hx => ?_)) FUEL (0, r9) mr9 (mu_fuel _)) ?_
                · rcases x with x | x
                  · exact ⟨hz.trans (hx.1.mono (fun k hk => by first | omega | exact hk.elim | (dsimp only at hk ⊢; omega))), hx.2⟩
                  · exact hz.trans (hx.mono (fun k hk => by first | omega | exact hk.elim | (dsimp only at hk ⊢; omega)))
                intro r hr
                unfold F_Tape_readSeen_j147
                refine wp_bind (T_Tape_step r) (fun r7 hr7 => ?_)
                have mr7 := (hr).trans (hr7.mono (fun k hk => by first | omega | exact hk.elim | (dsimp only at hk ⊢; omega)))
                exact wp_some mr7
              · unfold F_Tape_readSeen_l112
                refine wp_bind (Ψ := fun r => Same (fun k => k = 27 ∨ (31 ≤ k ∧ k ≤ 33)) M r) (wp_while (P := fun z => Same (fun k => k = 27 ∨ (31 ≤ k ∧ k ≤ 33)) M z.2) (μ := fun z => muU z.1) (fun z hz => wp_mono (T_Tape_readSeen_b112 x1 (M.1 27 7) z) (fun x hx => ?_)) FUEL (0, r4) mr4 (mu_fuel _)) ?_
                · rcases x with x | x
                  · exact ⟨hz.trans (hx.1.mono (fun k hk => by first | omega | exact hk.elim | (dsimp only at hk ⊢; omega))), hx.2⟩
                  · exact hz.trans (hx.mono (fun k hk => by first | omega | exact hk.elim | (dsimp only at hk ⊢; omega)))
                intro r hr
                unfold F_Tape_readSeen_j147
                refine wp_bind (T_Tape_step r) (fun r7 hr7 => ?_)
                have mr7 := (hr).trans (hr7.mono (fun k hk => by first | omega | exact hk.elim | (dsimp only at hk ⊢; omega)))
                exact wp_some mr7
            · exact wp_some mr4
          · exact wp_some mr2
      · unfold F_Tape_readSeen_j32
        refine wp_if (fun c26 => ?_) (fun c26 => ?_)
        · unfold F_Tape_readSeen_j45
          refine wp_bind (T_Tape_step M) (fun r2 hr2 => ?_)
          have mr2 : Same (fun k => k = 27 ∨ (31 ≤ k ∧ k ≤ 33)) M r2 := hr2.mono (fun k hk => by first | omega | exact hk.elim | (dsimp only at hk ⊢; omega))
          refine wp_bind (T_Tape_isWord 2 r2) (fun r3 hr3 => ?_)
          refine wp_if (fun c27 => ?_) (fun c27 => ?_)
          · refine wp_bind (T_Tape_step r2) (fun r4 hr4 => ?_)
            have mr4 := (mr2).trans (hr4.mono (fun k hk => by first | omega | exact hk.elim | (dsimp only at hk ⊢; omega)))
            refine wp_bind (T_Tape_isNumber r4) (fun r5 hr5 => ?_)
            refine wp_if (fun c28 => ?_) (fun c28 => ?_)
            · refine wp_bind (T_Row_at 33 3 (r4.1 27 7) r4) (fun r6 hr6 => ?_)
              refine wp_if (fun c29 => ?_) (fun c29 => ?_)
              · refine wp_bind (T_Row_put 33 3 (r4.1 27 7) ((r4.1 27 5).toInt64) r4) (fun r9 hr9 => ?_)
                have mr9 := (mr4).trans (hr9.mono (fun k hk => by first | omega | exact hk.elim | (dsimp only at hk ⊢; omega)))
                unfold F_Tape_readSeen_l112
                refine wp_bind (Ψ := fun r => Same (fun k => k = 27 ∨ (31 ≤ k ∧ k ≤ 33)) M r) (wp_while (P := fun z => Same (fun k => k = 27 ∨ (31 ≤ k ∧ k ≤ 33)) M z.2) (μ := fun z => muU z.1) (fun z hz => wp_mono (T_Tape_readSeen_b112 x1 2 z) (fun x hx => ?_)) FUEL ((M.1 27 7), r9) mr9 (mu_fuel _)) ?_
                · rcases x with x | x
                  · exact ⟨hz.trans (hx.1.mono (fun k hk => by first | omega | exact hk.elim | (dsimp only at hk ⊢; omega))), hx.2⟩
                  · exact hz.trans (hx.mono (fun k hk => by first | omega | exact hk.elim | (dsimp only at hk ⊢; omega)))
                intro r hr
                unfold F_Tape_readSeen_j147
                refine wp_bind (T_Tape_step r) (fun r7 hr7 => ?_)
                have mr7 := (hr).trans (hr7.mono (fun k hk => by first | omega | exact hk.elim | (dsimp only at hk ⊢; omega)))
                exact wp_some mr7
              · unfold F_Tape_readSeen_l112
                refine wp_bind (Ψ := fun r => Same (fun k => k = 27 ∨ (31 ≤ k ∧ k ≤ 33)) M r) (wp_while (P := fun z => Same (fun k => k = 27 ∨ (31 ≤ k ∧ k ≤ 33)) M z.2) (μ := fun z => muU z.1) (fun z hz => wp_mono (T_Tape_readSeen_b112 x1 2 z) (fun x hx => ?_)) FUEL ((M.1 27 7), r4) mr4 (mu_fuel _)) ?_
                · rcases x with x | x
                  · exact ⟨hz.trans (hx.1.mono (fun k hk => by first | omega | exact hk.elim | (dsimp only at hk ⊢; omega))), hx.2⟩
                  · exact hz.trans (hx.mono (fun k hk => by first | omega | exact hk.elim | (dsimp only at hk ⊢; omega)))
                intro r hr
                unfold F_Tape_readSeen_j147
                refine wp_bind (T_Tape_step r) (fun r7 hr7 => ?_)
                have mr7 := (hr).trans (hr7.mono (fun k hk => by first | omega | exact hk.elim | (dsimp only at hk ⊢; omega)))
                exact wp_some mr7
            · exact wp_some mr4
          · exact wp_some mr2
        · unfold F_Tape_readSeen_j45
          refine wp_bind (T_Tape_step M) (fun r2 hr2 => ?_)
          have mr2 : Same (fun k => k = 27 ∨ (31 ≤ k ∧ k ≤ 33)) M r2 := hr2.mono (fun k hk => by first | omega | exact hk.elim | (dsimp only at hk ⊢; omega))
          refine wp_bind (T_Tape_isWord 2 r2) (fun r3 hr3 => ?_)
          refine wp_if (fun c30 => ?_) (fun c30 => ?_)
          · refine wp_bind (T_Tape_step r2) (fun r4 hr4 => ?_)
            have mr4 := (mr2).trans (hr4.mono (fun k hk => by first | omega | exact hk.elim | (dsimp only at hk ⊢; omega)))
            refine wp_bind (T_Tape_isNumber r4) (fun r5 hr5 => ?_)
            refine wp_if (fun c31 => ?_) (fun c31 => ?_)
            · refine wp_bind (T_Row_at 33 3 (r4.1 27 7) r4) (fun r6 hr6 => ?_)
              refine wp_if (fun c32 => ?_) (fun c32 => ?_)
              · refine wp_bind (T_Row_put 33 3 (r4.1 27 7) ((r4.1 27 5).toInt64) r4) (fun r9 hr9 => ?_)
                have mr9 := (mr4).trans (hr9.mono (fun k hk => by first | omega | exact hk.elim | (dsimp only at hk ⊢; omega)))
                unfold F_Tape_readSeen_l112
                refine wp_bind (Ψ := fun r => Same (fun k => k = 27 ∨ (31 ≤ k ∧ k ≤ 33)) M r) (wp_while (P := fun z => Same (fun k => k = 27 ∨ (31 ≤ k ∧ k ≤ 33)) M z.2) (μ := fun z => muU z.1) (fun z hz => wp_mono (T_Tape_readSeen_b112 x1 (M.1 27 7) z) (fun x hx => ?_)) FUEL ((M.1 27 7), r9) mr9 (mu_fuel _)) ?_
                · rcases x with x | x
                  · exact ⟨hz.trans (hx.1.mono (fun k hk => by first | omega | exact hk.elim | (dsimp only at hk ⊢; omega))), hx.2⟩
                  · exact hz.trans (hx.mono (fun k hk => by first | omega | exact hk.elim | (dsimp only at hk ⊢; omega)))
                intro r hr
                unfold F_Tape_readSeen_j147
                refine wp_bind (T_Tape_step r) (fun r7 hr7 => ?_)
                have mr7 := (hr).trans (hr7.mono (fun k hk => by first | omega | exact hk.elim | (dsimp only at hk ⊢; omega)))
                exact wp_some mr7
              · unfold F_Tape_readSeen_l112
                refine wp_bind (Ψ := fun r => Same (fun k => k = 27 ∨ (31 ≤ k ∧ k ≤ 33)) M r) (wp_while (P := fun z => Same (fun k => k = 27 ∨ (31 ≤ k ∧ k ≤ 33)) M z.2) (μ := fun z => muU z.1) (fun z hz => wp_mono (T_Tape_readSeen_b112 x1 (M.1 27 7) z) (fun x hx => ?_)) FUEL ((M.1 27 7), r4) mr4 (mu_fuel _)) ?_
                · rcases x with x | x
                  · exact ⟨hz.trans (hx.1.mono (fun k hk => by first | omega | exact hk.elim | (dsimp only at hk ⊢; omega))), hx.2⟩
                  · exact hz.trans (hx.mono (fun k hk => by first | omega | exact hk.elim | (dsimp only at hk ⊢; omega)))
                intro r hr
                unfold F_Tape_readSeen_j147
                refine wp_bind (T_Tape_step r) (fun r7 hr7 => ?_)
                have mr7 := (hr).trans (hr7.mono (fun k hk => by first | omega | exact hk.elim | (dsimp only at hk ⊢; omega)))
                exact wp_some mr7
            · exact wp_some mr4
          · exact wp_some mr2
    · exact wp_some Same.rfl'
theorem T_Tape_readMood_b76 (x2 : Int32) (z : Int32 × Mem) : wpO (F_Tape_readMood_b76 x2 z) (fun r => (match r with | .inl s => Same (fun k => k = 27 ∨ (31 ≤ k ∧ k ≤ 33)) z.2 s.2 ∧ muU s.1 < muU z.1 | .inr r => (match r with | .inl s => Same (fun k => k = 27 ∨ (31 ≤ k ∧ k ≤ 33)) z.2 s | .inr r => Same (fun k => k = 27 ∨ (31 ≤ k ∧ k ≤ 33)) z.2 r))) := by
  unfold F_Tape_readMood_b76
  refine wp_if (fun c1 => ?_) (fun c1 => ?_)
  · exact wp_some Same.rfl'
  · refine wp_bind (T_Tape_isSign 44 z.2) (fun r6 hr6 => ?_)
    refine wp_if (fun c2 => ?_) (fun c2 => ?_)
    · refine wp_bind (T_Tape_step z.2) (fun r7 hr7 => ?_)
      have mr7 : Same (fun k => k = 27 ∨ (31 ≤ k ∧ k ≤ 33)) z.2 r7 := hr7.mono (fun k hk => by first | omega | exact hk.elim | (dsimp only at hk ⊢; omega))
      refine wp_bind (T_Tape_readSeen (x2 + 1) r7) (fun r8 hr8 => ?_)
      have mr8 := (mr7).trans (hr8.mono (fun k hk => by first | omega | exact hk.elim | (dsimp only at hk ⊢; omega)))
      refine wp_if (fun c3 => ?_) (fun c3 => ?_)
      · exact wp_some ⟨mr8, (muU_le c1)⟩
      · exact wp_some mr8
    · exact wp_some Same.rfl'
theorem T_Tape_readMood_b45 (x1 : Int32) (x2 : Int32) (z : Int32 × Mem) : wpO (F_Tape_readMood_b45 x1 x2 z) (fun r => (match r with | .inl s => Same (fun k => k = 31) z.2 s.2 ∧ muU s.1 < muU z.1 | .inr r => Same (fun k => k = 31) z.2 r)) := by
  unfold F_Tape_readMood_b45
  refine wp_if (fun c1 => ?_) (fun c1 => ?_)
  · exact wp_some Same.rfl'
  · refine wp_bind (T_Row_put 31 13 ((x2 + 1) + z.1) x1.toInt64 z.2) (fun r9 hr9 => ?_)
    have mr9 : Same (fun k => k = 31) z.2 r9 := hr9.mono (fun k hk => by first | omega | exact hk.elim | (dsimp only at hk ⊢; omega))
    exact wp_some ⟨mr9, (muU_le c1)⟩
theorem T_Tape_readMood (x1 : Int32) (M : Mem) : wpO (F_Tape_readMood x1 M) (fun r => Same (fun k => k = 27 ∨ (31 ≤ k ∧ k ≤ 33)) M r.2) := by
  unfold F_Tape_readMood
  refine wp_bind (T_Tape_isWord 0 M) (fun r1 hr1 => ?_)
  refine wp_if (fun c1 => ?_) (fun c1 => ?_)
  · refine wp_bind (T_Tape_step M) (fun r2 hr2 => ?_)
    have mr2 : Same (fun k => k = 27 ∨ (31 ≤ k ∧ k ≤ 33)) M r2 := hr2.mono (fun k hk => by first | omega | exact hk.elim | (dsimp only at hk ⊢; omega))
    refine wp_bind (T_Tape_isNumber r2) (fun r3 hr3 => ?_)
    refine wp_if (fun c2 => ?_) (fun c2 => ?_)
    · refine wp_bind (T_Row_put 31 13 (1 + (4 * x1)) ((r2.1 27 7).toInt64) r2) (fun r4 hr4 => ?_)
      have mr4 := (mr2).trans (hr4.mono (fun k hk => by first | omega | exact hk.elim | (dsimp only at hk ⊢; omega)))
      unfold F_Tape_readMood_l45
      refine wp_bind (Ψ := fun r => Same (fun k => k = 27 ∨ (31 ≤ k ∧ k ≤ 33)) M r) (wp_while (P := fun z => Same (fun k => k = 27 ∨ (31 ≤ k ∧ k ≤ 33)) M z.2) (μ := fun z => muU z.1) (fun z hz => wp_mono (T_Tape_readMood_b45 x1 (1 + (4 * x1)) z) (fun x hx => ?_)) FUEL (0, r4) mr4 (mu_fuel _)) ?_
      · rcases x with x | x
        · exact ⟨hz.trans (hx.1.mono (fun k hk => by first | omega | exact hk.elim | (dsimp only at hk ⊢; omega))), hx.2⟩
        · exact hz.trans (hx.mono (fun k hk => by first | omega | exact hk.elim | (dsimp only at hk ⊢; omega)))
      intro r hr
      unfold F_Tape_readMood_j70
      refine wp_bind (T_Tape_step r) (fun r5 hr5 => ?_)
      have mr5 := (hr).trans (hr5.mono (fun k hk => by first | omega | exact hk.elim | (dsimp only at hk ⊢; omega)))
      unfold F_Tape_readMood_l76
      refine wp_bind (Ψ := fun q => (match q with | .inl s => Same (fun k => k = 27 ∨ (31 ≤ k ∧ k ≤ 33)) M s | .inr r => Same (fun k => k = 27 ∨ (31 ≤ k ∧ k ≤ 33)) M r)) (wp_while (P := fun z => Same (fun k => k = 27 ∨ (31 ≤ k ∧ k ≤ 33)) M z.2) (μ := fun z => muU z.1) (fun z hz => wp_mono (T_Tape_readMood_b76 (1 + (4 * x1)) z) (fun x hx => ?_)) FUEL (0, r5) mr5 (mu_fuel _)) ?_
      · rcases x with x | x
        · exact ⟨hz.trans (hx.1.mono (fun k hk => by first | omega | exact hk.elim | (dsimp only at hk ⊢; omega))), hx.2⟩
        · rcases x with x | x
          · exact hz.trans (hx.mono (fun k hk => by first | omega | exact hk.elim | (dsimp only at hk ⊢; omega)))
          · exact hz.trans (hx.mono (fun k hk => by first | omega | exact hk.elim | (dsimp only at hk ⊢; omega)))
      intro q hq
      rcases q with r3 | r3
      · exact wp_some hq
      · exact wp_some hq
    · exact wp_some mr2
  · exact wp_some Same.rfl'
theorem T_Tape_firstStray_b4 (M : Mem) (z : Int32 × Int32) : wpO (F_Tape_firstStray_b4 M z) (fun r => (match r with | .inl s => muU s.2 < muU z.2 | .inr r => True)) := by
  unfold F_Tape_firstStray_b4
  refine wp_if (fun c1 => ?_) (fun c1 => ?_)
  · exact wp_some trivial
  · refine wp_bind (T_Row_small 33 3 z.2 M) (fun r1 hr1 => ?_)
    refine wp_if (fun c2 => ?_) (fun c2 => ?_)
    · exact wp_some (muU_le c1)
    · refine wp_if (fun c3 => ?_) (fun c3 => ?_)
      · exact wp_some (muU_le c1)
      · refine wp_if (fun c4 => ?_) (fun c4 => ?_)
        · exact wp_some (muU_le c1)
        · exact wp_some (muU_le c1)
theorem T_Tape_firstStray (x1 : Int32) (M : Mem) : wpO (F_Tape_firstStray x1 M) (fun r => True) := by
  unfold F_Tape_firstStray
  unfold F_Tape_firstStray_l4
  refine wp_bind (Ψ := fun r => True) (wp_while (P := fun _ => True) (μ := fun z => muU z.2) (fun z hz => wp_mono (T_Tape_firstStray_b4 M z) (fun x hx => ?_)) FUEL (((-1)), x1) trivial (mu_fuel _)) ?_
  · rcases x with x | x
    · exact ⟨trivial, hx⟩
    · trivial
  intro r hr
  exact wp_some trivial
theorem T_Tape_readWay_b31 (z : Int32 × Bool × Mem) : wpO (F_Tape_readWay_b31 z) (fun r => (match r with | .inl s => Same (fun k => k = 27 ∨ (31 ≤ k ∧ k ≤ 33)) z.2.2 s.2.2 ∧ muU s.1 < muU z.1 | .inr r => (match r with | .inl s => Same (fun k => k = 27 ∨ (31 ≤ k ∧ k ≤ 33)) z.2.2 s | .inr r => Same (fun k => k = 27 ∨ (31 ≤ k ∧ k ≤ 33)) z.2.2 r.2))) := by
  unfold F_Tape_readWay_b31
  refine wp_if (fun c1 => ?_) (fun c1 => ?_)
  · refine wp_if (fun c2 => ?_) (fun c2 => ?_)
    · exact wp_some Same.rfl'
    · refine wp_if (fun c3 => ?_) (fun c3 => ?_)
      · exact wp_some Same.rfl'
      · refine wp_bind (T_Tape_readMood z.1 z.2.2) (fun r6 hr6 => ?_)
        have mr6 : Same (fun k => k = 27 ∨ (31 ≤ k ∧ k ≤ 33)) z.2.2 r6.2 := hr6.mono (fun k hk => by first | omega | exact hk.elim | (dsimp only at hk ⊢; omega))
        refine wp_if (fun c4 => ?_) (fun c4 => ?_)
        · refine wp_bind (T_Tape_isSign 59 r6.2) (fun r7 hr7 => ?_)
          refine wp_if (fun c5 => ?_) (fun c5 => ?_)
          · refine wp_bind (T_Tape_step r6.2) (fun r8 hr8 => ?_)
            have mr8 := (mr6).trans (hr8.mono (fun k hk => by first | omega | exact hk.elim | (dsimp only at hk ⊢; omega)))
            exact wp_some ⟨mr8, (muU_nl c2 (by decide))⟩
          · exact wp_some ⟨mr6, (muU_nl c2 (by decide))⟩
        · exact wp_some mr6
  · exact wp_some Same.rfl'
theorem T_Tape_readWay (M : Mem) : wpO (F_Tape_readWay M) (fun r => Same (fun k => k = 27 ∨ (31 ≤ k ∧ k ≤ 33)) M r.2) := by
  unfold F_Tape_readWay
  refine wp_bind (T_Row_setAll 31 13 0 M) (fun r1 hr1 => ?_)
  have mr1 : Same (fun k => k = 27 ∨ (31 ≤ k ∧ k ≤ 33)) M r1 := hr1.mono (fun k hk => by first | omega | exact hk.elim | (dsimp only at hk ⊢; omega))
  refine wp_bind (T_Row_setAll 33 3 ((-1)) r1) (fun r2 hr2 => ?_)
  have mr2 := (mr1).trans (hr2.mono (fun k hk => by first | omega | exact hk.elim | (dsimp only at hk ⊢; omega)))
  refine wp_bind (T_Tape_step (mSI r2 27 6 0)) (fun r3 hr3 => ?_)
  have mr3 := (((mr2).sI (by first | omega | (dsimp only; omega)))).trans (hr3.mono (fun k hk => by first | omega | exact hk.elim | (dsimp only at hk ⊢; omega)))
  unfold F_Tape_readWay_l31
  refine wp_bind (Ψ := fun q => (match q with | .inl s => Same (fun k => k = 27 ∨ (31 ≤ k ∧ k ≤ 33)) M s | .inr r => Same (fun k => k = 27 ∨ (31 ≤ k ∧ k ≤ 33)) M r.2)) (wp_while (P := fun z => Same (fun k => k = 27 ∨ (31 ≤ k ∧ k ≤ 33)) M z.2.2) (μ := fun z => muU z.1) (fun z hz => wp_mono (T_Tape_readWay_b31  z) (fun x hx => ?_)) FUEL (0, true, r3) mr3 (mu_fuel _)) ?_
  · rcases x with x | x
    · exact ⟨hz.trans (hx.1.mono (fun k hk => by first | omega | exact hk.elim | (dsimp only at hk ⊢; omega))), hx.2⟩
    · rcases x with x | x
      · exact hz.trans (hx.mono (fun k hk => by first | omega | exact hk.elim | (dsimp only at hk ⊢; omega)))
      · exact hz.trans (hx.mono (fun k hk => by first | omega | exact hk.elim | (dsimp only at hk ⊢; omega)))
  intro q hq
  rcases q with r1 | r1
  · exact wp_some hq
  · unfold F_Tape_readWay_j79
    refine wp_bind (T_Row_put 31 13 0 r1.1.toInt64 r1.2) (fun r4 hr4 => ?_)
    have mr4 := (hq).trans (hr4.mono (fun k hk => by first | omega | exact hk.elim | (dsimp only at hk ⊢; omega)))
    refine wp_if (fun c2 => ?_) (fun c2 => ?_)
    · refine wp_bind (T_Tape_firstStray r1.1 r4) (fun r5 hr5 => ?_)
      exact wp_some mr4
    · exact wp_some mr4
