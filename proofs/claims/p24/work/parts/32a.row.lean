/-! ===== the class's functions: each ends without a throw of the machine's, and writes only its own cells ===== -/
def muU (x : Int32) : Nat := (2147483647 - x.toInt).toNat
def muD (x : Int32) : Nat := (x.toInt + 2147483648).toNat
theorem mu_fuel (x : Int32) : muU x < FUEL := by
  have := i_lo x
  refine FUEL_big ?_
  unfold muU
  omega
theorem muD_fuel (x : Int32) : muD x < FUEL := by
  have := i_hi x
  refine FUEL_big ?_
  unfold muD
  omega
theorem up1 {i : Int32} (h : i.toInt < 2147483647) : (i + 1).toInt = i.toInt + 1 := by
  have := i_lo i
  rw [a32] <;> rw [li1] <;> omega
theorem dn1 {i : Int32} (h : -2147483648 < i.toInt) : (i + (-1)).toInt = i.toInt - 1 := by
  have := i_hi i
  have e : (-1 : Int32).toInt = -1 := by decide
  rw [a32] <;> rw [e] <;> omega
theorem muU_lt {i n : Int32} (h : i < n) : muU (i + 1) < muU i := by
  rw [lt_i] at h
  have h1 := i_hi n
  have h2 : (i + 1).toInt = i.toInt + 1 := up1 (by omega)
  unfold muU
  omega
theorem muU_le {i n : Int32} (h : ¬ n ≤ i) : muU (i + 1) < muU i := muU_lt (m32.mp h)
theorem muU_nl {i n : Int32} (h : ¬ n < i) (hn : n ≤ 1000) : muU (i + 1) < muU i := by
  rw [lt_i] at h
  rw [le_i, show (1000 : Int32).toInt = 1000 by decide] at hn
  have h2 : (i + 1).toInt = i.toInt + 1 := up1 (by omega)
  unfold muU
  omega
theorem muD_0 {i : Int32} (h : ¬ i < 0) : muD (i + (-1)) < muD i := by
  rw [lt_i, li0] at h
  have h2 : (i + (-1)).toInt = i.toInt - 1 := dn1 (by omega)
  unfold muD
  omega
theorem muD_08 {i : Int32} (h : ¬ i < 0) : muD (i + (-8)) < muD i := by
  rw [lt_i, li0] at h
  have h1 := i_hi i
  have e : (-8 : Int32).toInt = -8 := by decide
  have h2 : (i + (-8)).toInt = i.toInt - 8 := by rw [a32] <;> rw [e] <;> omega
  unfold muD
  omega
theorem muD_x {i n : Int32} (h : ¬ i < n) (hn : -2147483648 < n) : muD (i + (-1)) < muD i := by
  rw [lt_i] at h
  rw [lt_i, show (-2147483648 : Int32).toInt = -2147483648 by decide] at hn
  have h2 : (i + (-1)).toInt = i.toInt - 1 := dn1 (by omega)
  unfold muD
  omega
theorem ne_toL {x : Int32} (h : ¬ x = 0) : ¬ x.toInt64 = 0 := by
  intro q
  apply h
  rw [← Int64.toInt_inj, Int32.toInt_toInt64] at q
  rw [← Int32.toInt_inj, q]
  decide
theorem wp_x {α β : Type} {X : Option ((String ⊕ α) × Mem)} {k : α → Mem → Option ((String ⊕ β) × Mem)} {Φ : (String ⊕ β) × Mem → Prop} {A : String → Prop} {S : Nat → Prop} {M : Mem} (h : wpO X (fun r => (∀ E, r.1 = .inl E → A E) ∧ Same S M r.2)) (hx : ∀ E M1, A E → Same S M M1 → Φ (.inl E, M1)) (hk : ∀ v M1, Same S M M1 → wpO (k v M1) Φ) : wpO (xbind X k) Φ := by
  obtain ⟨⟨r, M1⟩, h1, h2, h3⟩ := h
  rw [h1]
  cases r with
  | inl E => exact ⟨_, rfl, hx E M1 (h2 E rfl) h3⟩
  | inr v => exact hk v M1 h3
theorem nI_leN (n : Nat) : (nI n).toInt ≤ n := by
  rcases Nat.lt_or_ge n 2147483648 with h | h
  · rw [nI_toInt h]
    exact Int.le_refl _
  · have := i_hi (nI n)
    omega
theorem inb_of {i : Int32} {n : Nat} (h1 : ¬ i < 0) (h2 : i < nI n) : inb i n := by
  rw [lt_i, li0] at h1
  rw [lt_i] at h2
  have := nI_leN n
  exact inb_i (by omega) (by omega)
theorem T_Row_at (ba bn : Nat) (x : Int32) (M : Mem) : wpO (F_Row_at ba bn x M) (fun _ => True) := by
  unfold F_Row_at
  refine wp_if (fun _ => wp_some trivial) (fun c1 => wp_if (fun c2 => ?_) (fun _ => wp_some trivial))
  exact wp_t (inb_of c1 c2) (wp_some trivial)
theorem T_Row_small (ba bn : Nat) (x : Int32) (M : Mem) : wpO (F_Row_small ba bn x M) (fun _ => True) := by
  unfold F_Row_small
  refine wp_if (fun _ => wp_some trivial) (fun c1 => wp_if (fun c2 => ?_) (fun _ => wp_some trivial))
  exact wp_t (inb_of c1 c2) (wp_some trivial)
theorem T_Row_smallQ (ba bn : Nat) (x : Int32) (M : Mem) : wpO (F_Row_small ba bn x M) (fun r => r = 0 ∨ ∃ j, j < bn ∧ r = (M.2 ba j).toInt32) := by
  unfold F_Row_small
  refine wp_if (fun _ => wp_some (Or.inl rfl)) (fun c1 => wp_if (fun c2 => ?_) (fun _ => wp_some (Or.inl rfl)))
  refine wp_t (inb_of c1 c2) (wp_some (Or.inr ⟨_, ?_, rfl⟩))
  have h := inb_of c1 c2
  exact Nat.lt_of_not_le (fun q => h (Or.inr q))
theorem T_Row_put (ba bn : Nat) (x : Int32) (v : Int64) (M : Mem) : wpO (F_Row_put ba bn x v M) (fun r => Same (fun k => k = ba) M r) := by
  unfold F_Row_put
  refine wp_if (fun _ => wp_some Same.rfl') (fun c1 => wp_if (fun _ => wp_some Same.rfl') (fun c2 => ?_))
  exact wp_t (inb_of c1 (m32.mp c2)) (wp_some (Same.rfl'.sL rfl))
theorem T_Row_putQ (ba bn : Nat) (x : Int32) (v : Int64) (M : Mem) : wpO (F_Row_put ba bn x v M) (fun r => Same (fun k => k = ba) M r ∧ ∀ j, r.2 ba j = M.2 ba j ∨ r.2 ba j = v) := by
  unfold F_Row_put
  refine wp_if (fun _ => wp_some ⟨Same.rfl', fun _ => Or.inl rfl⟩) (fun c1 => wp_if (fun _ => wp_some ⟨Same.rfl', fun _ => Or.inl rfl⟩) (fun c2 => ?_))
  refine wp_t (inb_of c1 (m32.mp c2)) (wp_some ⟨Same.rfl'.sL rfl, fun j => ?_⟩)
  rw [mSL_2]
  by_cases h : ba = ba ∧ j = x.toNatClampNeg
  · exact Or.inr (if_pos h)
  · exact Or.inl (if_neg h)
theorem T_Row_add (ba bn : Nat) (x : Int32) (v : Int64) (M : Mem) : wpO (F_Row_add ba bn x v M) (fun r => Same (fun k => k = ba) M r) := by
  unfold F_Row_add
  exact wp_bind (T_Row_at _ _ _ _) (fun r1 _ => wp_bind (T_Row_put _ _ _ _ _) (fun r2 h => wp_some h))
theorem T_Row_setAllQ (ba bn : Nat) (v : Int64) (M : Mem) : wpO (F_Row_setAll ba bn v M) (fun r => Same (fun k => k = ba) M r ∧ ∀ j, j < bn → bn < 1000 → r.2 ba j = v) := by
  unfold F_Row_setAll F_Row_setAll_l2
  refine wp_bind (Ψ := fun r => Same (fun k => k = ba) M r ∧ ∀ j, j < bn → bn < 1000 → r.2 ba j = v) (wp_while (P := fun z => 0 ≤ z.1.toInt ∧ Same (fun k => k = ba) M z.2 ∧ ∀ j : Nat, (j : Int) < z.1.toInt → z.2.2 ba j = v) (μ := fun z => muU z.1) (fun z hz => ?_) FUEL (0, M) ⟨show (0 : Int) ≤ (0 : Int32).toInt by decide, Same.rfl', fun j hj => absurd hj (by rw [li0]; omega)⟩ (mu_fuel _)) (fun r hr => wp_some hr)
  obtain ⟨h0, h1, h2⟩ := hz
  unfold F_Row_setAll_b2
  refine wp_if (fun c1 => wp_some ⟨h1, fun j hj hb => h2 j ?_⟩) (fun c1 => ?_)
  · rw [le_i, nI_toInt (by omega)] at c1
    omega
  · have c2 := m32.mp c1
    have hb : inb z.1 bn := inb_of (by rw [lt_i, li0]; omega) c2
    have c3 := c2
    rw [lt_i] at c3
    have := nI_leN bn
    have := i_hi (nI bn)
    have e1 : (z.1 + 1).toInt = z.1.toInt + 1 := up1 (by omega)
    refine wp_t hb (wp_some ⟨⟨?_, h1.sL rfl, fun j hj => ?_⟩, muU_lt c2⟩)
    · show 0 ≤ (z.1 + 1).toInt
      omega
    · show (mSL z.2 ba z.1.toNatClampNeg v).2 ba j = v
      have hj2 : (j : Int) < (z.1 + 1).toInt := hj
      rw [mSL_2, clamp_i]
      by_cases q : j = z.1.toInt.toNat
      · rw [if_pos ⟨rfl, q⟩]
      · rw [if_neg (fun w => q w.2)]
        exact h2 j (by omega)
theorem T_Row_setAll (ba bn : Nat) (v : Int64) (M : Mem) : wpO (F_Row_setAll ba bn v M) (fun r => Same (fun k => k = ba) M r) := wp_mono (T_Row_setAllQ ba bn v M) (fun _ h => h.1)
theorem T_Row_takeFromQ (ba bn oa on : Nat) (M : Mem) (hne : ba ≠ oa) : wpO (F_Row_takeFrom ba bn oa on M) (fun r => Same (fun k => k = ba) M r ∧ ∀ j, j < bn → bn < 1000 → on = bn → r.2 ba j = M.2 oa j) := by
  unfold F_Row_takeFrom F_Row_takeFrom_l2
  refine wp_bind (Ψ := fun r => Same (fun k => k = ba) M r ∧ ∀ j, j < bn → bn < 1000 → on = bn → r.2 ba j = M.2 oa j) (wp_while (P := fun z => 0 ≤ z.1.toInt ∧ Same (fun k => k = ba) M z.2 ∧ (bn < 1000 → on = bn → ∀ j : Nat, (j : Int) < z.1.toInt → z.2.2 ba j = M.2 oa j)) (μ := fun z => muU z.1) (fun z hz => ?_) FUEL (0, M) ⟨show (0 : Int) ≤ (0 : Int32).toInt by decide, Same.rfl', fun _ _ j hj => absurd hj (by rw [li0]; omega)⟩ (mu_fuel _)) (fun r hr => wp_some hr)
  obtain ⟨h0, h1, h2⟩ := hz
  unfold F_Row_takeFrom_b2
  refine wp_if (fun c1 => wp_some ⟨h1, fun j hj hb ho => h2 hb ho j ?_⟩) (fun c1 => ?_)
  · rw [le_i, nI_toInt (by omega)] at c1
    omega
  · have c2 := m32.mp c1
    have hb : inb z.1 bn := inb_of (by rw [lt_i, li0]; omega) c2
    have c3 := c2
    rw [lt_i] at c3
    have hle := nI_leN bn
    have := i_hi (nI bn)
    have e1 : (z.1 + 1).toInt = z.1.toInt + 1 := up1 (by omega)
    have hat : wpO (F_Row_at oa on z.1 z.2) (fun r => bn < 1000 → on = bn → r = M.2 oa z.1.toInt.toNat) := by
      obtain ⟨r, hr, -⟩ := T_Row_at oa on z.1 z.2
      refine ⟨r, hr, fun hb ho => ?_⟩
      have h9 := R_at (a := oa) (n := on) (i := z.1) (M := z.2) h0 (by omega) (by omega)
      rw [hr] at h9
      rw [Option.some.inj h9, (h1 oa (fun q => hne q.symm)).2]
    refine wp_bind hat (fun r1 hr1 => wp_t hb (wp_some ⟨⟨?_, h1.sL rfl, fun hb ho j hj => ?_⟩, muU_lt c2⟩))
    · show 0 ≤ (z.1 + 1).toInt
      omega
    · show (mSL z.2 ba z.1.toNatClampNeg r1).2 ba j = _
      have hj2 : (j : Int) < (z.1 + 1).toInt := hj
      rw [mSL_2, clamp_i]
      by_cases q : j = z.1.toInt.toNat
      · rw [if_pos ⟨rfl, q⟩, hr1 hb ho, q]
      · rw [if_neg (fun w => q w.2)]
        exact h2 hb ho j (by omega)
theorem T_Row_takeFrom (ba bn oa on : Nat) (M : Mem) : wpO (F_Row_takeFrom ba bn oa on M) (fun r => Same (fun k => k = ba) M r) := by
  unfold F_Row_takeFrom F_Row_takeFrom_l2
  refine wp_bind (Ψ := fun r => Same (fun k => k = ba) M r) (wp_while (P := fun z => 0 ≤ z.1.toInt ∧ Same (fun k => k = ba) M z.2) (μ := fun z => muU z.1) (fun z hz => ?_) FUEL (0, M) ⟨show (0 : Int) ≤ (0 : Int32).toInt by decide, Same.rfl'⟩ (mu_fuel _)) (fun r hr => wp_some hr)
  obtain ⟨h0, h1⟩ := hz
  unfold F_Row_takeFrom_b2
  refine wp_if (fun c1 => wp_some h1) (fun c1 => ?_)
  have c2 := m32.mp c1
  have hb : inb z.1 bn := inb_of (by rw [lt_i, li0]; omega) c2
  have c3 := c2
  rw [lt_i] at c3
  have := i_hi (nI bn)
  have e1 : (z.1 + 1).toInt = z.1.toInt + 1 := up1 (by omega)
  refine wp_bind (T_Row_at _ _ _ _) (fun r1 _ => wp_t hb (wp_some ⟨⟨?_, h1.sL rfl⟩, muU_lt c2⟩))
  show 0 ≤ (z.1 + 1).toInt
  omega
def muT6 (z : Mem) : Nat := ((z.1 27 1).toInt - (z.1 27 6).toInt).toNat
def muT5 (z : Mem) : Nat := ((z.1 27 1).toInt - (z.1 27 5).toInt).toNat
theorem muT6_f (z : Mem) : muT6 z < FUEL := by
  have := i_hi (z.1 27 1)
  have := i_lo (z.1 27 6)
  refine FUEL_big ?_
  unfold muT6
  omega
theorem muT5_f (z : Mem) : muT5 z < FUEL := by
  have := i_hi (z.1 27 1)
  have := i_lo (z.1 27 5)
  refine FUEL_big ?_
  unfold muT5
  omega
theorem muT6_s {z : Mem} (h : ¬ z.1 27 1 ≤ z.1 27 6) : muT6 (mSI z 27 6 (z.1 27 6 + 1)) < muT6 z := by
  rw [le_i] at h
  have := i_hi (z.1 27 1)
  have e1 : (z.1 27 6 + 1).toInt = (z.1 27 6).toInt + 1 := up1 (by omega)
  unfold muT6
  rw [mI_ix (show (1 : Nat) ≠ 6 by decide), mI_hit, e1]
  omega
theorem muT5_s {z : Mem} (h : ¬ z.1 27 1 ≤ z.1 27 5) : muT5 (mSI z 27 5 (z.1 27 5 + 1)) < muT5 z := by
  rw [le_i] at h
  have := i_hi (z.1 27 1)
  have e1 : (z.1 27 5 + 1).toInt = (z.1 27 5).toInt + 1 := up1 (by omega)
  unfold muT5
  rw [mI_ix (show (1 : Nat) ≠ 5 by decide), mI_hit, e1]
  omega
theorem wp_h {α β : Type} {X : Option ((String ⊕ α) × Mem)} {hx : String → Mem → Option β} {k : α → Mem → Option β} {Φ : β → Prop} {A : String → Prop} {S : Nat → Prop} {M : Mem} (h : wpO X (fun r => (∀ E, r.1 = .inl E → A E) ∧ Same S M r.2)) (he : ∀ E M1, A E → Same S M M1 → wpO (hx E M1) Φ) (hk : ∀ v M1, Same S M M1 → wpO (k v M1) Φ) : wpO (hbind X hx k) Φ := by
  obtain ⟨⟨r, M1⟩, h1, h2, h3⟩ := h
  rw [h1]
  cases r with
  | inl E => exact he E M1 (h2 E rfl) h3
  | inr v => exact hk v M1 h3

theorem T_Math_abs (x0 : Int64) (M : Mem) : wpO (F_Math_abs x0 M) (fun r => True) := by
  unfold F_Math_abs
  refine wp_if (fun c1 => ?_) (fun c1 => ?_)
  · exact wp_some trivial
  · exact wp_some trivial
