/-! ===== values: the class's fractions, the village's edges on both sides ===== -/
theorem C_common {a b : Int} (a1 : -9223372036854775808 < a) (a2 : a < 9223372036854775808) (b1 : -9223372036854775808 < b) (b2 : b < 9223372036854775808) (M : Mem) : F_Fraction_commonPart (lI a) (lI b) M = some (lI (Int.gcd a b : Int)) := by
  have l0 : (0 : Int64) = lI 0 := rfl
  have l200 : (200 : Int32) = iI 200 := rfl
  unfold F_Fraction_commonPart
  rw [N_abs a1 a2, bs, N_abs b1 b2, bs]
  unfold F_Fraction_commonPart_l15
  apply wp_of
  refine wp_bind (Ψ := fun r => r = lI (Int.gcd a b : Int)) ?_ (fun r hr => wp_some hr)
  refine wp_iterS (P := fun k z => ∃ x y : Nat, z = (lI (x : Int), lI (y : Int), iI (k : Int)) ∧ (x : Int) < 9223372036854775808 ∧ (y : Int) < 9223372036854775808 ∧ Nat.gcd x y = Int.gcd a b ∧ (k = 0 ∨ (y ≤ x ∧ x * y * 2 ^ k ≤ 2 ^ 130))) 200 ?_ _ _ ⟨a.natAbs, b.natAbs, rfl, by omega, by omega, rfl, Or.inl rfl⟩ (FUEL_big (by decide))
  rintro k z hk ⟨x, y, rfl, hx, hy, hg, hp⟩
  unfold F_Fraction_commonPart_b15
  dsimp only
  have fin : y = 0 → lI (x : Int) = lI (Int.gcd a b : Int) := by
    intro y0
    rw [y0, Nat.gcd_zero_right] at hg
    rw [hg]
  refine wp_if (fun c => wp_some (fin ?_)) (fun c => ?_)
  · rw [l200, iI_le (by omega) (by omega) (by omega) (by omega)] at c
    have k2 : k = 200 := by omega
    rcases hp with hp | ⟨hle, hp⟩
    · omega
    · rcases Nat.eq_zero_or_pos y with q | q
      · exact q
      · rcases Nat.eq_zero_or_pos x with q2 | q2
        · omega
        · exfalso
          rw [k2] at hp
          have h1 : 1 * 2 ^ 200 ≤ x * y * 2 ^ 200 := Nat.mul_le_mul_right _ (Nat.mul_pos q2 q)
          exact absurd (Nat.le_trans h1 hp) (by decide +kernel)
  · rw [l200, iI_le (by omega) (by omega) (by omega) (by omega)] at c
    refine wp_if (fun c2 => wp_some (fin ?_)) (fun c2 => wp_t c2 (wp_some ?_))
    · rw [l0, lI_eq (by omega) (by omega) (by omega) (by omega)] at c2
      omega
    · rw [l0, lI_eq (by omega) (by omega) (by omega) (by omega)] at c2
      have y1 : 0 < y := by omega
      have hlt : x % y < y := Nat.mod_lt x y1
      have e : lrm (lI (x : Int)) (lI (y : Int)) = lI ((x % y : Nat) : Int) := by
        rw [lrm_lI (by omega) (by omega) (by omega) (by omega)]
        rfl
      refine ⟨by omega, y, x % y, by rw [e, iI_succ], hy, by omega, ?_, Or.inr ⟨by omega, ?_⟩⟩
      · rw [← hg, Nat.gcd_comm x y, Nat.gcd_rec y x, Nat.gcd_comm]
      · have hd : y * (x / y) + x % y = x := Nat.div_add_mod x y
        rcases hp with rfl | ⟨hp1, hp2⟩
        · have h := Nat.mul_le_mul (show y ≤ 9223372036854775808 by omega) (show x % y ≤ 9223372036854775808 by omega)
          exact Nat.le_trans (Nat.mul_le_mul_right (2 ^ (0 + 1)) h) (by decide +kernel)
        · have h2 : y * 1 ≤ y * (x / y) := Nat.mul_le_mul_left y (Nat.div_pos hp1 y1)
          generalize x % y = r at *
          have h1 : r + r ≤ x := by omega
          have e1 : y * r * 2 ^ (k + 1) = (r + r) * y * 2 ^ k := by
            rw [Nat.pow_succ, Nat.mul_comm (2 ^ k) 2, ← Nat.mul_assoc, Nat.mul_assoc y r 2, Nat.mul_two, Nat.mul_comm y]
          rw [e1]
          exact Nat.le_trans (Nat.mul_le_mul_right _ (Nat.mul_le_mul_right y h1)) hp2
theorem C_be {b : Nat} {u d : Int} (a1 : -9223372036854775808 < u) (a2 : u < 9223372036854775808) (hd : 0 < d) (b2 : d < 9223372036854775808) (M : Mem) : F_Fraction_be b (lI u) (lI d) M = some (mSL (mSL M b 0 (lI (rU u d))) b 1 (lI (rD u d))) := by
  have l0 : (0 : Int64) = lI 0 := rfl
  obtain ⟨g1, g2, g3, g4, g5, -⟩ := rUD (a := u) hd
  have gle : (Int.gcd u d : Int) ≤ d := Int.le_of_dvd hd (Int.gcd_dvd_right u d)
  have hne : ¬ lI (Int.gcd u d : Int) = 0 := by rw [l0, lI_eq] <;> omega
  unfold F_Fraction_be
  rw [C_common a1 a2 (by omega) b2, bs, if_neg (by rw [l0, lI_le] <;> omega), if_neg hne, if_pos hne, if_pos hne, ldiv_lI (by omega) (by omega) (by omega) (by omega), ldiv_lI (by omega) (by omega) (by omega) (by omega), Int.tdiv_eq_ediv_of_dvd (Int.gcd_dvd_left u d), Int.tdiv_eq_ediv_of_dvd (Int.gcd_dvd_right u d)]
  rfl
/-- what one wants at least: cost, gain, of how many -/
def eU (c g m : Int) : Int := if g < c then if c - g < (m - 1) * g then rU (c - g) ((m - 1) * g) else 1 else 0
def eD (c g m : Int) : Int := if g < c then if c - g < (m - 1) * g then rD (c - g) ((m - 1) * g) else 1 else 1
theorem rU01 : rU 0 1 = 0 ∧ rD 0 1 = 1 ∧ rU 1 1 = 1 ∧ rD 1 1 = 1 := by decide +kernel
theorem N_edgeX {k m : Nat} {M : Mem} (h : RIW (M.1 95)) (hk : (k : Int) < (M.1 95 8).toInt) (hm : m ≤ 64) : F_MO_edgeOf (iI (k : Int)) (iI (m : Int)) M = some (mSL (mSL M 94 15 (lI (eU (M.1 95 (552 + 2 * k)).toInt (M.1 95 (553 + 2 * k)).toInt m))) 94 16 (lI (eD (M.1 95 (552 + 2 * k)).toInt (M.1 95 (553 + 2 * k)).toInt m))) := by
  have r8 := h.vilN
  obtain ⟨⟨c1, c2⟩, g1, g2⟩ := h.vil k hk
  unfold F_MO_edgeOf
  rw [e552]
  have e3 : iI ((552 + 2 * k : Nat) : Int) + 1 = iI ((553 + 2 * k : Nat) : Int) := by
    rw [l32_1, iI_add]
    congr 1
    omega
  rw [e3, if_pos (inb_iI (by omega) (by omega) (by omega)), if_pos (inb_iI (by omega) (by omega) (by omega)), clN (by omega), clN (by omega)]
  have ec : M.1 95 (552 + 2 * k) = iI ((M.1 95 (552 + 2 * k)).toInt) := (iI_of _).symm
  have eg : M.1 95 (553 + 2 * k) = iI ((M.1 95 (553 + 2 * k)).toInt) := (iI_of _).symm
  generalize (M.1 95 (552 + 2 * k)).toInt = c at *
  generalize (M.1 95 (553 + 2 * k)).toInt = g at *
  rw [ec, eg, iI_sub, l32_1, iI_sub, iI_mul]
  have hmb := mulb (a := (m : Int) - 1) (b := g) (m := 64) (n := 99) (by omega) (by omega) (by omega) (by omega)
  have l0 : (0 : Int64) = lI 0 := rfl
  have l1 : (1 : Int64) = lI 1 := rfl
  obtain ⟨q0, q1, q2, q3⟩ := rU01
  unfold eU eD
  by_cases h1 : g < c
  · rw [if_pos (by rw [iI_lt] <;> omega), if_pos h1, if_pos h1]
    by_cases h2 : c - g < (m - 1) * g
    · rw [if_pos (by rw [iI_lt] <;> omega), if_pos h2, if_pos h2, iI_l (by omega) (by omega), iI_l (by omega) (by omega), iI_l (by omega) (by omega), lI_mul, N_tells (by omega) (by omega) (by omega) (by omega), bs]
    · rw [if_neg (by rw [iI_lt] <;> omega), if_neg h2, if_neg h2, l1, N_tells (by omega) (by omega) (by omega) (by omega), bs, q2, q3]
  · rw [if_neg (by rw [iI_lt] <;> omega), if_neg h1, if_neg h1, l0, l1, N_tells (by omega) (by omega) (by omega) (by omega), bs, q0, q1]
theorem C_edgeX {o k : Nat} {m c g : Int} {M : Mem} (hc : M.2 11 k = lI c) (hg : M.2 13 k = lI g) (hk : k < 6) (c1 : 0 ≤ c) (c2 : c ≤ 999) (g1 : 1 ≤ g) (g2 : g ≤ 99) (m1 : -64 ≤ m) (m2 : m ≤ 64) : F_Bridge_tellEdge o (iI (k : Int)) (iI m) M = some (mSL (mSL M o 0 (lI (eU c g m))) o 1 (lI (eD c g m))) := by
  have l0 : (0 : Int64) = lI 0 := rfl
  have l1 : (1 : Int64) = lI 1 := rfl
  obtain ⟨q0, q1, q2, q3⟩ := rU01
  have hmb := mulb (a := m - 1) (b := g) (m := 65) (n := 99) (by omega) (by omega) (by omega) (by omega)
  unfold F_Bridge_tellEdge
  rw [V_Row_at (by omega) (by omega) (by decide), bs, V_Row_at (by omega) (by omega) (by decide), bs, bs, show ((k : Int)).toNat = k by omega, hc, hg, lI_sub, l32_1, iI_sub, iI_l (by omega) (by omega), lI_mul]
  unfold eU eD
  by_cases h1 : g < c
  · rw [if_pos (by rw [l0, lI_lt] <;> omega), if_pos h1, if_pos h1]
    by_cases h2 : c - g < (m - 1) * g
    · rw [if_pos (by rw [lI_lt] <;> omega), if_pos h2, if_pos h2, C_be (by omega) (by omega) (by omega) (by omega), bs]
    · rw [if_neg (by rw [lI_lt] <;> omega), if_neg h2, if_neg h2, l1, C_be (by omega) (by omega) (by omega) (by omega), bs, q2, q3]
  · rw [if_neg (by rw [l0, lI_lt] <;> omega), if_neg h1, if_neg h1, l0, l1, C_be (by omega) (by omega) (by omega) (by omega), bs, q0, q1]
def veOk (W : Nat → Int32) (x : Int32) : Prop := 0 ≤ x ∧ x < W 8
def veV (W : Nat → Int32) (x y : Int32) : Int32 := iI (if y = 0 then eU (W (552 + 2 * x.toInt.toNat)).toInt (W (553 + 2 * x.toInt.toNat)).toInt (W 8).toInt else eD (W (552 + 2 * x.toInt.toNat)).toInt (W (553 + 2 * x.toInt.toNat)).toInt (W 8).toInt)
theorem N_villageEdgeV {x y : Int32} {M : Mem} (h : RIW (M.1 95)) : wpO (F_MO_villageEdge x y M) (fun r => (veOk (M.1 95) x ∧ r.2.1 94 0 = 0 ∧ r.1 = veV (M.1 95) x y) ∨ (¬ veOk (M.1 95) x ∧ r.2.1 94 0 = 1)) := by
  have h0 : RIW ((mSI M 94 0 0).1 95) := h
  have r8 := h0.vilN
  have t0 : (mSI M 94 0 0).1 94 0 = 0 := mI_hit
  have e8 : (mSI M 94 0 0).1 95 8 = iI ((((mSI M 94 0 0).1 95 8).toInt.toNat : Nat) : Int) := iI_nat r8.1
  show wpO (F_MO_villageEdge x y M) (fun r => (veOk ((mSI M 94 0 0).1 95) x ∧ r.2.1 94 0 = 0 ∧ r.1 = veV ((mSI M 94 0 0).1 95) x y) ∨ (¬ veOk ((mSI M 94 0 0).1 95) x ∧ r.2.1 94 0 = 1))
  unfold F_MO_villageEdge
  refine wp_t ib8 ?_
  simp only [tn8]
  generalize mSI M 94 0 0 = N at *
  have hz : ((0 : Int32) ≤ N.1 95 8) := by rw [le_i, li0]; omega
  refine wp_within (fun q1 q2 => wp_tt ?_) (fun q => wp_ff ?_)
  · have ok : veOk (N.1 95) x := ⟨q1, (le_pred hz).mp q2⟩
    rw [le_pred hz, lt_i] at q2
    obtain ⟨k, rfl, hk⟩ := iI_of_le (n := (N.1 95 8).toInt - 1) q1 (by omega)
    unfold F_MO_villageEdge_j28
    refine wp_thr (fun q => nomatch q) (fun _ => thr_f (wp_t ib8 ?_))
    simp only [tn8]
    rw [e8, N_edgeX (k := k) (m := (N.1 95 8).toInt.toNat) h0 (by omega) (by omega), bs]
    have ek : (iI (k : Int)).toInt.toNat = k := by rw [iI_toInt (by omega) (by omega)]; omega
    have em : (((N.1 95 8).toInt.toNat : Nat) : Int) = (N.1 95 8).toInt := by omega
    refine wp_if (fun c => wp_some (Or.inl ⟨ok, t0, ?_⟩)) (fun c => wp_some (Or.inl ⟨ok, t0, ?_⟩))
    · dsimp only
      unfold veV
      rw [ek, if_pos c, mL_ix (by decide), mL_hit, lI_i, em]
    · dsimp only
      unfold veV
      rw [ek, if_neg c, mL_hit, lI_i, em]
  · unfold F_MO_villageEdge_j28
    exact wp_thr (fun _ => thr_t (wp_some (Or.inr ⟨fun o => q ⟨o.1, (le_pred hz).mpr o.2⟩, mI_hit⟩))) (fun q => nomatch q)
theorem relW.vil {F : Nat → Int32} {B C G : Nat → Int64} {W : Nat → Int32} (h : relW F B C G W) (hW : RIW W) (k : Nat) (hk : (k : Int) < (W 8).toInt) : C k = lI (W (552 + 2 * k)).toInt ∧ G k = lI (W (553 + 2 * k)).toInt := by
  obtain ⟨e1, e2⟩ := h.2.2.2.2.2.2.2.2 k hk
  obtain ⟨⟨c1, c2⟩, g1, g2⟩ := hW.vil k hk
  have lv : ∀ z : Int32, z.toInt64 = lI z.toInt := fun z => by
    have a := i_lo z
    have b := i_hi z
    rw [← iI_l a b, iI_of]
  exact ⟨e1.trans (lv _), e2.trans (lv _)⟩
theorem fin_law {v : Int32} {P : Mem} {E : String} {Φ : Int32 × Mem → Prop} (h : Φ (0, mSL P 121 0 v.toInt64)) : wpO (hbind (some (.inr v, P) : Option ((String ⊕ Int32) × Mem)) (fun E1 M1 => if E1 = E then some (((1 : Int32), M1)) else none) fun r1 M1 => if inb ((0 : Int32)) 1 then some ((0, mSL M1 121 ((0 : Int32)).toNatClampNeg r1.toInt64)) else none) Φ := by
  rw [hb_inr]
  refine wp_t ib01 (wp_some ?_)
  rw [tn0]
  exact h
theorem C_villageEdgeV {x y : Int32} {M : Mem} (h : relW (M.1 1) (M.2 3) (M.2 11) (M.2 13) (M.1 95)) (hW : RIW (M.1 95)) : wpO (F_LAW_villageEdge x y M) (fun r => (veOk (M.1 95) x ∧ r.1 = 0 ∧ r.2.2 121 0 = (veV (M.1 95) x y).toInt64) ∨ (¬ veOk (M.1 95) x ∧ r.1 = 1)) := by
  have r8 := hW.vilN
  have f8 : M.1 1 8 = M.1 95 8 := h.2.2.2.2.2.2.1
  unfold F_LAW_villageEdge F_KW_villageEdge
  rw [f8]
  by_cases c1 : x < 0
  · rw [if_pos c1, hb_inl]
    exact wp_t rfl (wp_some (Or.inr ⟨fun o => absurd c1 (n32.mpr o.1), rfl⟩))
  · rw [if_neg c1]
    have hx := n32.mp c1
    by_cases c2 : x < M.1 95 8
    · have ok : veOk (M.1 95) x := ⟨hx, c2⟩
      have c3 := c2
      rw [lt_i] at c3
      obtain ⟨k, rfl, hk⟩ := iI_of_le (n := (M.1 95 8).toInt - 1) hx (by omega)
      obtain ⟨v1, v2⟩ := h.vil hW k (by omega)
      obtain ⟨⟨w1, w2⟩, w3, w4⟩ := hW.vil k (by omega)
      have ek : (iI (k : Int)).toInt.toNat = k := by rw [iI_toInt (by omega) (by omega)]; omega
      have e8 : M.1 95 8 = iI (M.1 95 8).toInt := (iI_of _).symm
      rw [if_pos c2, e8, C_edgeX v1 v2 (by omega) w1 w2 w3 w4 (by omega) (by omega), bs]
      unfold F_Fraction_part
      by_cases c4 : y = 0
      · rw [if_pos c4, mL_ix (by decide), mL_hit, bs]
        refine fin_law (Or.inl ⟨ok, rfl, ?_⟩)
        unfold veV
        rw [mL_hit, lI_i, ek, if_pos c4]
      · rw [if_neg c4, mL_hit, bs]
        refine fin_law (Or.inl ⟨ok, rfl, ?_⟩)
        unfold veV
        rw [mL_hit, lI_i, ek, if_neg c4]
    · rw [if_neg c2, hb_inl]
      exact wp_t rfl (wp_some (Or.inr ⟨fun o => c2 o.2, rfl⟩))
theorem V_villageEdge {x y : Int32} {M : Mem} (h : RS M) : wpO (F_LAW_villageEdge x y M) (fun r1 => wpO (F_MO_villageEdge x y r1.2) (fun r2 => RS r2.2 ∧ r2.2.1 94 0 = r1.1 ∧ (r1.1 = 0 → r2.2.2 121 0 = r2.1.toInt64))) := by
  obtain ⟨r1, e1, r2, e2, rs⟩ := G_villageEdge (x1 := x) (x2 := y) h
  refine ⟨r1, e1, r2, e2, rs, ?_⟩
  have t := wpO_of (T_LAW_villageEdge x y M) e1
  have q := Q_MO_villageEdge x y r1.2 r2 e2
  have w : r1.2.1 95 = M.1 95 := funext (t 95 (by omega)).1
  have c := wpO_of (C_villageEdgeV (x := x) (y := y) h.2.1.1 h.1.1) e1
  have n := wpO_of (N_villageEdgeV (x := x) (y := y) (M := r1.2) (by rw [w]; exact h.1.1)) e2
  have o := (q 121 0 (by omega)).2
  rw [w] at n
  rcases c with ⟨a1, a2, a3⟩ | ⟨a1, a2⟩
  · rcases n with ⟨b1, b2, b3⟩ | ⟨b1, b2⟩
    · exact ⟨b2.trans a2.symm, fun _ => by rw [o, a3, b3]⟩
    · exact absurd a1 b1
  · rcases n with ⟨b1, b2, b3⟩ | ⟨b1, b2⟩
    · exact absurd b1 a1
    · exact ⟨b2.trans a2.symm, fun z => by rw [a2] at z; exact absurd z (by decide)⟩
