/-! ===== the reference's fractions: common, tells, floorDiv, compared ===== -/
theorem N_abs {a : Int} (h1 : -9223372036854775808 < a) (h2 : a < 9223372036854775808) (M : Mem) : F_Math_abs (lI a) M = some (lI (a.natAbs : Int)) := by
  have l0 : (0 : Int64) = lI 0 := rfl
  unfold F_Math_abs
  by_cases h : 0 ≤ a
  · rw [if_pos (by rw [l0, lI_le] <;> omega)]
    congr 2
    omega
  · rw [if_neg (by rw [l0, lI_le] <;> omega), lI_neg]
    congr 2
    omega
theorem N_common {a b : Int} (a1 : -9223372036854775808 < a) (a2 : a < 9223372036854775808) (b1 : -9223372036854775808 < b) (b2 : b < 9223372036854775808) (M : Mem) : F_MO_common (lI a) (lI b) M = some (lI (Int.gcd a b : Int)) := by
  have l0 : (0 : Int64) = lI 0 := rfl
  unfold F_MO_common
  rw [N_abs a1 a2, bs, N_abs b1 b2, bs]
  unfold F_MO_common_l12
  apply wp_of
  refine wp_bind (Ψ := fun r => r = lI (Int.gcd a b : Int)) ?_ (fun r hr => wp_some hr)
  refine wp_while (P := fun z => ∃ x y : Nat, z = (lI (x : Int), lI (y : Int)) ∧ (x : Int) < 9223372036854775808 ∧ (y : Int) < 9223372036854775808 ∧ Nat.gcd x y = Int.gcd a b) (μ := fun z => z.2.toInt.toNat) ?_ FUEL _ ⟨a.natAbs, b.natAbs, rfl, by omega, by omega, rfl⟩ (FUEL_big (by
    have := l_hi (lI (b.natAbs : Int))
    dsimp only
    omega))
  rintro z ⟨x, y, rfl, hx, hy, hg⟩
  unfold F_MO_common_b12
  dsimp only
  by_cases h : y = 0
  · refine wp_t (by rw [l0, lI_le] <;> omega) (wp_some ?_)
    subst h
    rw [Nat.gcd_zero_right] at hg
    rw [hg]
  · refine wp_f (by rw [l0, lI_le] <;> omega) (wp_t (by rw [l0, lI_eq] <;> omega) (wp_some ?_))
    have hlt : x % y < y := Nat.mod_lt x (by omega)
    have e : lrm (lI (x : Int)) (lI (y : Int)) = lI ((x % y : Nat) : Int) := by
      rw [lrm_lI (by omega) (by omega) (by omega) (by omega)]
      rfl
    refine ⟨⟨y, x % y, by rw [e], hy, by omega, ?_⟩, ?_⟩
    · rw [← hg, Nat.gcd_comm x y, Nat.gcd_rec y x, Nat.gcd_comm]
    · rw [e, lI_toInt (by omega) (by omega), lI_toInt (by omega) (by omega)]
      omega
/-- a fraction without a common part -/
def rU (a b : Int) : Int := a / (Int.gcd a b : Int)
def rD (a b : Int) : Int := b / (Int.gcd a b : Int)
theorem rUD {a b : Int} (hb : 0 < b) : 0 < (Int.gcd a b : Int) ∧ rU a b * (Int.gcd a b : Int) = a ∧ rD a b * (Int.gcd a b : Int) = b ∧ 0 < rD a b ∧ rD a b ≤ b ∧ Int.gcd (rU a b) (rD a b) = 1 := by
  have hg : 0 < Int.gcd a b := Int.gcd_pos_of_ne_zero_right a (by omega)
  have h2 : rD a b * (Int.gcd a b : Int) = b := Int.ediv_mul_cancel (Int.gcd_dvd_right a b)
  have h3 : 0 < rD a b := by
    rcases Int.lt_trichotomy (rD a b) 0 with h | h | h
    · have := Int.mul_neg_of_neg_of_pos h (show (0 : Int) < (Int.gcd a b : Int) by omega)
      omega
    · rw [h] at h2
      omega
    · exact h
  refine ⟨by omega, Int.ediv_mul_cancel (Int.gcd_dvd_left a b), h2, h3, ?_, Int.gcd_ediv_gcd_ediv_gcd hg⟩
  have h4 : rD a b * 1 ≤ rD a b * (Int.gcd a b : Int) := Int.mul_le_mul_of_nonneg_left (by omega) (by omega)
  omega
theorem rU_le {a b : Int} (hb : 0 < b) : (rU a b).natAbs ≤ a.natAbs := Int.natAbs_ediv_le_natAbs a _
theorem N_tells {a b : Int} (a1 : -9223372036854775808 < a) (a2 : a < 9223372036854775808) (hb : 0 < b) (b2 : b < 9223372036854775808) (M : Mem) : F_MO_tells (lI a) (lI b) M = some (mSL (mSL M 94 15 (lI (rU a b))) 94 16 (lI (rD a b))) := by
  have l0 : (0 : Int64) = lI 0 := rfl
  have l1 : (1 : Int64) = lI 1 := rfl
  obtain ⟨g1, g2, g3, g4, g5, -⟩ := rUD (a := a) hb
  have gle : (Int.gcd a b : Int) ≤ b := Int.le_of_dvd hb (Int.gcd_dvd_right a b)
  unfold F_MO_tells
  rw [if_pos (by rw [l0, lI_le] <;> omega)]
  unfold F_MO_tells_j13
  rw [N_common a1 a2 (by omega) b2, bs]
  have e : lI (Int.gcd a b : Int) * 1 = lI (Int.gcd a b : Int) := by rw [l1, lI_mul, Int.mul_one]
  have hne : ¬ lI (Int.gcd a b : Int) = 0 := by rw [l0, lI_eq] <;> omega
  rw [e, if_pos hne, if_pos hne, ldiv_lI (by omega) (by omega) (by omega) (by omega), ldiv_lI (by omega) (by omega) (by omega) (by omega), Int.tdiv_eq_ediv_of_dvd (Int.gcd_dvd_left a b), Int.tdiv_eq_ediv_of_dvd (Int.gcd_dvd_right a b)]
  rfl
theorem lmsb (x : Int64) : x.toBitVec.msb = decide (x.toInt < 0) := BitVec.msb_eq_toInt
theorem lxor_nn {a b : Int} (a1 : -9223372036854775808 ≤ a) (a2 : a < 9223372036854775808) (hb : 0 < b) (b2 : b < 9223372036854775808) : 0 ≤ (lI a ^^^ lI b) ↔ 0 ≤ a := by
  have h : (lI a ^^^ lI b).toBitVec.msb = decide (a < 0) := by
    rw [Int64.toBitVec_xor, BitVec.msb_xor, lmsb, lmsb, lI_toInt a1 a2, lI_toInt (by omega) b2, decide_eq_false (show ¬ b < 0 by omega), Bool.xor_false]
  rw [lmsb] at h
  have h0 : (0 : Int64).toInt = 0 := by decide
  rw [le_l, h0]
  by_cases hq : a < 0
  · rw [decide_eq_true hq] at h
    have := of_decide_eq_true h
    omega
  · rw [decide_eq_false hq] at h
    have := of_decide_eq_false h
    omega
theorem N_floorDiv {a b : Int} (a1 : -9223372036854775808 < a) (a2 : a < 9223372036854775808) (hb : 0 < b) (b2 : b < 9223372036854775808) (M : Mem) : F_Math_floorDiv (lI a) (lI b) M = some (lI (a / b)) := by
  have l0 : (0 : Int64) = lI 0 := rfl
  have l1 : (1 : Int64) = lI 1 := rfl
  unfold F_Math_floorDiv
  rw [if_pos (by rw [l0, lI_eq] <;> omega)]
  have h5 : (a.tdiv b).natAbs ≤ a.natAbs := by rw [Int.natAbs_tdiv]; exact Nat.div_le_self _ _
  by_cases h : 0 ≤ a
  · rw [if_pos ((lxor_nn (by omega) a2 hb b2).mpr h), ldiv_lI (by omega) (by omega) (by omega) (by omega), Int.tdiv_eq_ediv_of_nonneg h]
  · rw [if_neg (fun q => h ((lxor_nn (by omega) a2 hb b2).mp q)), ldiv_lI (by omega) (by omega) (by omega) (by omega), lI_mul]
    have hm := Int.mul_tdiv_add_tmod a b
    have hm2 : a.tdiv b * b = a - a.tmod b := by
      rw [Int.mul_comm]
      omega
    have hlo : -b < a.tmod b ∧ a.tmod b ≤ 0 := by
      have h1 := Int.tmod_nonneg (a := -a) b (by omega)
      rw [Int.neg_tmod] at h1
      exact ⟨Int.lt_tmod_of_pos a hb, by omega⟩
    have hmul : (a.tdiv b * b).natAbs ≤ a.natAbs := by
      rw [Int.natAbs_mul, Int.natAbs_tdiv]
      exact Nat.div_mul_le_self _ _
    by_cases hz : a.tmod b = 0
    · rw [if_pos (by rw [lI_eq] <;> omega)]
      have hd : b ∣ a := Int.dvd_of_tmod_eq_zero hz
      rw [Int.tdiv_eq_ediv_of_dvd hd]
    · rw [if_neg (by rw [lI_eq] <;> omega), l1, lI_sub]
      have hu := (Int.ediv_emod_unique (a := a) (b := b) (r := a.tmod b + b) (q := a.tdiv b - 1) hb).mpr ⟨by
        have : b * (a.tdiv b - 1) = b * a.tdiv b - b := by rw [Int.mul_sub, Int.mul_one]
        omega, by omega, by omega⟩
      rw [hu.1]
/-- how two fractions stand: the sign of the difference -/
theorem sgn_of {n : Int} : (0 < n → Int.sign n = 1) ∧ (n < 0 → Int.sign n = -1) ∧ (n = 0 → Int.sign n = 0) := ⟨Int.sign_eq_one_of_pos, Int.sign_eq_neg_one_of_neg, fun h => by rw [h]; rfl⟩
theorem N_compared {a b c d : Int} (a1 : -4611686018427387904 < a) (a2 : a < 4611686018427387904) (hb : 0 < b) (b2 : b < 4611686018427387904) (c1 : -4611686018427387904 < c) (c2 : c < 4611686018427387904) (hd : 0 < d) (d2 : d < 4611686018427387904) (M : Mem) : F_MO_compared (lI a) (lI b) (lI c) (lI d) M = some (iI (Int.sign (a * d - c * b))) := by
  have l0 : (0 : Int64) = lI 0 := rfl
  unfold F_MO_compared F_MO_compared_l17
  apply wp_of
  refine wp_bind (Ψ := fun q => match q with | .inl r => ∃ t x y : Int, r = (iI t, lI x, lI y) ∧ (t = 1 ∨ t = -1) ∧ x ≠ y ∧ (-9223372036854775808 ≤ x ∧ x < 9223372036854775808) ∧ (-9223372036854775808 ≤ y ∧ y < 9223372036854775808) ∧ Int.sign (a * d - c * b) = (if x < y then -t else t) | .inr r => ∃ t x y : Int, r = (iI t, lI x, lI y) ∧ (t = 1 ∨ t = -1) ∧ (0 ≤ x ∧ x < 9223372036854775808) ∧ (0 ≤ y ∧ y < 9223372036854775808) ∧ Int.sign (a * d - c * b) = (if x = y then 0 else if x = 0 then -t else t)) ?_ ?_
  · refine wp_while (P := fun z => ∃ a' b' c' d' t : Int, z = (lI a', lI b', lI c', lI d', iI t) ∧ (-4611686018427387904 < a' ∧ a' < 4611686018427387904) ∧ (0 < b' ∧ b' < 4611686018427387904) ∧ (-4611686018427387904 < c' ∧ c' < 4611686018427387904) ∧ (0 < d' ∧ d' < 4611686018427387904) ∧ (t = 1 ∨ t = -1) ∧ Int.sign (a * d - c * b) = t * Int.sign (a' * d' - c' * b')) (μ := fun z => z.2.1.toInt.toNat) ?_ FUEL _ ⟨a, b, c, d, 1, rfl, ⟨a1, a2⟩, ⟨hb, b2⟩, ⟨c1, c2⟩, ⟨hd, d2⟩, Or.inl rfl, by rw [Int.one_mul]⟩ (FUEL_big (by
      have := l_hi (lI b)
      dsimp only
      omega))
    rintro z ⟨a', b', c', d', t, rfl, ⟨p1, p2⟩, ⟨q1, q2⟩, ⟨r1, r2⟩, ⟨s1, s2⟩, ht, hs⟩
    unfold F_MO_compared_b17
    dsimp only
    rw [N_floorDiv (by omega) (by omega) q1 (by omega), bs, N_floorDiv (by omega) (by omega) s1 (by omega), bs]
    have ex := Int.mul_ediv_add_emod a' b'
    have ey := Int.mul_ediv_add_emod c' d'
    have rx := Int.emod_nonneg a' (b := b') (by omega)
    have rx2 := Int.emod_lt_of_pos a' q1
    have ry := Int.emod_nonneg c' (b := d') (by omega)
    have ry2 := Int.emod_lt_of_pos c' s1
    have nx := Int.natAbs_ediv_le_natAbs a' b'
    have ny := Int.natAbs_ediv_le_natAbs c' d'
    generalize hx : a' / b' = x at *
    generalize hy : c' / d' = y at *
    generalize hr : a' % b' = r at *
    generalize hw : c' % d' = w at *
    have e1 : lI a' - lI x * lI b' = lI r := by
      rw [lI_mul, lI_sub]
      congr 1
      rw [Int.mul_comm]
      omega
    have e2 : lI c' - lI y * lI d' = lI w := by
      rw [lI_mul, lI_sub]
      congr 1
      rw [Int.mul_comm]
      omega
    have key : a' * d' - c' * b' = (x - y) * (b' * d') + (r * d' - w * b') := by
      rw [← ex, ← ey]
      grind
    have hbd : 0 < b' * d' := Int.mul_pos q1 s1
    have k1 : r * d' < b' * d' := Int.mul_lt_mul_of_pos_right rx2 s1
    have k2 : 0 ≤ r * d' := Int.mul_nonneg rx (by omega)
    have k3 : w * b' < b' * d' := by
      rw [Int.mul_comm b' d']
      exact Int.mul_lt_mul_of_pos_right ry2 q1
    have k4 : 0 ≤ w * b' := Int.mul_nonneg ry (by omega)
    rw [e1, e2]
    by_cases hxy : x = y
    · refine wp_t (by rw [hxy]) ?_
      rw [hxy, Int.sub_self, Int.zero_mul, Int.zero_add] at key
      by_cases hr0 : r = 0
      · refine wp_t (by rw [hr0]; rfl) (wp_some ⟨t, r, w, rfl, ht, ⟨rx, by omega⟩, ⟨ry, by omega⟩, ?_⟩)
        rw [hs, key, hr0, Int.zero_mul, Int.zero_sub]
        by_cases hw0 : w = 0
        · rw [if_pos hw0.symm, hw0, Int.zero_mul]
          rcases ht with rfl | rfl <;> rfl
        · have h5 : 0 < w * b' := Int.mul_pos (by omega) q1
          rw [if_neg (fun q => hw0 q.symm), if_pos rfl, sgn_of.2.1 (by omega)]
          omega
      · refine wp_f (by rw [l0, lI_eq] <;> omega) ?_
        have h6 : 0 < r * d' := Int.mul_pos (by omega) s1
        by_cases hw0 : w = 0
        · refine wp_t (by rw [hw0]; rfl) (wp_some ⟨t, r, w, rfl, ht, ⟨rx, by omega⟩, ⟨ry, by omega⟩, ?_⟩)
          rw [hs, key, hw0, Int.zero_mul, if_neg hr0, if_neg hr0, sgn_of.1 (by omega)]
          omega
        · refine wp_f (by rw [l0, lI_eq] <;> omega) (wp_some ⟨⟨b', r, d', w, -t, by rw [iI_neg], ⟨by omega, q2⟩, ⟨by omega, by omega⟩, ⟨by omega, s2⟩, ⟨by omega, by omega⟩, by omega, ?_⟩, ?_⟩)
          · have e7 : b' * w - d' * r = -(r * d' - w * b') := by
              rw [Int.mul_comm b' w, Int.mul_comm d' r]
              omega
            rw [hs, key, e7, Int.sign_neg, Int.neg_mul_neg]
          · dsimp only
            rw [lI_toInt (by omega) (by omega), lI_toInt (by omega) (by omega)]
            omega
    · refine wp_f (by rw [lI_eq] <;> omega) (wp_some ⟨t, x, y, rfl, ht, hxy, ⟨by omega, by omega⟩, ⟨by omega, by omega⟩, ?_⟩)
      rw [hs, key]
      by_cases hlt : x < y
      · have h7 : (x - y) * (b' * d') ≤ (-1) * (b' * d') := Int.mul_le_mul_of_nonneg_right (by omega) (by omega)
        rw [if_pos hlt, sgn_of.2.1 (by omega)]
        omega
      · have h7 : 1 * (b' * d') ≤ (x - y) * (b' * d') := Int.mul_le_mul_of_nonneg_right (by omega) (by omega)
        rw [if_neg hlt, sgn_of.1 (by omega)]
        omega
  · intro q hq
    rcases q with q | q
    · obtain ⟨t, x, y, rfl, ht, hne, hx, hy, hs⟩ := hq
      show wpO (F_MO_compared_j43 (iI t) (lI x) (lI y) M) _
      unfold F_MO_compared_j43
      by_cases hlt : x < y
      · refine wp_f (by rw [lI_le] <;> omega) (wp_some ?_)
        rw [hs, if_pos hlt, iI_neg]
      · refine wp_t (by rw [lI_le] <;> omega) (wp_some ?_)
        rw [hs, if_neg hlt]
    · obtain ⟨t, x, y, rfl, ht, hx, hy, hs⟩ := hq
      show wpO (F_MO_compared_j94 (iI t) (lI x) (lI y) M) _
      unfold F_MO_compared_j94
      by_cases he : x = y
      · refine wp_t (by rw [he]) (wp_some ?_)
        rw [hs, if_pos he]
        rfl
      · refine wp_f (by rw [lI_eq] <;> omega) ?_
        by_cases h0 : x = 0
        · refine wp_t (by rw [h0]; rfl) (wp_some ?_)
          rw [hs, if_neg he, if_pos h0, iI_neg]
        · refine wp_f (by rw [l0, lI_eq] <;> omega) (wp_some ?_)
          rw [hs, if_neg he, if_neg h0]
