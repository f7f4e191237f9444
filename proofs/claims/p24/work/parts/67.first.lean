/-! ===== how fractions stand, on the class's side; who gains; the first ===== -/
theorem C_order {a b c d : Int} (a1 : -4611686018427387904 < a) (a2 : a < 4611686018427387904) (hb : 0 < b) (b2 : b < 4611686018427387904) (c1 : -4611686018427387904 < c) (c2 : c < 4611686018427387904) (hd : 0 < d) (d2 : d < 4611686018427387904) (M : Mem) : F_Fraction_order (lI a) (lI b) (lI c) (lI d) M = some (iI (Int.sign (a * d - c * b))) := by
  have l0 : (0 : Int64) = lI 0 := rfl
  have l200 : (200 : Int32) = iI 200 := rfl
  unfold F_Fraction_order F_Fraction_order_l20
  apply wp_of
  refine wp_bind (Ψ := fun q => match q with | .inl _ => False | .inr (.inl r) => ∃ t x y : Int, r = (iI t, lI x, lI y) ∧ (t = 1 ∨ t = -1) ∧ x ≠ y ∧ (-9223372036854775808 ≤ x ∧ x < 9223372036854775808) ∧ (-9223372036854775808 ≤ y ∧ y < 9223372036854775808) ∧ Int.sign (a * d - c * b) = (if x < y then -t else t) | .inr (.inr (.inl r)) => ∃ t x y : Int, r = (iI t, lI x, lI y) ∧ (t = 1 ∨ t = -1) ∧ (0 ≤ x ∧ x < 9223372036854775808) ∧ (0 ≤ y ∧ y < 9223372036854775808) ∧ Int.sign (a * d - c * b) = (if x = y then 0 else if x = 0 then -t else t) | .inr (.inr (.inr _)) => False) ?_ ?_
  · refine wp_iterS (P := fun (k : Nat) (z : Int64 × Int64 × Int64 × Int64 × Int32 × Int32) => ∃ a' b' c' d' t : Int, z = (lI a', lI b', lI c', lI d', iI t, iI (k : Int)) ∧ (-4611686018427387904 < a' ∧ a' < 4611686018427387904) ∧ (0 < b' ∧ b' < 4611686018427387904) ∧ (-4611686018427387904 < c' ∧ c' < 4611686018427387904) ∧ (0 < d' ∧ d' < 4611686018427387904) ∧ (t = 1 ∨ t = -1) ∧ Int.sign (a * d - c * b) = t * Int.sign (a' * d' - c' * b') ∧ (k = 0 ∨ (b' ≤ a' ∧ a' * b' * 2 ^ k ≤ 2 ^ 130))) 200 ?_ FUEL (lI a, lI b, lI c, lI d, 1, 0) ⟨a, b, c, d, 1, rfl, ⟨a1, a2⟩, ⟨hb, b2⟩, ⟨c1, c2⟩, ⟨hd, d2⟩, Or.inl rfl, by rw [Int.one_mul], Or.inl rfl⟩ (FUEL_big (by decide))
    rintro k z hk ⟨a', b', c', d', t, rfl, ⟨p1, p2⟩, ⟨q1, q2⟩, ⟨r1, r2⟩, ⟨s1, s2⟩, ht, hs, hm⟩
    have k200 : k ≠ 200 := fun w => by
      rcases hm with hm | ⟨hm1, hm2⟩
      · omega
      · rw [w] at hm2
        have h1 : 1 * 2 ^ 200 ≤ a' * b' * (2 : Int) ^ 200 := Int.mul_le_mul_of_nonneg_right (by have := Int.mul_pos (show 0 < a' by omega) q1; omega) (by decide +kernel)
        exact absurd (Int.le_trans h1 hm2) (by decide +kernel)
    unfold F_Fraction_order_b20
    dsimp only
    refine wp_f (by rw [l200, iI_le (by omega) (by omega) (by omega) (by omega)]; omega) ?_
    refine wp_f (by rw [l0, lI_le (by omega) (by omega) (by omega) (by omega)]; omega) ?_
    refine wp_t (by rw [l0, lI_lt (by omega) (by omega) (by omega) (by omega)]; omega) ?_
    rw [N_floorDiv (by omega) (by omega) q1 (by omega), bs, N_floorDiv (by omega) (by omega) s1 (by omega), bs]
    have ex := Int.mul_ediv_add_emod a' b'
    have ey := Int.mul_ediv_add_emod c' d'
    have rx := Int.emod_nonneg a' (b := b') (by omega)
    have rx2 := Int.emod_lt_of_pos a' q1
    have ry := Int.emod_nonneg c' (b := d') (by omega)
    have ry2 := Int.emod_lt_of_pos c' s1
    have nx := Int.natAbs_ediv_le_natAbs a' b'
    have ny := Int.natAbs_ediv_le_natAbs c' d'
    have hx1 : b' ≤ a' → 1 ≤ a' / b' := fun w => (Int.le_ediv_iff_mul_le q1).mpr (by omega)
    generalize hx : a' / b' = x at *
    generalize hy : c' / d' = y at *
    generalize hr : a' % b' = r at *
    generalize hw : c' % d' = w at *
    have e1 : lI a' - lI x * lI b' = lI r := by
      rw [lI_mul, lI_sub]
      congr 1
      rw [Int.mul_comm]
      omega
    have e2 : lI c' - lI y * lI d' = lI w := by
      rw [lI_mul, lI_sub]
      congr 1
      rw [Int.mul_comm]
      omega
    have key : a' * d' - c' * b' = (x - y) * (b' * d') + (r * d' - w * b') := by
      rw [← ex, ← ey]
      grind
    have hbd : 0 < b' * d' := Int.mul_pos q1 s1
    have k1 : r * d' < b' * d' := Int.mul_lt_mul_of_pos_right rx2 s1
    have k2 : 0 ≤ r * d' := Int.mul_nonneg rx (by omega)
    have k3 : w * b' < b' * d' := by
      rw [Int.mul_comm b' d']
      exact Int.mul_lt_mul_of_pos_right ry2 q1
    have k4 : 0 ≤ w * b' := Int.mul_nonneg ry (by omega)
    rw [e1, e2]
    by_cases hxy : x = y
    · refine wp_t (by rw [hxy]) ?_
      rw [hxy, Int.sub_self, Int.zero_mul, Int.zero_add] at key
      by_cases hr0 : r = 0
      · refine wp_t (by rw [hr0]; rfl) (wp_some ⟨t, r, w, rfl, ht, ⟨rx, by omega⟩, ⟨ry, by omega⟩, ?_⟩)
        rw [hs, key, hr0, Int.zero_mul, Int.zero_sub]
        by_cases hw0 : w = 0
        · rw [if_pos hw0.symm, hw0, Int.zero_mul]
          rcases ht with rfl | rfl <;> rfl
        · have h5 : 0 < w * b' := Int.mul_pos (by omega) q1
          rw [if_neg (fun q => hw0 q.symm), if_pos rfl, sgn_of.2.1 (by omega)]
          omega
      · refine wp_f (by rw [l0, lI_eq] <;> omega) ?_
        have h6 : 0 < r * d' := Int.mul_pos (by omega) s1
        by_cases hw0 : w = 0
        · refine wp_t (by rw [hw0]; rfl) (wp_some ⟨t, r, w, rfl, ht, ⟨rx, by omega⟩, ⟨ry, by omega⟩, ?_⟩)
          rw [hs, key, hw0, Int.zero_mul, if_neg hr0, if_neg hr0, sgn_of.1 (by omega)]
          omega
        · refine wp_f (by rw [l0, lI_eq] <;> omega) (wp_some ⟨by omega, b', r, d', w, -t, by rw [iI_neg, iI_succ], ⟨by omega, q2⟩, ⟨by omega, by omega⟩, ⟨by omega, s2⟩, ⟨by omega, by omega⟩, by omega, ?_, Or.inr ⟨by omega, ?_⟩⟩)
          · have e7 : b' * w - d' * r = -(r * d' - w * b') := by
              rw [Int.mul_comm b' w, Int.mul_comm d' r]
              omega
            rw [hs, key, e7, Int.sign_neg, Int.neg_mul_neg]
          · have hp : (0 : Int) ≤ 2 ^ k := Int.le_of_lt (Int.pow_pos (by decide))
            rcases hm with rfl | ⟨hm1, hm2⟩
            · have h7 : b' * r ≤ 4611686018427387904 * 4611686018427387904 := Int.mul_le_mul (by omega) (by omega) (by omega) (by omega)
              have h8 : b' * r * 2 ^ (0 + 1) ≤ 4611686018427387904 * 4611686018427387904 * 2 ^ (0 + 1) := Int.mul_le_mul_of_nonneg_right h7 (by decide)
              exact Int.le_trans h8 (by decide +kernel)
            · have h7 := hx1 hm1
              have h8 : b' * 1 ≤ b' * x := Int.mul_le_mul_of_nonneg_left h7 (by omega)
              have h9 : b' * (r + r) ≤ b' * a' := Int.mul_le_mul_of_nonneg_left (by omega) (by omega)
              have h10 : b' * (r + r) * 2 ^ k ≤ b' * a' * 2 ^ k := Int.mul_le_mul_of_nonneg_right h9 hp
              have e8 : b' * r * 2 ^ (k + 1) = b' * (r + r) * 2 ^ k := by
                rw [Int.pow_succ]
                generalize (2 : Int) ^ k = Z
                grind
              rw [e8]
              rw [Int.mul_comm a' b'] at hm2
              exact Int.le_trans h10 hm2
    · refine wp_f (by rw [lI_eq] <;> omega) (wp_some ⟨t, x, y, rfl, ht, hxy, ⟨by omega, by omega⟩, ⟨by omega, by omega⟩, ?_⟩)
      rw [hs, key]
      by_cases hlt : x < y
      · have h7 : (x - y) * (b' * d') ≤ (-1) * (b' * d') := Int.mul_le_mul_of_nonneg_right (by omega) (by omega)
        rw [if_pos hlt, sgn_of.2.1 (by omega)]
        omega
      · have h7 : 1 * (b' * d') ≤ (x - y) * (b' * d') := Int.mul_le_mul_of_nonneg_right (by omega) (by omega)
        rw [if_neg hlt, sgn_of.1 (by omega)]
        omega
  · intro q hq
    rcases q with q | q | q | q
    · exact hq.elim
    · obtain ⟨t, x, y, rfl, ht, hne, hx, hy, hs⟩ := hq
      show wpO (F_Fraction_order_j90 (iI t) (lI x) (lI y) M) _
      unfold F_Fraction_order_j90
      by_cases hlt : x < y
      · refine wp_f (by rw [lI_le] <;> omega) (wp_some ?_)
        rw [hs, if_pos hlt, iI_neg]
      · refine wp_t (by rw [lI_le] <;> omega) (wp_some ?_)
        rw [hs, if_neg hlt]
    · obtain ⟨t, x, y, rfl, ht, hx, hy, hs⟩ := hq
      show wpO (F_Fraction_order_j121 (iI t) (lI x) (lI y) M) _
      unfold F_Fraction_order_j121
      by_cases he : x = y
      · refine wp_t (by rw [he]) (wp_some ?_)
        rw [hs, if_pos he]
        rfl
      · refine wp_f (by rw [lI_eq] <;> omega) ?_
        by_cases h0 : x = 0
        · refine wp_t (by rw [h0]; rfl) (wp_some ?_)
          rw [hs, if_neg he, if_pos h0, iI_neg]
        · refine wp_f (by rw [l0, lI_eq] <;> omega) (wp_some ?_)
          rw [hs, if_neg he, if_neg h0]
    · exact hq.elim
/-! who gains by doing another act once -/
def fsA (W : Nat → Int32) (a s pe e : Nat) : Nat := if pe = 0 then e else dz W a (s / 3)
def scA (W : Nat → Int32) (b s pe e : Nat) : Nat := if pe = 1 then e else dz W b (s % 3)
def toA (W : Nat → Int32) (a b s pe e : Nat) : Nat := 3 * gz W a (s / 3) (scA W b s pe e) + gz W b (s % 3) (fsA W a s pe e)
def brA (W : Nat → Int32) (a b s pe e : Nat) : Int := br W (fsA W a s pe e) (scA W b s pe e) pe
/-- what it brings above the worth, times what is above 0 -/
def gX (W : Nat → Int32) (a b : Nat) (p q : Int) (U : Nat → Nat → Int) (D : Nat → Int) (s pe e : Nat) : Int := (brA W a b s pe e * (q * D (toA W a b s pe e)) + p * U (toA W a b s pe e) pe) * D s - U s pe * (q * D (toA W a b s pe e))
def gnB (W : Nat → Int32) (a b : Nat) (p q : Int) (U : Nat → Nat → Int) (D : Nat → Int) (s pe : Nat) : Bool := (List.range (W 0).toInt.toNat).any (fun e => decide (0 < gX W a b p q U D s pe e))
theorem toA_st {W : Nat → Int32} {a b s pe e : Nat} (hA : WOKW W a) (hB : WOKW W b) (hs : stW W a b s) (he : e < 3) : stW W a b (toA W a b s pe e) ∧ fsA W a s pe e < 3 ∧ scA W b s pe e < 3 ∧ gz W a (s / 3) (scA W b s pe e) < mo W a ∧ gz W b (s % 3) (fsA W a s pe e) < mo W b := by
  have d1 := (hA.dzK hs.1).1
  have d2 := (hB.dzK hs.2).1
  have f1 : fsA W a s pe e < 3 := by
    unfold fsA
    by_cases c : pe = 0
    · rw [if_pos c]
      exact he
    · rw [if_neg c]
      omega
  have f2 : scA W b s pe e < 3 := by
    unfold scA
    by_cases c : pe = 1
    · rw [if_pos c]
      exact he
    · rw [if_neg c]
      omega
  have g1 := (hA.gzK hs.1 f2).1
  have g2 := (hB.gzK hs.2 f1).1
  have mB := hB.moK
  refine ⟨⟨?_, ?_⟩, f1, f2, g1, g2⟩
  · unfold toA
    omega
  · unfold toA
    omega
theorem gX_own {W : Nat → Int32} {a b s pe : Nat} {p q : Int} {U : Nat → Nat → Int} {D : Nat → Int} (hp : pe < 2) (h : eqnW (stW W a b) (nxW W a b) (fun s => getW W a b s pe) p q (fun s => U s pe) D) (hs : stW W a b s) : gX W a b p q U D s pe (if pe = 0 then dz W a (s / 3) else dz W b (s % 3)) = 0 := by
  have e := (h s hs).2.2
  have e1 : fsA W a s pe (if pe = 0 then dz W a (s / 3) else dz W b (s % 3)) = dz W a (s / 3) := by
    unfold fsA
    by_cases c : pe = 0
    · rw [if_pos c, if_pos c]
    · rw [if_neg c]
  have e2 : scA W b s pe (if pe = 0 then dz W a (s / 3) else dz W b (s % 3)) = dz W b (s % 3) := by
    unfold scA
    by_cases c : pe = 1
    · rw [if_pos c, if_neg (by omega)]
    · rw [if_neg c]
  have e3 : toA W a b s pe (if pe = 0 then dz W a (s / 3) else dz W b (s % 3)) = nxW W a b s := by
    unfold toA nxW
    rw [e1, e2]
  have e4 : brA W a b s pe (if pe = 0 then dz W a (s / 3) else dz W b (s % 3)) = getW W a b s pe := by
    unfold brA getW
    rw [e1, e2]
  unfold gX
  rw [e3, e4]
  dsimp only at e
  generalize getW W a b s pe = g at *
  generalize U (nxW W a b s) pe = u' at *
  generalize D (nxW W a b s) = d' at *
  generalize U s pe = u at *
  generalize D s = d at *
  have h1 : u * (q * d') = q * u * d' := by grind
  rw [h1, e]
  grind
/-- the first one: as 2 times the pair of moods and the person -/
def fgR (W : Nat → Int32) (a b : Nat) (p q : Int) (U : Nat → Nat → Int) (D : Nat → Int) : Nat → Nat → Int
  | 0, _ => -1
  | f + 1, i => if i / 2 / 3 < mo W a ∧ i / 2 % 3 < mo W b ∧ gnB W a b p q U D (i / 2) (i % 2) = true then (i : Int) else fgR W a b p q U D f (i + 1)
theorem fgR_s {W : Nat → Int32} {a b f i : Nat} {p q : Int} {U : Nat → Nat → Int} {D : Nat → Int} : fgR W a b p q U D (f + 1) i = if i / 2 / 3 < mo W a ∧ i / 2 % 3 < mo W b ∧ gnB W a b p q U D (i / 2) (i % 2) = true then (i : Int) else fgR W a b p q U D f (i + 1) := rfl
theorem fgR_skip {W : Nat → Int32} {a b i : Nat} {p q : Int} {U : Nat → Nat → Int} {D : Nat → Int} : ∀ n, i + n ≤ 18 → (∀ j, i ≤ j → j < i + n → ¬ (j / 2 / 3 < mo W a ∧ j / 2 % 3 < mo W b ∧ gnB W a b p q U D (j / 2) (j % 2) = true)) → fgR W a b p q U D (18 - i) i = fgR W a b p q U D (18 - (i + n)) (i + n) := by
  intro n
  induction n with
  | zero => exact fun _ _ => rfl
  | succ n ih =>
    intro h1 h2
    rw [ih (by omega) (fun j a b => h2 j a (by omega)), show 18 - (i + n) = (18 - (i + (n + 1))) + 1 by omega, fgR_s, if_neg (h2 _ (by omega) (by omega))]
    rfl
theorem fgR_b {W : Nat → Int32} {a b : Nat} {p q : Int} {U : Nat → Nat → Int} {D : Nat → Int} : ∀ f i, i + f ≤ 18 → fgR W a b p q U D f i = -1 ∨ (0 ≤ fgR W a b p q U D f i ∧ fgR W a b p q U D f i < 18) := by
  intro f
  induction f with
  | zero => exact fun _ _ => Or.inl rfl
  | succ f ih =>
    intro i h
    rw [fgR_s]
    by_cases c : i / 2 / 3 < mo W a ∧ i / 2 % 3 < mo W b ∧ gnB W a b p q U D (i / 2) (i % 2) = true
    · rw [if_pos c]
      omega
    · rw [if_neg c]
      exact ih (i + 1) (by omega)
