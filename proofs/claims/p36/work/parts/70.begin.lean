/-! ===== begin: what another way must lose ===== -/
theorem RKp.uq {nx : Nat → Nat} {s t n t' n' : Nat} (h : RKp nx s t n) (h' : RKp nx s t' n') : t = t' ∧ n = n' := by
  obtain ⟨a1, a2, a3⟩ := h
  obtain ⟨b1, b2, b3⟩ := h'
  have e : t + n = t' + n' := by
    rcases Nat.lt_trichotomy (t + n) (t' + n') with c | c | c
    · have := b3 (t + n) t c (by omega) a2
      omega
    · exact c
    · have := a3 (t' + n') t' c (by omega) b2
      omega
  have e2 : t = t' := a3 t t' (by omega) (by omega) (by rw [← a2, ← b2, e])
  omega
theorem RKp.step {nx : Nat → Nat} {s t n : Nat} (h : RKp nx s t n) : RKp nx (nx s) (t - 1) n := by
  obtain ⟨a1, a2, a3⟩ := h
  refine ⟨a1, ?_, fun i j hi hj e => ?_⟩
  · rw [itN_nx, itN_nx]
    by_cases c : t = 0
    · subst c
      rw [show 0 - 1 + n + 1 = 0 + n + 1 by omega]
      show nx (itN nx s (0 + n)) = nx (itN nx s 0)
      rw [a2]
    · rw [show t - 1 + n + 1 = t + n by omega, show t - 1 + 1 = t by omega, a2]
  · rw [itN_nx, itN_nx] at e
    by_cases c : t = 0
    · subst c
      by_cases ci : i + 1 < n
      · by_cases cj : j + 1 < n
        · have := a3 (i + 1) (j + 1) (by omega) (by omega) e
          omega
        · rw [show j + 1 = 0 + n by omega, a2] at e
          have := a3 (i + 1) 0 (by omega) (by omega) e
          omega
      · by_cases cj : j + 1 < n
        · rw [show i + 1 = 0 + n by omega, a2] at e
          have := a3 0 (j + 1) (by omega) (by omega) e
          omega
        · omega
    · have := a3 (i + 1) (j + 1) (by omega) (by omega) e
      omega
theorem slv.dv {b : Nat} {S : Nat → Prop} {nx : Nat → Nat} {g : Nat → Nat → Int} {p q : Int} {M : Mem} {s : Nat} (hq : 0 < q) (h : slv b S nx g p q M s) (h' : slv b S nx g p q M (nx s)) : ∃ k, 0 < k ∧ dM b M s = dM b M (nx s) * k := by
  obtain ⟨-, -, -, ⟨t, n, r, e⟩, -, -⟩ := h
  obtain ⟨-, -, -, ⟨t', n', r', e'⟩, -, -⟩ := h'
  obtain ⟨u1, u2⟩ := RKp.uq (RKp.step r) r'
  subst u1
  subst u2
  rw [e, e']
  by_cases c : t = 0
  · subst c
    refine ⟨1, by decide, ?_⟩
    rw [Int.mul_one]
  · obtain ⟨m, rfl⟩ : ∃ m, t = m + 1 := ⟨t - 1, by omega⟩
    refine ⟨q, hq, ?_⟩
    show q ^ (m + 1) * (q ^ n - p ^ n) = q ^ m * (q ^ n - p ^ n) * q
    rw [Int.pow_succ]
    generalize q ^ n - p ^ n = Z
    generalize q ^ m = Y
    grind
theorem PRS.dv {W : Nat → Int32} {a b : Nat} {p q : Int} {L : Mem} (hA : WOKW W a) (hB : WOKW W b) (hq : 0 < q) (h : PRS W a b p q L) (s0 : stW W a b 0) : ∀ k, ∃ c, 0 < c ∧ dM 35 L 0 = dM 35 L (itN (nxW W a b) 0 k) * c := by
  intro k
  induction k with
  | zero => exact ⟨1, by decide, (Int.mul_one _).symm⟩
  | succ k ih =>
    obtain ⟨c, c0, e⟩ := ih
    have hs : stW W a b (itN (nxW W a b) 0 k) := by
      rw [← pth_it]
      exact pth_st hA hB s0 k
    obtain ⟨c', c1, e'⟩ := (h.2.2.2 _ hs).dv hq (h.2.2.2 _ (nx_st hA hB hs))
    refine ⟨c' * c, Int.mul_pos c1 c0, ?_⟩
    rw [e, e', Int.mul_assoc]
    rfl
def ceilD (X d : Int) : Int := -((-X) / d)
theorem ceilD_le {X d c : Int} (hd : 0 < d) : ceilD X d ≤ c ↔ X ≤ c * d := by
  unfold ceilD
  have e := Int.le_ediv_iff_mul_le (a := -c) (b := -X) hd
  rw [Int.neg_mul] at e
  constructor
  · intro h
    have := e.mp (by omega)
    omega
  · intro h
    have := e.mpr (by omega)
    omega
def bgX (U : Nat → Nat → Int) (D : Nat → Int) (s pe : Nat) : Int := U 0 pe - U s pe * (D 0 / D s)
/-- the loss at a place, for one person -/
def bgF (W : Nat → Int32) (a b : Nat) (L : Mem) (k pe : Nat) : Int := ceilD (bgX (uM 35 L) (dM 35 L) (itN (nxW W a b) 0 k) pe) (dM 35 L 0)
theorem C_loss {W : Nat → Int32} {a b s pe : Nat} {p q : Int} {L : Mem} (hA : WOKW W a) (p1 : 1 ≤ p) (pq : p < q) (q12 : q ≤ 12) (h : PRS W a b p q L) (hC : chS (stW W a b) (nxW W a b) (getW W a b) p q) (s0 : stW W a b 0) (hs : stW W a b s) (hdv : ∃ k, 0 < k ∧ dM 35 L 0 = dM 35 L s * k) (hp : pe < 2) : F_Pair_lossTo (iI (s : Int)) (iI (pe : Int)) L = some (lI (ceilD (bgX (uM 35 L) (dM 35 L) s pe) (dM 35 L 0))) ∧ -2376 ≤ ceilD (bgX (uM 35 L) (dM 35 L) s pe) (dM 35 L 0) ∧ ceilD (bgX (uM 35 L) (dM 35 L) s pe) (dM 35 L 0) ≤ 2376 := by
  obtain ⟨k, k0, ek⟩ := hdv
  have s9 := st_lt hA hs
  have d9 := (h.2.2.2 0 s0).d9 hC
  have ds9 := (h.2.2.2 s hs).d9 hC
  obtain ⟨-, -, -, -, h5, h6⟩ := h.2.2.2 0 s0
  obtain ⟨-, -, -, -, k5, k6⟩ := h.2.2.2 s hs
  obtain ⟨-, a2, a3⟩ := h6 pe hp
  obtain ⟨-, b2, b3⟩ := k6 pe hp
  dsimp only at a2 a3 b2 b3
  have ediv : dM 35 L 0 / dM 35 L s = k := by
    rw [ek]
    exact Int.mul_ediv_cancel_left _ (by omega)
  have et : (dM 35 L 0).tdiv (dM 35 L s) = k := by
    rw [ek]
    exact Int.mul_tdiv_cancel_left _ (by omega)
  have e99 : 99 * q * dM 35 L s * k = 99 * q * dM 35 L 0 := by
    rw [ek]
    exact Int.mul_assoc _ _ _
  have m1 : uM 35 L s pe * k ≤ 99 * q * dM 35 L s * k := Int.mul_le_mul_of_nonneg_right b3 (by omega)
  have m2 : -(99 * q * dM 35 L s) * k ≤ uM 35 L s pe * k := Int.mul_le_mul_of_nonneg_right b2 (by omega)
  rw [Int.neg_mul] at m2
  rw [e99] at m1 m2
  have gb := gq_bound (G := 198) (X := dM 35 L 0) (by decide) (by decide) (show 0 ≤ q by omega) q12 (by omega) (by omega)
  have e198 : 198 * q * dM 35 L 0 = 99 * q * dM 35 L 0 + 99 * q * dM 35 L 0 := by
    generalize dM 35 L 0 = d
    grind
  have gb2 := gb.2
  rw [e198] at gb2
  have eX : bgX (uM 35 L) (dM 35 L) s pe = uM 35 L 0 pe - uM 35 L s pe * k := by
    unfold bgX
    rw [ediv]
  refine ⟨?_, ?_, ?_⟩
  · have ra : F_Row_at 43 9 0 L = some (L.2 43 0) := V_Row_at (i := 0) (by decide) (by decide) (by decide)
    have eD0 : L.2 43 0 = lI (dM 35 L 0) := (lI_of _).symm
    have eDs : L.2 43 s = lI (dM 35 L s) := (lI_of _).symm
    have eU0 : L.2 41 pe = lI (uM 35 L 0 pe) := by
      have e := (lI_of (L.2 41 (2 * 0 + pe))).symm
      rw [show 2 * 0 + pe = pe by omega] at e
      rw [e]
      unfold uM
      rw [show 2 * 0 + pe = pe by omega]
    have eUs : L.2 41 (2 * s + pe) = lI (uM 35 L s pe) := (lI_of _).symm
    have c1 : ¬ lI (dM 35 L 0) ≤ 0 := by
      rw [show (0 : Int64) = lI 0 from rfl, lI_le (by omega) (by omega) (by omega) (by omega)]
      omega
    have c2 : 0 < lI (dM 35 L s) := by
      rw [show (0 : Int64) = lI 0 from rfl, lI_lt (by omega) (by omega) (by omega) (by omega)]
      exact k5
    have c3 : ¬ lI (dM 35 L s) = 0 := by
      rw [show (0 : Int64) = lI 0 from rfl, lI_eq (by omega) (by omega) (by omega) (by omega)]
      omega
    unfold F_Pair_lossTo
    rw [ra, bs, V_Row_at (by omega) (by omega) (by decide), bs, show ((s : Nat) : Int).toNat = s from rfl, eD0, eDs, if_neg c1, if_pos c2, V_Row_at (by omega) (by omega) (by decide), bs, show ((pe : Nat) : Int).toNat = pe from rfl, ix2, V_Row_at (by omega) (by omega) (by decide), bs, show ((2 * s + pe : Nat) : Int).toNat = 2 * s + pe from rfl, if_pos c3, eU0, eUs, ldiv_lI (by omega) (by omega) (by omega) (by omega), et, lI_mul, lI_sub, lI_neg, N_floorDiv (by omega) (by omega) h5 (by omega), bs, lI_neg]
    unfold ceilD
    rw [eX]
  · refine Decidable.not_not.mp (fun w => ?_)
    have w2 : ceilD (bgX (uM 35 L) (dM 35 L) s pe) (dM 35 L 0) ≤ -(198 * q) - 1 := by omega
    have w3 := (ceilD_le h5).mp w2
    rw [Int.sub_mul, Int.neg_mul, Int.one_mul, e198, eX] at w3
    omega
  · have up : ceilD (bgX (uM 35 L) (dM 35 L) s pe) (dM 35 L 0) ≤ 198 * q := (ceilD_le h5).mpr (by
      rw [e198, eX]
      omega)
    omega
def bgC (f : Nat → Nat → Int) : Nat → Int
  | 0 => 0
  | k + 1 => max (max (bgC f k) (f k 0)) (f k 1)
theorem bgC_s {f : Nat → Nat → Int} {k : Nat} : bgC f (k + 1) = max (max (bgC f k) (f k 0)) (f k 1) := rfl
theorem bgC_b {f : Nat → Nat → Int} (h : ∀ k pe, pe < 2 → f k pe ≤ 2376) : ∀ k, 0 ≤ bgC f k ∧ bgC f k ≤ 2376 := by
  intro k
  induction k with
  | zero =>
    show (0 : Int) ≤ 0 ∧ (0 : Int) ≤ 2376
    decide
  | succ k ih =>
    have h0 := h k 0 (by decide)
    have h1 := h k 1 (by decide)
    show 0 ≤ max (max (bgC f k) (f k 0)) (f k 1) ∧ max (max (bgC f k) (f k 0)) (f k 1) ≤ 2376
    omega
theorem lmax {a b : Int} {M : Mem} (a1 : -3000 ≤ a) (a2 : a ≤ 3000) (b1 : -3000 ≤ b) (b2 : b ≤ 3000) : F_Math_max_JJJ (lI a) (lI b) M = some (lI (max a b)) := by
  unfold F_Math_max_JJJ
  by_cases c : a < b
  · rw [if_pos (by rw [lI_lt (by omega) (by omega) (by omega) (by omega)]; exact c), show max a b = b by omega]
  · rw [if_neg (by rw [lI_lt (by omega) (by omega) (by omega) (by omega)]; exact c), show max a b = a by omega]
theorem bgF_b {W : Nat → Int32} {a b : Nat} {p q : Int} {L : Mem} (hA : WOKW W a) (hB : WOKW W b) (p1 : 1 ≤ p) (pq : p < q) (q12 : q ≤ 12) (h : PRS W a b p q L) (hC : chS (stW W a b) (nxW W a b) (getW W a b) p q) (s0 : stW W a b 0) (k pe : Nat) (hp : pe < 2) : F_Pair_lossTo (iI (itN (nxW W a b) 0 k : Int)) (iI (pe : Int)) L = some (lI (bgF W a b L k pe)) ∧ -2376 ≤ bgF W a b L k pe ∧ bgF W a b L k pe ≤ 2376 := by
  have hs : stW W a b (itN (nxW W a b) 0 k) := by
    rw [← pth_it]
    exact pth_st hA hB s0 k
  exact C_loss hA p1 pq q12 h hC s0 hs (h.dv hA hB (by omega) s0 k) hp
theorem C_begin {W : Nat → Int32} {a b : Nat} {p q : Int} {L : Mem} (hA : WOKW W a) (hB : WOKW W b) (p1 : 1 ≤ p) (pq : p < q) (q12 : q ≤ 12) (h : PRS W a b p q L) (hC : chS (stW W a b) (nxW W a b) (getW W a b) p q) (s0 : stW W a b 0) : F_Pair_costToLeave L = some (iI (bgC (bgF W a b L) 9)) := by
  have hb := bgC_b (f := bgF W a b L) (fun k pe hp => (bgF_b hA hB p1 pq q12 h hC s0 k pe hp).2.2)
  have l9 : (9 : Int32) = iI 9 := rfl
  apply wp_of
  unfold F_Pair_costToLeave F_Pair_costToLeave_l7
  refine wp_bind (Ψ := fun r => r = lI (bgC (bgF W a b L) 9)) ?_ (fun r hr => wp_some (by rw [hr, lI_i]))
  refine wp_iterS (P := fun (k : Nat) (z : Int64 × Int32 × Int32) => z.1 = lI (bgC (bgF W a b L) k) ∧ z.2.1 = iI (itN (nxW W a b) 0 k : Int) ∧ z.2.2 = iI (k : Int) ∧ k ≤ 9) 9 ?_ FUEL (0, 0, 0) ⟨rfl, rfl, rfl, by decide⟩ (FUEL_big (by decide))
  rintro k ⟨z1, z2, z3⟩ - ⟨e1, e2, e3, k9⟩
  dsimp only at e1 e2 e3
  subst e1
  subst e2
  subst e3
  have hs : stW W a b (itN (nxW W a b) 0 k) := by
    rw [← pth_it]
    exact pth_st hA hB s0 k
  have hl := st_lt hA hs
  obtain ⟨f0, f1, f2⟩ := bgF_b hA hB p1 pq q12 h hC s0 k 0 (by decide)
  obtain ⟨g0, g1, g2⟩ := bgF_b hA hB p1 pq q12 h hC s0 k 1 (by decide)
  have hk := hb k
  unfold F_Pair_costToLeave_b7
  dsimp only
  rw [l9]
  refine wp_if (fun c => wp_some ?_) (fun c => ?_)
  · rw [iI_le (by omega) (by omega) (by omega) (by omega)] at c
    rw [show k = 9 by omega]
  rw [iI_le (by omega) (by omega) (by omega) (by omega)] at c
  have f0' : F_Pair_lossTo (iI (itN (nxW W a b) 0 k : Int)) 0 L = some (lI (bgF W a b L k 0)) := f0
  have g0' : F_Pair_lossTo (iI (itN (nxW W a b) 0 k : Int)) 1 L = some (lI (bgF W a b L k 1)) := g0
  rw [f0', bs, g0', bs, lmax (by omega) (by omega) (by omega) (by omega), bs, lmax (by omega) (by omega) (by omega) (by omega), bs, V_Row_small (by omega) (by omega) (by decide), bs, show ((itN (nxW W a b) 0 k : Nat) : Int).toNat = itN (nxW W a b) 0 k from rfl, show L.2 37 (itN (nxW W a b) 0 k) = lI (nxW W a b (itN (nxW W a b) 0 k) : Int) from h.2.2.1.1 _ hl hs, lI_i]
  refine wp_some ⟨by omega, ?_, rfl, iI_succ k, by omega⟩
  show lI (max (bgC (bgF W a b L) k) (max (bgF W a b L k 0) (bgF W a b L k 1))) = lI (max (max (bgC (bgF W a b L) k) (bgF W a b L k 0)) (bgF W a b L k 1))
  congr 1
  omega
theorem nn_scale {A B Z Y : Int} (h : A * Z = Y * B) (hz : 0 < Z) (hy : 0 < Y) : 0 ≤ A ↔ 0 ≤ B := by
  constructor
  · intro hA
    have h1 := Int.mul_nonneg hA (Int.le_of_lt hz)
    rcases Int.lt_or_le B 0 with c | c
    · have := Int.mul_neg_of_pos_of_neg hy c
      omega
    · exact c
  · intro hB
    have h1 := Int.mul_nonneg (Int.le_of_lt hy) hB
    rcases Int.lt_or_le A 0 with c | c
    · have := Int.mul_neg_of_neg_of_pos c hz
      omega
    · exact c
theorem bg_key {u d U D c k : Int} (hd : 0 < d) (hk : 0 < k) (hD : 0 < D) (e : D = d * k) : 0 ≤ (rU u d + c * rD u d) * rD U D - rU U D * rD u d ↔ ceilD (U - u * k) D ≤ c := by
  obtain ⟨g1, g2, g3, -, -, -⟩ := rUD (a := u) hd
  obtain ⟨k1, k2, k3, -, -, -⟩ := rUD (a := U) hD
  have key : ((rU u d + c * rD u d) * rD U D - rU U D * rD u d) * ((Int.gcd u d : Int) * (Int.gcd U D : Int)) = d * (c * D - (U - u * k)) := by
    have h1 : ((rU u d + c * rD u d) * rD U D - rU U D * rD u d) * ((Int.gcd u d : Int) * (Int.gcd U D : Int)) = (rU u d * (Int.gcd u d : Int) + c * (rD u d * (Int.gcd u d : Int))) * (rD U D * (Int.gcd U D : Int)) - rU U D * (Int.gcd U D : Int) * (rD u d * (Int.gcd u d : Int)) := by
      generalize rU u d = x
      generalize rD u d = y
      generalize rU U D = z
      generalize rD U D = w
      generalize (Int.gcd u d : Int) = G
      generalize (Int.gcd U D : Int) = K
      grind
    rw [h1, g2, g3, k2, k3, e]
    grind
  rw [ceilD_le hD, nn_scale key (Int.mul_pos g1 k1) hd]
  omega
theorem sgn_ge {X : Int} : (0 : Int32) ≤ iI (Int.sign X) ↔ 0 ≤ X := by
  have l0 : (0 : Int32) = iI 0 := rfl
  rw [l0]
  rcases Int.lt_trichotomy X 0 with h | h | h
  · rw [sgn_of.2.1 h, iI_le (by decide) (by decide) (by decide) (by decide)]
    omega
  · rw [sgn_of.2.2 h, iI_le (by decide) (by decide) (by decide) (by decide)]
    omega
  · rw [sgn_of.1 h, iI_le (by decide) (by decide) (by decide) (by decide)]
    omega
theorem R_begin {a b : Nat} {p q : Int} {L N : Mem} (hR : RIW (N.1 95)) (ha : (a : Int) < (N.1 95 5).toInt) (hb : (b : Int) < (N.1 95 5).toInt) (p1 : 1 ≤ p) (pq : p < q) (q12 : q ≤ 12) (h : PRS (N.1 95) a b p q L) (hw : ∀ t pe, pe < 2 → stW (N.1 95) a b t → N.2 104 (2 * t + pe) = lI (rU (uM 35 L t pe) (dM 35 L t)) ∧ N.2 105 (2 * t + pe) = lI (rD (uM 35 L t pe) (dM 35 L t))) : F_MO_begin_l68 (iI (a : Int)) (iI (b : Int)) 0 0 0 N = some (iI (bgC (bgF (N.1 95) a b L) 9), N) := by
  have hA := hR.way a ha
  have hB := hR.way b hb
  have a8 := hR.w8 ha
  have b8 := hR.w8 hb
  have mA := hA.moK
  have mB := hB.moK
  have hC := pairS hR hA hB p1 pq q12
  have s0 : stW (N.1 95) a b 0 := ⟨by omega, by omega⟩
  have hbd := fun k pe (hp : pe < 2) => (bgF_b hA hB p1 pq q12 h hC s0 k pe hp).2
  have hbc := bgC_b (f := bgF (N.1 95) a b L) (fun k pe hp => (hbd k pe hp).2)
  have vals : ∀ t pe, pe < 2 → stW (N.1 95) a b t → 0 < dM 35 L t ∧ 0 < rD (uM 35 L t pe) (dM 35 L t) ∧ rD (uM 35 L t pe) (dM 35 L t) ≤ 5159780352 ∧ -61297190581760 ≤ rU (uM 35 L t pe) (dM 35 L t) ∧ rU (uM 35 L t pe) (dM 35 L t) ≤ 61297190581760 := fun t pe hp ht => by
    have kd := (h.2.2.2 t ht).d9 hC
    obtain ⟨-, -, -, -, h5, h6⟩ := h.2.2.2 t ht
    obtain ⟨f1, f2, f3⟩ := h6 pe hp
    dsimp only at f1 f2 f3
    obtain ⟨hr, hr2⟩ := fb_red (G := 99) (q := q) (by omega) f1 f2 f3
    obtain ⟨r1, r2, r3⟩ := fb99 (by omega) hr q12
    exact ⟨h5, r1, by omega, by omega, by omega⟩
  apply wp_of
  unfold F_MO_begin_l68
  refine wp_bind (Ψ := fun r => r = iI (bgC (bgF (N.1 95) a b L) 9)) ?_ (fun r hr => wp_some (by rw [hr]))
  refine wp_iterS (P := fun (k : Nat) (z : Int32 × Int32 × Int32) => z.1 = iI (bgC (bgF (N.1 95) a b L) k) ∧ z.2.1 = iI (itN (nxW (N.1 95) a b) 0 k : Int) ∧ z.2.2 = iI (k : Int) ∧ k ≤ 9) 9 ?_ FUEL (0, 0, 0) ⟨rfl, rfl, rfl, by decide⟩ (FUEL_big (by decide))
  rintro k ⟨z1, z2, z3⟩ - ⟨e1, e2, e3, k9⟩
  dsimp only at e1 e2 e3
  subst e1
  subst e2
  subst e3
  have hs : stW (N.1 95) a b (itN (nxW (N.1 95) a b) 0 k) := by
    rw [← pth_it]
    exact pth_st hA hB s0 k
  have hl := st_lt hA hs
  have hk := hbc k
  obtain ⟨kk, kk0, ekk⟩ := h.dv hA hB (by omega) s0 k
  unfold F_MO_begin_b68
  dsimp only
  rw [l32_9]
  refine wp_if (fun c => wp_some ?_) (fun c => ?_)
  · rw [iI_le (by omega) (by omega) (by omega) (by omega)] at c
    rw [show k = 9 by omega]
  rw [iI_le (by omega) (by omega) (by omega) (by omega)] at c
  unfold F_MO_begin_l78
  refine wp_bind (Ψ := fun r => r = iI (bgC (bgF (N.1 95) a b L) (k + 1))) ?_ (fun r hr => ?_)
  · -- for each of both: as much as it takes
    have one : ∀ (c0 : Int) (pe : Nat), pe < 2 → 0 ≤ c0 → c0 ≤ 2376 → wpO (iter (F_MO_begin_b112 (iI (a : Int)) (iI (b : Int)) (iI (itN (nxW (N.1 95) a b) 0 k : Int)) (iI (k : Int)) (iI (pe : Int)) (lI (rU (uM 35 L (itN (nxW (N.1 95) a b) 0 k) pe) (dM 35 L (itN (nxW (N.1 95) a b) 0 k)))) (lI (rD (uM 35 L (itN (nxW (N.1 95) a b) 0 k) pe) (dM 35 L (itN (nxW (N.1 95) a b) 0 k)))) N) FUEL (iI c0)) (fun r => r = iI (max c0 (bgF (N.1 95) a b L k pe))) := by
      intro c0 pe hp c01 c02
      have hf := hbd k pe hp
      have eF : bgF (N.1 95) a b L k pe = ceilD (uM 35 L 0 pe - uM 35 L (itN (nxW (N.1 95) a b) 0 k) pe * kk) (dM 35 L 0) := by
        unfold bgF bgX
        have e : dM 35 L 0 / dM 35 L (itN (nxW (N.1 95) a b) 0 k) = kk := by
          rw [ekk]
          exact Int.mul_ediv_cancel_left _ (by have := (vals _ pe hp hs).1; omega)
        rw [e]
      refine wp_iterS (P := fun (j : Nat) (z : Int32) => z = iI (c0 + j) ∧ c0 + j ≤ max c0 (bgF (N.1 95) a b L k pe)) 2376 ?_ FUEL (iI c0) ⟨by rw [show c0 + ((0 : Nat) : Int) = c0 by omega], by omega⟩ (FUEL_big (by decide))
      rintro j z hj ⟨rfl, hz⟩
      obtain ⟨v0, v1, v2, v3, v4⟩ := vals _ pe hp hs
      obtain ⟨y0, y1, y2, y3, y4⟩ := vals _ pe hp s0
      obtain ⟨w1, w2⟩ := hw 0 pe hp s0
      rw [show 2 * 0 + pe = pe by omega] at w1 w2
      have n1 : (iI ((pe : Nat) : Int)).toNatClampNeg = pe := clN (by omega)
      unfold F_MO_begin_b112
      refine wp_t (inb_iI (by omega) (by omega) (by omega)) (wp_t (inb_iI (by omega) (by omega) (by omega)) ?_)
      have m1 : 0 ≤ (c0 + j) * rD (uM 35 L (itN (nxW (N.1 95) a b) 0 k) pe) (dM 35 L (itN (nxW (N.1 95) a b) 0 k)) := Int.mul_nonneg (by omega) (by omega)
      have m2 : (c0 + j) * rD (uM 35 L (itN (nxW (N.1 95) a b) 0 k) pe) (dM 35 L (itN (nxW (N.1 95) a b) 0 k)) ≤ 4752 * rD (uM 35 L (itN (nxW (N.1 95) a b) 0 k) pe) (dM 35 L (itN (nxW (N.1 95) a b) 0 k)) := Int.mul_le_mul_of_nonneg_right (by omega) (by omega)
      have hkey := bg_key (u := uM 35 L (itN (nxW (N.1 95) a b) 0 k) pe) (U := uM 35 L 0 pe) (c := c0 + j) v0 kk0 y0 ekk
      rw [← eF] at hkey
      rw [n1, w1, w2, iI_l (by omega) (by omega), lI_mul, lI_add, N_compared (by omega) (by omega) v1 (by omega) (by omega) (by omega) y1 (by omega), bs]
      refine wp_if (fun c4 => wp_some ?_) (fun c4 => wp_some ?_)
      · have := hkey.mp (sgn_ge.mp c4)
        congr 1
        omega
      · have c5 : ¬ bgF (N.1 95) a b L k pe ≤ c0 + j := fun w => c4 (sgn_ge.mpr (hkey.mpr w))
        refine ⟨by omega, ?_, by omega⟩
        rw [show (1 : Int32) = iI 1 from rfl, iI_add]
        congr 1
        omega
    have eidx : ∀ pe : Nat, pe < 2 → (2 * iI (itN (nxW (N.1 95) a b) 0 k : Int)) + iI (pe : Int) = iI ((2 * itN (nxW (N.1 95) a b) 0 k + pe : Nat) : Int) := fun pe _ => ix2 _ _
    refine wp_iterS (P := fun (pe : Nat) (z : Int32 × Int32) => z.2 = iI (pe : Int) ∧ pe ≤ 2 ∧ z.1 = iI (if pe = 0 then bgC (bgF (N.1 95) a b L) k else if pe = 1 then max (bgC (bgF (N.1 95) a b L) k) (bgF (N.1 95) a b L k 0) else bgC (bgF (N.1 95) a b L) (k + 1))) 2 ?_ FUEL (iI (bgC (bgF (N.1 95) a b L) k), 0) ⟨rfl, by decide, rfl⟩ (FUEL_big (by decide))
    rintro pe ⟨y1, y2⟩ hp ⟨e2, p2, e1⟩
    dsimp only at e1 e2
    subst e1
    subst e2
    unfold F_MO_begin_b78
    dsimp only
    rw [l32_2]
    refine wp_if (fun c3 => wp_some ?_) (fun c3 => ?_)
    · rw [iI_le (by omega) (by omega) (by omega) (by omega)] at c3
      have e2 : pe = 2 := by omega
      subst e2
      show iI (if (2 : Nat) = 0 then _ else if (2 : Nat) = 1 then _ else bgC (bgF (N.1 95) a b L) (k + 1)) = iI (bgC (bgF (N.1 95) a b L) (k + 1))
      rw [if_neg (by decide), if_neg (by decide)]
    rw [iI_le (by omega) (by omega) (by omega) (by omega)] at c3
    rw [← l32_2, eidx pe (by omega)]
    refine wp_t (inb_iI (by omega) (by omega) (by omega)) (wp_t (inb_iI (by omega) (by omega) (by omega)) ?_)
    have n1 : (iI ((2 * itN (nxW (N.1 95) a b) 0 k + pe : Nat) : Int)).toNatClampNeg = 2 * itN (nxW (N.1 95) a b) 0 k + pe := clN (by omega)
    obtain ⟨w1, w2⟩ := hw _ pe (by omega) hs
    rw [n1, w1, w2]
    unfold F_MO_begin_l112
    have hf0 := hbd k 0 (by decide)
    have hp2 : pe = 0 ∨ pe = 1 := by omega
    rcases hp2 with rfl | rfl
    · rw [if_pos rfl]
      refine wp_bind (one _ 0 (by decide) hk.1 hk.2) (fun r hr => wp_some ⟨by decide, rfl, by decide, ?_⟩)
      show r = iI (if (0 + 1 : Nat) = 0 then bgC (bgF (N.1 95) a b L) k else if (0 + 1 : Nat) = 1 then max (bgC (bgF (N.1 95) a b L) k) (bgF (N.1 95) a b L k 0) else bgC (bgF (N.1 95) a b L) (k + 1))
      rw [if_neg (by decide), if_pos (by decide)]
      exact hr
    · rw [if_neg (by decide), if_pos rfl]
      refine wp_bind (one _ 1 (by decide) (by omega) (by omega)) (fun r hr => wp_some ⟨by decide, rfl, by decide, ?_⟩)
      show r = iI (if (1 + 1 : Nat) = 0 then bgC (bgF (N.1 95) a b L) k else if (1 + 1 : Nat) = 1 then max (bgC (bgF (N.1 95) a b L) k) (bgF (N.1 95) a b L k 0) else bgC (bgF (N.1 95) a b L) (k + 1))
      rw [if_neg (by decide), if_neg (by decide), bgC_s]
      exact hr
  · rw [hr]
    unfold F_MO_begin_j154
    rw [N_nextOf a8 b8 hA hB hs, bs]
    exact wp_some ⟨by omega, rfl, rfl, iI_succ k, by omega⟩
theorem V_begin {x1 x2 : Int32} {M : Mem} (h : RY M) : wpO (F_LAW_begin x1 x2 M) (fun r1 => wpO (F_MO_begin x1 x2 r1.2) (fun r2 => RY r2.2 ∧ r2.2.1 94 0 = r1.1 ∧ (r1.1 = 0 → r2.2.2 121 0 = r2.1.toInt64))) := by
  refine wp2 (B := fun r1 r2 => r2.2.1 94 0 = r1.1 ∧ (r1.1 = 0 → r2.2.2 121 0 = r2.1.toInt64)) (Y_begin h) (fun r1 r2 e1 e2 => ?_) (fun r s p q => ⟨p, q⟩)
  have f1 := wpO_of (T_LAW_begin x1 x2 M) e1
  have f2 := Q_MO_begin x1 x2 r1.2 r2 e2
  have cw := h.cw
  have e95 : r1.2.1 95 = M.1 95 := funext (f1 95 (by omega)).1
  have e121 : r2.2.2 121 0 = r1.2.2 121 0 := (f2 121 0 (by omega)).2
  have hN : (mSI r1.2 94 0 0).1 95 = M.1 95 := e95
  have n0 : (mSI r1.2 94 0 0).1 94 0 = 0 := mI_hit
  unfold F_LAW_begin F_KW_begin at e1
  unfold F_MO_begin at e2
  generalize mSI r1.2 94 0 0 = N at *
  rw [R_ways (J := fun s => F_MO_begin_j27 x1 x2 s N) hN cw.2.1] at e2
  by_cases c : wOk2 (M.1 95) x1 x2
  · rw [decide_eq_true c] at e2
    obtain ⟨a, rfl, ha⟩ := wOk_nat c.1
    obtain ⟨b, rfl, hb⟩ := wOk_nat c.2
    change F_MO_begin_j27 (iI (a : Int)) (iI (b : Int)) false N = some r2 at e2
    unfold F_MO_begin_j27 at e2
    rw [S_throws_f, bs, if_f1, R_areB hN cw.2.1 ha hb, bs] at e2
    rw [cw.pair ha hb] at e1
    cases hq : (barW (M.1 95) a || barW (M.1 95) b) with
    | true =>
      rw [hq, if_pos rfl, xb_inl, hb_inl, if_neg (by decide), if_pos rfl] at e1
      rw [hq, S_throws_t, bs, if_pos rfl] at e2
      cases e1
      cases e2
      exact ⟨mI_hit, fun w => absurd w nz2⟩
    | false =>
      rw [hq, if_neg (by decide), xb_inr] at e1
      rw [hq, S_throws_f, bs, if_f1, N_plain, bs] at e2
      obtain ⟨q1, q2, p1, pq, q9⟩ := cw.pq
      have kA := cw.wk ha
      have kB := cw.wk hb
      have mA := kA.moK
      have mB := kB.moK
      have hR := cw.2.1
      obtain ⟨L, eL, hL⟩ := C_look (p := ((M.1 95) 1).toInt) (q := ((M.1 95) 2).toInt) cw ha hb p1 pq (by omega)
      have hC := pairS hR kA kB p1 pq (show ((M.1 95) 2).toInt ≤ 12 by omega)
      have s0 : stW (M.1 95) a b 0 := ⟨by omega, by omega⟩
      have hRN : RIW (N.1 95) := by
        rw [hN]
        exact hR
      obtain ⟨Q, eQ, hQ1, hQ2⟩ := N_worthsP hRN (by rw [hN]; exact ha) (by rw [hN]; exact hb)
      have z0 : Q.1 94 0 = 0 := by
        rw [hQ1.1 94 0 (by decide)]
        show (plM N).1 94 0 = 0
        unfold plM
        rw [mI_ix (by decide), mI_ix (by decide), n0]
      have e95Q : Q.1 95 = M.1 95 := hQ1.w95.trans hN
      have eB := C_begin kA kB p1 pq (by omega) hL hC s0
      rw [hN] at hQ2
      have eR : F_MO_begin_l68 (iI (a : Int)) (iI (b : Int)) 0 0 0 Q = some (iI (bgC (bgF (M.1 95) a b L) 9), Q) := by
        rw [← e95Q] at hR ha hb p1 pq q9 hL hQ2 kA kB ⊢
        exact R_begin hR ha hb p1 pq (by omega) hL (fun t pe hp ht => hL.same kA kB p1 pq ht hp (hQ2 t pe ht hp))
      rw [q1, q2, eL, bs, eB, bs, hb_inr, if_pos ib01] at e1
      rw [eQ, bs, eR] at e2
      cases e1
      cases e2
      refine ⟨z0, fun _ => ?_⟩
      rw [e121]
      show (mSL L 121 ((0 : Int32)).toNatClampNeg (iI (bgC (bgF (M.1 95) a b L) 9)).toInt64).2 121 0 = (iI (bgC (bgF (M.1 95) a b L) 9)).toInt64
      rw [tn0, mL_hit]
  · rw [decide_eq_false c] at e2
    rw [cw.pair_no c, xb_inl, hb_inl, if_pos rfl] at e1
    change F_MO_begin_j27 x1 x2 true N = some r2 at e2
    unfold F_MO_begin_j27 at e2
    rw [S_throws_t, bs, if_pos rfl] at e2
    cases e1
    cases e2
    exact ⟨mI_hit, fun w => absurd w nz1⟩
