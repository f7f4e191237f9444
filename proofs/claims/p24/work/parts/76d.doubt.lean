/-! ===== doubt: both sides' equations have one determinant ===== -/
theorem tR_e {W : Nat → Int32} {n a b x y k : Nat} {f e : Int} : TRt n W a b x y f e 4 k = 0 + (if k = n * gz W a x (dz W b y) + gz W b y (dz W a x) then (f - e) * (f - e) else 0) + (if k = n * gz W a x (1 - dz W b y) + gz W b y (dz W a x) then e * (f - e) else 0) + (if k = n * gz W a x (dz W b y) + gz W b y (1 - dz W a x) then (f - e) * e else 0) + (if k = n * gz W a x (1 - dz W b y) + gz W b y (1 - dz W a x) then e * e else 0) := by
  show adT (adT (adT (adT (fun _ => 0) (n * gz W a x (dz W b y) + gz W b y (dz W a x)) ((f - e) * (f - e))) (n * gz W a x (1 - dz W b y) + gz W b y (dz W a x)) (e * (f - e))) (n * gz W a x (dz W b y) + gz W b y (1 - dz W a x)) ((f - e) * e)) (n * gz W a x (1 - dz W b y) + gz W b y (1 - dz W a x)) (e * e) k = _
  rw [adT_v, adT_v, adT_v, adT_v]
theorem tC_e {W : Nat → Int32} {a b x y k : Nat} {f e : Int} : TCt W a b x y f e 4 k = 0 + (if k = 2 * gz W a x 0 + gz W b y 0 then (if 0 = dz W a x then f - e else e) * (if 0 = dz W b y then f - e else e) else 0) + (if k = 2 * gz W a x 1 + gz W b y 0 then (if 0 = dz W a x then f - e else e) * (if 1 = dz W b y then f - e else e) else 0) + (if k = 2 * gz W a x 0 + gz W b y 1 then (if 1 = dz W a x then f - e else e) * (if 0 = dz W b y then f - e else e) else 0) + (if k = 2 * gz W a x 1 + gz W b y 1 then (if 1 = dz W a x then f - e else e) * (if 1 = dz W b y then f - e else e) else 0) := by
  show adT (adT (adT (adT (fun _ => 0) (2 * gz W a x 0 + gz W b y 0) ((if 0 = dz W a x then f - e else e) * (if 0 = dz W b y then f - e else e))) (2 * gz W a x 1 + gz W b y 0) ((if 0 = dz W a x then f - e else e) * (if 1 = dz W b y then f - e else e))) (2 * gz W a x 0 + gz W b y 1) ((if 1 = dz W a x then f - e else e) * (if 0 = dz W b y then f - e else e))) (2 * gz W a x 1 + gz W b y 1) ((if 1 = dz W a x then f - e else e) * (if 1 = dz W b y then f - e else e)) k = _
  rw [adT_v, adT_v, adT_v, adT_v]
theorem tRC {W : Nat → Int32} {n a b x y x' y' : Nat} {f e : Int} (hn : n = 1 ∨ n = 2) (hy' : y' < n) (hx' : x' < 2) (ga : ∀ v, v < 2 → gz W a x v < 2) (gb : ∀ u, u < 2 → gz W b y u < n) (da : dz W a x ≤ 1) (db : dz W b y ≤ 1) : TRt n W a b x y f e 4 (n * x' + y') = TCt W a b x y f e 4 (2 * x' + y') := by
  have ic : ∀ (u v : Nat) (w : Int), u < 2 → v < n → (if n * x' + y' = n * u + v then w else 0) = (if 2 * x' + y' = 2 * u + v then w else 0) := by
    intro u v w hu hv
    have e : (n * x' + y' = n * u + v) ↔ (2 * x' + y' = 2 * u + v) := by
      rcases hn with rfl | rfl
      · omega
      · omega
    by_cases c : n * x' + y' = n * u + v
    · rw [if_pos c, if_pos (e.mp c)]
    · rw [if_neg c, if_neg (fun w => c (e.mpr w))]
  have a0 := ga 0 (by decide)
  have a1 := ga 1 (by decide)
  have b0 := gb 0 (by decide)
  have b1 := gb 1 (by decide)
  have cm : e * (f - e) = (f - e) * e := Int.mul_comm _ _
  rw [tR_e, tC_e]
  generalize dz W a x = A at *
  generalize dz W b y = B at *
  have hA : A = 0 ∨ A = 1 := by omega
  have hB : B = 0 ∨ B = 1 := by omega
  have w00 : (if (0 : Nat) = 0 then f - e else e) = f - e := if_pos rfl
  have w01 : (if (0 : Nat) = 1 then f - e else e) = e := if_neg (by decide)
  have w10 : (if (1 : Nat) = 0 then f - e else e) = e := if_neg (by decide)
  have w11 : (if (1 : Nat) = 1 then f - e else e) = f - e := if_pos rfl
  rcases hA with rfl | rfl <;> rcases hB with rfl | rfl
  · rw [w00, w10, show 1 - 0 = 1 from rfl, ic _ _ _ a0 b0, ic _ _ _ a1 b0, ic _ _ _ a0 b1, ic _ _ _ a1 b1, cm]
  · rw [w00, w10, w01, w11, show 1 - 0 = 1 from rfl, show 1 - 1 = 0 from rfl, ic _ _ _ a0 b0, ic _ _ _ a1 b0, ic _ _ _ a0 b1, ic _ _ _ a1 b1, cm]
    omega
  · rw [w00, w10, w01, w11, show 1 - 0 = 1 from rfl, show 1 - 1 = 0 from rfl, ic _ _ _ a0 b0, ic _ _ _ a1 b0, ic _ _ _ a0 b1, ic _ _ _ a1 b1, cm]
    omega
  · rw [w01, w11, show 1 - 1 = 0 from rfl, ic _ _ _ a0 b0, ic _ _ _ a1 b0, ic _ _ _ a0 b1, ic _ _ _ a1 b1, cm]
    omega
theorem tC_0 {W : Nat → Int32} {a b x y k A B : Nat} {f e : Int} (ga : ∀ v, v < 2 → gz W a x v < A) (gb : ∀ u, u < 2 → gz W b y u < B) (hB : B ≤ 2) (h : ¬ (k / 2 < A ∧ k % 2 < B)) : TCt W a b x y f e 4 k = 0 := by
  have a0 := ga 0 (by decide)
  have a1 := ga 1 (by decide)
  have b0 := gb 0 (by decide)
  have b1 := gb 1 (by decide)
  rw [tC_e, if_neg (by omega), if_neg (by omega), if_neg (by omega), if_neg (by omega)]
  rfl
/-- one determinant: the class's four rows, of which some are those of the unit, and the reference's -/
theorem det_pat {mA n : Nat} {C Q : Nat → Int} (hA : mA = 1 ∨ mA = 2) (hn : n = 1 ∨ n = 2) (h1 : ∀ s k, s < mA * n → k < mA * n → C (4 * (2 * (s / n) + s % n) + (2 * (k / n) + k % n)) = Q (4 * s + k)) (h2 : ∀ r k, r < 4 → k < 4 → ¬ (r / 2 < mA ∧ r % 2 < n) → C (4 * r + k) = if r = k then 1 else 0) (h3 : ∀ r k, r < 4 → k < 4 → (r / 2 < mA ∧ r % 2 < n) → ¬ (k / 2 < mA ∧ k % 2 < n) → C (4 * r + k) = 0) : D4 C = detF Q (mA * n) := by
  rcases hA with rfl | rfl <;> rcases hn with rfl | rfl
  · have q0 := h1 0 0 (by decide) (by decide)
    have z1 := h3 0 1 (by decide) (by decide) (by decide) (by decide)
    have z2 := h3 0 2 (by decide) (by decide) (by decide) (by decide)
    have z3 := h3 0 3 (by decide) (by decide) (by decide) (by decide)
    have z4 := h2 1 0 (by decide) (by decide) (by decide)
    have z5 := h2 1 1 (by decide) (by decide) (by decide)
    have z6 := h2 1 2 (by decide) (by decide) (by decide)
    have z7 := h2 1 3 (by decide) (by decide) (by decide)
    have z8 := h2 2 0 (by decide) (by decide) (by decide)
    have z9 := h2 2 1 (by decide) (by decide) (by decide)
    have z10 := h2 2 2 (by decide) (by decide) (by decide)
    have z11 := h2 2 3 (by decide) (by decide) (by decide)
    have z12 := h2 3 0 (by decide) (by decide) (by decide)
    have z13 := h2 3 1 (by decide) (by decide) (by decide)
    have z14 := h2 3 2 (by decide) (by decide) (by decide)
    have z15 := h2 3 3 (by decide) (by decide) (by decide)
    change C 0 = Q 0 at q0
    change C 1 = 0 at z1
    change C 2 = 0 at z2
    change C 3 = 0 at z3
    change C 4 = 0 at z4
    change C 5 = 1 at z5
    change C 6 = 0 at z6
    change C 7 = 0 at z7
    change C 8 = 0 at z8
    change C 9 = 0 at z9
    change C 10 = 1 at z10
    change C 11 = 0 at z11
    change C 12 = 0 at z12
    change C 13 = 0 at z13
    change C 14 = 0 at z14
    change C 15 = 1 at z15
    show D4 C = detF Q 1
    rw [det1]
    unfold D4
    rw [q0, z1, z2, z3, z4, z5, z6, z7, z8, z9, z10, z11, z12, z13, z14, z15]
    omega
  · have q0 := h1 0 0 (by decide) (by decide)
    have q1 := h1 0 1 (by decide) (by decide)
    have q4 := h1 1 0 (by decide) (by decide)
    have q5 := h1 1 1 (by decide) (by decide)
    have z2 := h3 0 2 (by decide) (by decide) (by decide) (by decide)
    have z3 := h3 0 3 (by decide) (by decide) (by decide) (by decide)
    have z6 := h3 1 2 (by decide) (by decide) (by decide) (by decide)
    have z7 := h3 1 3 (by decide) (by decide) (by decide) (by decide)
    have z8 := h2 2 0 (by decide) (by decide) (by decide)
    have z9 := h2 2 1 (by decide) (by decide) (by decide)
    have z10 := h2 2 2 (by decide) (by decide) (by decide)
    have z11 := h2 2 3 (by decide) (by decide) (by decide)
    have z12 := h2 3 0 (by decide) (by decide) (by decide)
    have z13 := h2 3 1 (by decide) (by decide) (by decide)
    have z14 := h2 3 2 (by decide) (by decide) (by decide)
    have z15 := h2 3 3 (by decide) (by decide) (by decide)
    change C 0 = Q 0 at q0
    change C 1 = Q 1 at q1
    change C 4 = Q 4 at q4
    change C 5 = Q 5 at q5
    change C 2 = 0 at z2
    change C 3 = 0 at z3
    change C 6 = 0 at z6
    change C 7 = 0 at z7
    change C 8 = 0 at z8
    change C 9 = 0 at z9
    change C 10 = 1 at z10
    change C 11 = 0 at z11
    change C 12 = 0 at z12
    change C 13 = 0 at z13
    change C 14 = 0 at z14
    change C 15 = 1 at z15
    show D4 C = detF Q 2
    rw [det2]
    unfold D4
    rw [q0, q1, q4, q5, z2, z3, z6, z7, z8, z9, z10, z11, z12, z13, z14, z15]
    grind
  · have q0 := h1 0 0 (by decide) (by decide)
    have q1 := h1 0 1 (by decide) (by decide)
    have q4 := h1 1 0 (by decide) (by decide)
    have q5 := h1 1 1 (by decide) (by decide)
    have z1 := h3 0 1 (by decide) (by decide) (by decide) (by decide)
    have z3 := h3 0 3 (by decide) (by decide) (by decide) (by decide)
    have z9 := h3 2 1 (by decide) (by decide) (by decide) (by decide)
    have z11 := h3 2 3 (by decide) (by decide) (by decide) (by decide)
    have z4 := h2 1 0 (by decide) (by decide) (by decide)
    have z5 := h2 1 1 (by decide) (by decide) (by decide)
    have z6 := h2 1 2 (by decide) (by decide) (by decide)
    have z7 := h2 1 3 (by decide) (by decide) (by decide)
    have z12 := h2 3 0 (by decide) (by decide) (by decide)
    have z13 := h2 3 1 (by decide) (by decide) (by decide)
    have z14 := h2 3 2 (by decide) (by decide) (by decide)
    have z15 := h2 3 3 (by decide) (by decide) (by decide)
    change C 0 = Q 0 at q0
    change C 2 = Q 1 at q1
    change C 8 = Q 4 at q4
    change C 10 = Q 5 at q5
    change C 1 = 0 at z1
    change C 3 = 0 at z3
    change C 9 = 0 at z9
    change C 11 = 0 at z11
    change C 4 = 0 at z4
    change C 5 = 1 at z5
    change C 6 = 0 at z6
    change C 7 = 0 at z7
    change C 12 = 0 at z12
    change C 13 = 0 at z13
    change C 14 = 0 at z14
    change C 15 = 1 at z15
    show D4 C = detF Q 2
    rw [det2]
    unfold D4
    rw [q0, q1, q4, q5, z1, z3, z9, z11, z4, z5, z6, z7, z12, z13, z14, z15]
    grind
  · have g : ∀ t, t < 16 → C t = Q t := fun t ht => by
      have e := h1 (t / 4) (t % 4) (by omega) (by omega)
      rw [show 4 * (2 * (t / 4 / 2) + t / 4 % 2) + (2 * (t % 4 / 2) + t % 4 % 2) = t by omega, show 4 * (t / 4) + t % 4 = t by omega] at e
      exact e
    show D4 C = detF Q 4
    rw [det4]
    unfold D4
    rw [g 0 (by decide), g 1 (by decide), g 2 (by decide), g 3 (by decide), g 4 (by decide), g 5 (by decide), g 6 (by decide), g 7 (by decide), g 8 (by decide), g 9 (by decide), g 10 (by decide), g 11 (by decide), g 12 (by decide), g 13 (by decide), g 14 (by decide), g 15 (by decide)]
/-! how great it can be -/
theorem nle {a b : Int} (ha : a ≤ 0) (hb : 0 ≤ b) : a * b ≤ 0 := Int.mul_nonpos_of_nonpos_of_nonneg ha hb
theorem up4 {Q : Nat → Int} (o1 : Q 1 ≤ 0) (o2 : Q 2 ≤ 0) (o3 : Q 3 ≤ 0) (o4 : Q 4 ≤ 0) (o6 : Q 6 ≤ 0) (o7 : Q 7 ≤ 0) (o8 : Q 8 ≤ 0) (o9 : Q 9 ≤ 0) (o11 : Q 11 ≤ 0) (o12 : Q 12 ≤ 0) (o13 : Q 13 ≤ 0) (o14 : Q 14 ≤ 0) (r0 : 0 < Q 0 + Q 1 + Q 2 + Q 3) (r1 : 0 < Q 4 + Q 5 + Q 6 + Q 7) (r2 : 0 < Q 8 + Q 9 + Q 10 + Q 11) (r3 : 0 < Q 12 + Q 13 + Q 14 + Q 15) : D4 Q ≤ Q 0 * (Q 5 * (Q 10 * Q 15)) := by
  unfold D4
  generalize Q 0 = q0 at *
  generalize Q 1 = q1 at *
  generalize Q 2 = q2 at *
  generalize Q 3 = q3 at *
  generalize Q 4 = q4 at *
  generalize Q 5 = q5 at *
  generalize Q 6 = q6 at *
  generalize Q 7 = q7 at *
  generalize Q 8 = q8 at *
  generalize Q 9 = q9 at *
  generalize Q 10 = q10 at *
  generalize Q 11 = q11 at *
  generalize Q 12 = q12 at *
  generalize Q 13 = q13 at *
  generalize Q 14 = q14 at *
  generalize Q 15 = q15 at *
  -- two by two
  have p1 : 0 < q10 * q15 - q11 * q14 := pos2 o11 o14 (by omega) (by omega)
  have p2 : 0 < q5 * q15 - q7 * q13 := pos2 o7 o13 (by omega) (by omega)
  have p3 : 0 < q5 * q10 - q6 * q9 := pos2 o6 o9 (by omega) (by omega)
  have d1 : q9 * q15 - q11 * q13 ≤ 0 := by
    have h1 := nle o9 (show 0 ≤ q15 by omega)
    have h2 := nn_mul o11 o13
    omega
  have d2 : 0 ≤ q9 * q14 - q10 * q13 := by
    have h1 := nn_mul o9 o14
    have h2 := np_mul (show 0 < q10 by omega) o13
    omega
  have d3 : q6 * q15 - q7 * q14 ≤ 0 := by
    have h1 := nle o6 (show 0 ≤ q15 by omega)
    have h2 := nn_mul o7 o14
    omega
  have d4 : q5 * q14 - q6 * q13 ≤ 0 := by
    have h1 := np_mul (show 0 < q5 by omega) o14
    have h2 := nn_mul o6 o13
    omega
  have d5 : 0 ≤ q6 * q11 - q7 * q10 := by
    have h1 := nn_mul o6 o11
    have h2 := nle o7 (show 0 ≤ q10 by omega)
    omega
  have d6 : q5 * q11 - q7 * q9 ≤ 0 := by
    have h1 := np_mul (show 0 < q5 by omega) o11
    have h2 := nn_mul o7 o9
    omega
  have e1 : q10 * q15 - q11 * q14 ≤ q10 * q15 := by
    have := nn_mul o11 o14
    omega
  generalize q10 * q15 - q11 * q14 = P1 at *
  generalize q5 * q15 - q7 * q13 = P2 at *
  generalize q5 * q10 - q6 * q9 = P3 at *
  generalize q9 * q15 - q11 * q13 = E1 at *
  generalize q9 * q14 - q10 * q13 = E2 at *
  generalize q6 * q15 - q7 * q14 = E3 at *
  generalize q5 * q14 - q6 * q13 = E4 at *
  generalize q6 * q11 - q7 * q10 = E5 at *
  generalize q5 * q11 - q7 * q9 = E6 at *
  generalize q10 * q15 = R at *
  -- three by three
  have m0 : q5 * P1 - q6 * E1 + q7 * E2 ≤ q5 * R := by
    have h1 := Int.mul_le_mul_of_nonneg_left e1 (show 0 ≤ q5 by omega)
    have h2 := nn_mul o6 d1
    have h3 := nle o7 d2
    omega
  have m1 : q1 * P1 - q2 * E1 + q3 * E2 ≤ 0 := by
    have h1 := nle o1 (show 0 ≤ P1 by omega)
    have h2 := nn_mul o2 d1
    have h3 := nle o3 d2
    omega
  have m2 : 0 ≤ q1 * E3 - q2 * P2 + q3 * E4 := by
    have h1 := nn_mul o1 d3
    have h2 := nle o2 (show 0 ≤ P2 by omega)
    have h3 := nn_mul o3 d4
    omega
  have m3 : q1 * E5 - q2 * E6 + q3 * P3 ≤ 0 := by
    have h1 := nle o1 d5
    have h2 := nn_mul o2 d6
    have h3 := nle o3 (show 0 ≤ P3 by omega)
    omega
  generalize q5 * P1 - q6 * E1 + q7 * E2 = M0 at *
  generalize q1 * P1 - q2 * E1 + q3 * E2 = M1 at *
  generalize q1 * E3 - q2 * P2 + q3 * E4 = M2 at *
  generalize q1 * E5 - q2 * E6 + q3 * P3 = M3 at *
  have h0 := Int.mul_le_mul_of_nonneg_left m0 (show 0 ≤ q0 by omega)
  have h1 := nn_mul o4 m1
  have h2 := nle o8 m2
  have h3 := nn_mul o12 m3
  omega
theorem detUp {N : Mem} {all : Nat} {P q f : Int} (hn : all = 1 ∨ all = 2 ∨ all = 4) (h : ∀ s, s < all → rowT N all s P q f (f * f)) (f1 : 1 ≤ f) (f9 : f ≤ 9) (p1 : 1 ≤ P) (p2 : P < q) (q9 : q ≤ 9) : detF (fun t => (N.2 110 t).toInt) all ≤ 282429536481 := by
  obtain ⟨g1, g2, g3, g4⟩ := qPf f1 f9 p1 p2 q9
  rcases hn with rfl | rfl | rfl
  · obtain ⟨T, t1, t2, t3, t4⟩ := (h 0 (by decide)).vals (by decide) f1 f9 p1 p2 q9
    obtain ⟨v0, v1, v2⟩ := t4 0 (by decide)
    rw [if_pos rfl] at v0
    rw [det1]
    show (N.2 110 (4 * 0 + 0)).toInt ≤ 282429536481
    omega
  · obtain ⟨T, t1, t2, t3, t4⟩ := (h 0 (by decide)).vals (by decide) f1 f9 p1 p2 q9
    obtain ⟨S, s1, s2, s3, s4⟩ := (h 1 (by decide)).vals (by decide) f1 f9 p1 p2 q9
    have v0 := t4 0 (by decide)
    have v1 := t4 1 (by decide)
    have u0 := s4 0 (by decide)
    have u1 := s4 1 (by decide)
    simp only [if_true, Nat.reduceMul, Nat.reduceAdd, Nat.reduceEqDiff, if_false] at v0 v1 u0 u1
    rw [det2]
    generalize (N.2 110 0).toInt = x0 at *
    generalize (N.2 110 1).toInt = x1 at *
    generalize (N.2 110 4).toInt = x4 at *
    generalize (N.2 110 5).toInt = x5 at *
    have m1 := nn_mul (show x1 ≤ 0 by omega) (show x4 ≤ 0 by omega)
    have m2 := mulb (a := x0) (b := x5) (m := 729) (n := 729) (by omega) (by omega) (by omega) (by omega)
    omega
  · obtain ⟨T, t1, t2, t3, t4⟩ := (h 0 (by decide)).vals (by decide) f1 f9 p1 p2 q9
    obtain ⟨S, s1, s2, s3, s4⟩ := (h 1 (by decide)).vals (by decide) f1 f9 p1 p2 q9
    obtain ⟨U, u1, u2, u3, u4⟩ := (h 2 (by decide)).vals (by decide) f1 f9 p1 p2 q9
    obtain ⟨V, v1, v2, v3, v4⟩ := (h 3 (by decide)).vals (by decide) f1 f9 p1 p2 q9
    have a0 := t4 0 (by decide)
    have a1 := t4 1 (by decide)
    have a2 := t4 2 (by decide)
    have a3 := t4 3 (by decide)
    have b0 := s4 0 (by decide)
    have b1 := s4 1 (by decide)
    have b2 := s4 2 (by decide)
    have b3 := s4 3 (by decide)
    have c0 := u4 0 (by decide)
    have c1 := u4 1 (by decide)
    have c2 := u4 2 (by decide)
    have c3 := u4 3 (by decide)
    have d0 := v4 0 (by decide)
    have d1 := v4 1 (by decide)
    have d2 := v4 2 (by decide)
    have d3 := v4 3 (by decide)
    simp only [if_true, Nat.reduceMul, Nat.reduceAdd, Nat.reduceEqDiff, if_false] at a0 a1 a2 a3 b0 b1 b2 b3 c0 c1 c2 c3 d0 d1 d2 d3
    have e1 : P * (T 0 + T 1 + T 2 + T 3) = P * T 0 + P * T 1 + P * T 2 + P * T 3 := by grind
    have e2 : P * (S 0 + S 1 + S 2 + S 3) = P * S 0 + P * S 1 + P * S 2 + P * S 3 := by grind
    have e3 : P * (U 0 + U 1 + U 2 + U 3) = P * U 0 + P * U 1 + P * U 2 + P * U 3 := by grind
    have e4 : P * (V 0 + V 1 + V 2 + V 3) = P * V 0 + P * V 1 + P * V 2 + P * V 3 := by grind
    rw [t3] at e1
    rw [s3] at e2
    rw [u3] at e3
    rw [v3] at e4
    rw [det4]
    refine Int.le_trans (up4 ?_ ?_ ?_ ?_ ?_ ?_ ?_ ?_ ?_ ?_ ?_ ?_ ?_ ?_ ?_ ?_) ?_
    case refine_17 =>
      have k1 : 0 ≤ (N.2 110 0).toInt ∧ (N.2 110 0).toInt ≤ 729 := by omega
      have k2 : 0 ≤ (N.2 110 5).toInt ∧ (N.2 110 5).toInt ≤ 729 := by omega
      have k3 : 0 ≤ (N.2 110 10).toInt ∧ (N.2 110 10).toInt ≤ 729 := by omega
      have k4 : 0 ≤ (N.2 110 15).toInt ∧ (N.2 110 15).toInt ≤ 729 := by omega
      have m1 := mulb (a := (N.2 110 10).toInt) (b := (N.2 110 15).toInt) (m := 729) (n := 729) (by omega) (by omega) (by omega) (by omega)
      have m2 := mulb (a := (N.2 110 5).toInt) (b := (N.2 110 10).toInt * (N.2 110 15).toInt) (m := 729) (n := 531441) (by omega) (by omega) (by omega) (by omega)
      have m3 := mulb (a := (N.2 110 0).toInt) (b := (N.2 110 5).toInt * ((N.2 110 10).toInt * (N.2 110 15).toInt)) (m := 729) (n := 387420489) (by omega) (by omega) (by omega) (by omega)
      omega
    all_goals omega
