/-! ===== the reference's doubted worth ===== -/
def D4 (Q : Nat → Int) : Int := Q 0 * (Q 5 * (Q 10 * Q 15 - Q 11 * Q 14) - Q 6 * (Q 9 * Q 15 - Q 11 * Q 13) + Q 7 * (Q 9 * Q 14 - Q 10 * Q 13)) - Q 4 * (Q 1 * (Q 10 * Q 15 - Q 11 * Q 14) - Q 2 * (Q 9 * Q 15 - Q 11 * Q 13) + Q 3 * (Q 9 * Q 14 - Q 10 * Q 13)) + Q 8 * (Q 1 * (Q 6 * Q 15 - Q 7 * Q 14) - Q 2 * (Q 5 * Q 15 - Q 7 * Q 13) + Q 3 * (Q 5 * Q 14 - Q 6 * Q 13)) - Q 12 * (Q 1 * (Q 6 * Q 11 - Q 7 * Q 10) - Q 2 * (Q 5 * Q 11 - Q 7 * Q 9) + Q 3 * (Q 5 * Q 10 - Q 6 * Q 9))
/-- what step s adds at t -/
def addq (Q : Nat → Int) (s : Nat) : Nat → Nat → Int
  | 0, _ => 0
  | j + 1, t => addq Q s j t + (if nbit s j = true ∧ t = ntgt s j then nsgn s j * Q (4 * nrow s + j) else 0)
theorem ntab6 : ∀ s, s < 16 → ∀ j, j < 4 → nbit s j = true → ¬ s = ntgt s j := by decide +kernel
theorem addq_self {Q : Nat → Int} {s : Nat} (hs : s < 16) : ∀ j, j ≤ 4 → addq Q s j s = 0 := by
  intro j
  induction j with
  | zero => intro _; rfl
  | succ j ih =>
    intro hj
    show addq Q s j s + (if nbit s j = true ∧ s = ntgt s j then nsgn s j * Q (4 * nrow s + j) else 0) = 0
    rw [ih (by omega), if_neg (fun q => ntab6 s hs j (by omega) q.1 q.2)]
    rfl
theorem mjs_add {Q m : Nat → Int} {s : Nat} (hs : s < 16) : ∀ j, j ≤ 4 → ∀ t, mjs Q s j m t = m t + addq Q s j t * m s := by
  intro j
  induction j with
  | zero =>
    intro _ t
    show m t = m t + 0 * m s
    omega
  | succ j ih =>
    intro hj t
    show mstep Q s j (mjs Q s j m) t = m t + (addq Q s j t + (if nbit s j = true ∧ t = ntgt s j then nsgn s j * Q (4 * nrow s + j) else 0)) * m s
    have i1 := ih (by omega) t
    have i2 := ih (by omega) s
    rw [addq_self hs j (by omega)] at i2
    have i3 : mjs Q s j m s = m s := by omega
    unfold mstep
    by_cases hb : nbit s j = true
    · rw [if_pos hb]
      by_cases ht : t = ntgt s j
      · rw [if_pos ht, if_pos ⟨hb, ht⟩, i1, i3, Int.add_mul]
        omega
      · rw [if_neg ht, if_neg (fun q => ht q.2), i1]
        rw [Int.add_zero]
    · rw [if_neg hb, if_neg (fun q => hb q.1), i1, Int.add_zero]
def sumN (f : Nat → Int) : Nat → Int
  | 0 => 0
  | k + 1 => sumN f k + f k
theorem mss_sum (Q : Nat → Int) : ∀ k, k ≤ 16 → ∀ t, mss Q 4 k t = (if t = 0 then 1 else 0) + sumN (fun i => addq Q i 4 t * mss Q 4 i i) k := by
  intro k
  induction k with
  | zero =>
    intro _ t
    show (if t = 0 then (1 : Int) else 0) = (if t = 0 then 1 else 0) + 0
    omega
  | succ k ih =>
    intro hk t
    show mjs Q k 4 (mss Q 4 k) t = (if t = 0 then (1 : Int) else 0) + (sumN (fun i => addq Q i 4 t * mss Q 4 i i) k + addq Q k 4 t * mss Q 4 k k)
    rw [mjs_add (by omega) 4 (by decide), ih (by omega) t]
    omega
theorem w0 (Q : Nat → Int) : mss Q 4 0 0 = 1 := rfl
theorem w1 (Q : Nat → Int) : mss Q 4 1 1 = Q 0 := by
  rw [mss_sum Q 1 (by decide)]
  simp +decide [sumN, addq, ntab4, ntab5, w0]
theorem w2 (Q : Nat → Int) : mss Q 4 2 2 = Q 1 := by
  rw [mss_sum Q 2 (by decide)]
  simp +decide [sumN, addq, ntab4, ntab5, w0]
theorem w3 (Q : Nat → Int) : mss Q 4 3 3 = Q 5 * Q 0 - Q 4 * Q 1 := by
  rw [mss_sum Q 3 (by decide)]
  simp +decide [sumN, addq, ntab4, ntab5, w1, w2]
  try grind
theorem w4 (Q : Nat → Int) : mss Q 4 4 4 = Q 2 := by
  rw [mss_sum Q 4 (by decide)]
  simp +decide [sumN, addq, ntab4, ntab5, w0]
theorem w5 (Q : Nat → Int) : mss Q 4 5 5 = Q 6 * Q 0 - Q 4 * Q 2 := by
  rw [mss_sum Q 5 (by decide)]
  simp +decide [sumN, addq, ntab4, ntab5, w1, w4]
  try grind
theorem w6 (Q : Nat → Int) : mss Q 4 6 6 = Q 6 * Q 1 - Q 5 * Q 2 := by
  rw [mss_sum Q 6 (by decide)]
  simp +decide [sumN, addq, ntab4, ntab5, w2, w4]
  try grind
theorem w7 (Q : Nat → Int) : mss Q 4 7 7 = Q 10 * (Q 5 * Q 0 - Q 4 * Q 1) - Q 9 * (Q 6 * Q 0 - Q 4 * Q 2) + Q 8 * (Q 6 * Q 1 - Q 5 * Q 2) := by
  rw [mss_sum Q 7 (by decide)]
  simp +decide [sumN, addq, ntab4, ntab5, w3, w5, w6]
  try grind
theorem w8 (Q : Nat → Int) : mss Q 4 8 8 = Q 3 := by
  rw [mss_sum Q 8 (by decide)]
  simp +decide [sumN, addq, ntab4, ntab5, w0]
theorem w9 (Q : Nat → Int) : mss Q 4 9 9 = Q 7 * Q 0 - Q 4 * Q 3 := by
  rw [mss_sum Q 9 (by decide)]
  simp +decide [sumN, addq, ntab4, ntab5, w1, w8]
  try grind
theorem w10 (Q : Nat → Int) : mss Q 4 10 10 = Q 7 * Q 1 - Q 5 * Q 3 := by
  rw [mss_sum Q 10 (by decide)]
  simp +decide [sumN, addq, ntab4, ntab5, w2, w8]
  try grind
theorem w11 (Q : Nat → Int) : mss Q 4 11 11 = Q 11 * (Q 5 * Q 0 - Q 4 * Q 1) - Q 9 * (Q 7 * Q 0 - Q 4 * Q 3) + Q 8 * (Q 7 * Q 1 - Q 5 * Q 3) := by
  rw [mss_sum Q 11 (by decide)]
  simp +decide [sumN, addq, ntab4, ntab5, w3, w9, w10]
  try grind
theorem w12 (Q : Nat → Int) : mss Q 4 12 12 = Q 7 * Q 2 - Q 6 * Q 3 := by
  rw [mss_sum Q 12 (by decide)]
  simp +decide [sumN, addq, ntab4, ntab5, w4, w8]
  try grind
theorem w13 (Q : Nat → Int) : mss Q 4 13 13 = Q 11 * (Q 6 * Q 0 - Q 4 * Q 2) - Q 10 * (Q 7 * Q 0 - Q 4 * Q 3) + Q 8 * (Q 7 * Q 2 - Q 6 * Q 3) := by
  rw [mss_sum Q 13 (by decide)]
  simp +decide [sumN, addq, ntab4, ntab5, w5, w9, w12]
  try grind
theorem w14 (Q : Nat → Int) : mss Q 4 14 14 = Q 11 * (Q 6 * Q 1 - Q 5 * Q 2) - Q 10 * (Q 7 * Q 1 - Q 5 * Q 3) + Q 9 * (Q 7 * Q 2 - Q 6 * Q 3) := by
  rw [mss_sum Q 14 (by decide)]
  simp +decide [sumN, addq, ntab4, ntab5, w6, w10, w12]
  try grind
theorem w15 (Q : Nat → Int) : mss Q 4 15 15 = Q 15 * (Q 10 * (Q 5 * Q 0 - Q 4 * Q 1) - Q 9 * (Q 6 * Q 0 - Q 4 * Q 2) + Q 8 * (Q 6 * Q 1 - Q 5 * Q 2)) - Q 14 * (Q 11 * (Q 5 * Q 0 - Q 4 * Q 1) - Q 9 * (Q 7 * Q 0 - Q 4 * Q 3) + Q 8 * (Q 7 * Q 1 - Q 5 * Q 3)) + Q 13 * (Q 11 * (Q 6 * Q 0 - Q 4 * Q 2) - Q 10 * (Q 7 * Q 0 - Q 4 * Q 3) + Q 8 * (Q 7 * Q 2 - Q 6 * Q 3)) - Q 12 * (Q 11 * (Q 6 * Q 1 - Q 5 * Q 2) - Q 10 * (Q 7 * Q 1 - Q 5 * Q 3) + Q 9 * (Q 7 * Q 2 - Q 6 * Q 3)) := by
  rw [mss_sum Q 15 (by decide)]
  simp +decide [sumN, addq, ntab4, ntab5, w7, w11, w13, w14]
  try grind
theorem det4 (Q : Nat → Int) : detF Q 4 = D4 Q := by
  show mss Q 4 16 15 = _
  have e : mss Q 4 16 15 = mss Q 4 15 15 := by
    rw [mss_sum Q 16 (by decide), mss_sum Q 15 (by decide)]
    show _ + (sumN _ 15 + addq Q 15 4 15 * mss Q 4 15 15) = _
    rw [addq_self (by decide) 4 (by decide)]
    omega
  rw [e, w15]
  unfold D4
  grind
theorem pos2 {a b c d : Int} (hb : b ≤ 0) (hc : c ≤ 0) (h1 : 0 < a + b) (h2 : 0 < c + d) : 0 < a * d - b * c := by
  have m1 : (-b) * (-c) ≤ (-b) * d := Int.mul_le_mul_of_nonneg_left (by omega) (by omega)
  have m2 : (-b) * d < a * d := Int.mul_lt_mul_of_pos_right (by omega) (by omega)
  rw [Int.neg_mul_neg] at m1
  omega
theorem pos_cancel {a x : Int} (ha : 0 < a) (h : 0 < a * x) : 0 < x := pos_of_mul ha h
theorem np_mul {a b : Int} (ha : 0 < a) (hb : b ≤ 0) : a * b ≤ 0 := Int.mul_nonpos_of_nonneg_of_nonpos (by omega) hb
theorem nn_mul {a b : Int} (ha : a ≤ 0) (hb : b ≤ 0) : 0 ≤ a * b := Int.mul_nonneg_of_nonpos_of_nonpos ha hb
theorem pos3 {a0 a1 a2 b0 b1 b2 c0 c1 c2 : Int} (ha1 : a1 ≤ 0) (ha2 : a2 ≤ 0) (hb0 : b0 ≤ 0) (hb2 : b2 ≤ 0) (hc0 : c0 ≤ 0) (hc1 : c1 ≤ 0) (h1 : 0 < a0 + a1 + a2) (h2 : 0 < b0 + b1 + b2) (h3 : 0 < c0 + c1 + c2) : 0 < a0 * (b1 * c2 - b2 * c1) - a1 * (b0 * c2 - b2 * c0) + a2 * (b0 * c1 - b1 * c0) := by
  have p0 : 0 < a0 := by omega
  have e : a0 * (a0 * (b1 * c2 - b2 * c1) - a1 * (b0 * c2 - b2 * c0) + a2 * (b0 * c1 - b1 * c0)) = (a0 * b1 - b0 * a1) * (a0 * c2 - c0 * a2) - (a0 * b2 - b0 * a2) * (a0 * c1 - c0 * a1) := by grind
  refine pos_cancel p0 ?_
  rw [e]
  refine pos2 ?_ ?_ ?_ ?_
  · have := np_mul p0 hb2
    have := nn_mul hb0 ha2
    omega
  · have := np_mul p0 hc1
    have := nn_mul hc0 ha1
    omega
  · have e2 : a0 * b1 - b0 * a1 + (a0 * b2 - b0 * a2) = a0 * (b0 + b1 + b2) - b0 * (a0 + a1 + a2) := by grind
    have := Int.mul_pos p0 h2
    have : b0 * (a0 + a1 + a2) ≤ 0 := Int.mul_nonpos_of_nonpos_of_nonneg hb0 (by omega)
    omega
  · have e2 : a0 * c1 - c0 * a1 + (a0 * c2 - c0 * a2) = a0 * (c0 + c1 + c2) - c0 * (a0 + a1 + a2) := by grind
    have := Int.mul_pos p0 h3
    have : c0 * (a0 + a1 + a2) ≤ 0 := Int.mul_nonpos_of_nonpos_of_nonneg hc0 (by omega)
    omega
theorem pos4s {q0 q1 q2 q3 q4 q5 q6 q7 q8 q9 q10 q11 q12 q13 q14 q15 : Int} : q0 * (q0 * (q0 * (q5 * (q10 * q15 - q11 * q14) - q6 * (q9 * q15 - q11 * q13) + q7 * (q9 * q14 - q10 * q13)) - q4 * (q1 * (q10 * q15 - q11 * q14) - q2 * (q9 * q15 - q11 * q13) + q3 * (q9 * q14 - q10 * q13)) + q8 * (q1 * (q6 * q15 - q7 * q14) - q2 * (q5 * q15 - q7 * q13) + q3 * (q5 * q14 - q6 * q13)) - q12 * (q1 * (q6 * q11 - q7 * q10) - q2 * (q5 * q11 - q7 * q9) + q3 * (q5 * q10 - q6 * q9)))) = (q0 * q5 - q4 * q1) * ((q0 * q10 - q8 * q2) * (q0 * q15 - q12 * q3) - (q0 * q11 - q8 * q3) * (q0 * q14 - q12 * q2)) - (q0 * q6 - q4 * q2) * ((q0 * q9 - q8 * q1) * (q0 * q15 - q12 * q3) - (q0 * q11 - q8 * q3) * (q0 * q13 - q12 * q1)) + (q0 * q7 - q4 * q3) * ((q0 * q9 - q8 * q1) * (q0 * q14 - q12 * q2) - (q0 * q10 - q8 * q2) * (q0 * q13 - q12 * q1)) := by grind
theorem schur_off {a x y z : Int} (ha : 0 < a) (hx : x ≤ 0) (hy : y ≤ 0) (hz : z ≤ 0) : a * x - y * z ≤ 0 := by
  have := np_mul ha hx
  have := nn_mul hy hz
  omega
theorem schur_row {a a1 a2 a3 b0 b1 b2 b3 : Int} (ha : 0 < a) (hb : b0 ≤ 0) (h1 : 0 < a + a1 + a2 + a3) (h2 : 0 < b0 + b1 + b2 + b3) : 0 < (a * b1 - b0 * a1) + (a * b2 - b0 * a2) + (a * b3 - b0 * a3) := by
  have e2 : (a * b1 - b0 * a1) + (a * b2 - b0 * a2) + (a * b3 - b0 * a3) = a * (b0 + b1 + b2 + b3) - b0 * (a + a1 + a2 + a3) := by grind
  have := Int.mul_pos ha h2
  have : b0 * (a + a1 + a2 + a3) ≤ 0 := Int.mul_nonpos_of_nonpos_of_nonneg hb (by omega)
  omega
theorem pos4 {Q : Nat → Int} (o1 : Q 1 ≤ 0) (o2 : Q 2 ≤ 0) (o3 : Q 3 ≤ 0) (o4 : Q 4 ≤ 0) (o6 : Q 6 ≤ 0) (o7 : Q 7 ≤ 0) (o8 : Q 8 ≤ 0) (o9 : Q 9 ≤ 0) (o11 : Q 11 ≤ 0) (o12 : Q 12 ≤ 0) (o13 : Q 13 ≤ 0) (o14 : Q 14 ≤ 0) (r0 : 0 < Q 0 + Q 1 + Q 2 + Q 3) (r1 : 0 < Q 4 + Q 5 + Q 6 + Q 7) (r2 : 0 < Q 8 + Q 9 + Q 10 + Q 11) (r3 : 0 < Q 12 + Q 13 + Q 14 + Q 15) : 0 < D4 Q := by
  have p0 : 0 < Q 0 := by omega
  refine pos_cancel p0 (pos_cancel p0 ?_)
  unfold D4
  rw [pos4s]
  exact pos3 (schur_off p0 o6 o4 o2) (schur_off p0 o7 o4 o3) (schur_off p0 o9 o8 o1) (schur_off p0 o11 o8 o3) (schur_off p0 o13 o12 o1) (schur_off p0 o14 o12 o2) (schur_row p0 o4 r0 r1) (schur_row p0 o8 r0 r2) (schur_row p0 o12 r0 r3)
/-- bounds: the first column apart -/
theorem b3 {m a0 a1 a2 b0 b1 b2 c0 c1 c2 : Int} (hm : 0 ≤ m) (h1 : -m ≤ a0 ∧ a0 ≤ m) (h2 : -m ≤ a1 ∧ a1 ≤ m) (h3 : -m ≤ a2 ∧ a2 ≤ m) (h4 : -m ≤ b0 ∧ b0 ≤ m) (h5 : -m ≤ b1 ∧ b1 ≤ m) (h6 : -m ≤ b2 ∧ b2 ≤ m) (h7 : -m ≤ c0 ∧ c0 ≤ m) (h8 : -m ≤ c1 ∧ c1 ≤ m) (h9 : -m ≤ c2 ∧ c2 ≤ m) : -(6 * (m * (m * m))) ≤ a0 * (b1 * c2 - b2 * c1) - a1 * (b0 * c2 - b2 * c0) + a2 * (b0 * c1 - b1 * c0) ∧ a0 * (b1 * c2 - b2 * c1) - a1 * (b0 * c2 - b2 * c0) + a2 * (b0 * c1 - b1 * c0) ≤ 6 * (m * (m * m)) := by
  have x1 := mulb h5.1 h5.2 h9.1 h9.2
  have x2 := mulb h6.1 h6.2 h8.1 h8.2
  have x3 := mulb h4.1 h4.2 h9.1 h9.2
  have x4 := mulb h6.1 h6.2 h7.1 h7.2
  have x5 := mulb h4.1 h4.2 h8.1 h8.2
  have x6 := mulb h5.1 h5.2 h7.1 h7.2
  have y1 := mulb (b := b1 * c2 - b2 * c1) (n := 2 * (m * m)) h1.1 h1.2 (by omega) (by omega)
  have y2 := mulb (b := b0 * c2 - b2 * c0) (n := 2 * (m * m)) h2.1 h2.2 (by omega) (by omega)
  have y3 := mulb (b := b0 * c1 - b1 * c0) (n := 2 * (m * m)) h3.1 h3.2 (by omega) (by omega)
  have e : m * (2 * (m * m)) = 2 * (m * (m * m)) := by grind
  rw [e] at y1 y2 y3
  omega
/-- entries behind the doubts: the first column within c, the others within 729 -/
def sqB (Q : Nat → Int) (n : Nat) (c : Int) : Prop := ∀ i, i < n → (-c ≤ Q (4 * i) ∧ Q (4 * i) ≤ c) ∧ ∀ j, 0 < j → j < n → -729 ≤ Q (4 * i + j) ∧ Q (4 * i + j) ≤ 729
theorem detB {Q : Nat → Int} {n : Nat} {c : Int} (hn : n = 1 ∨ n = 2 ∨ n = 4) (hc : 0 ≤ c) (h : sqB Q n c) : -(c * 9298091736) ≤ detF Q n ∧ detF Q n ≤ c * 9298091736 := by
  rcases hn with rfl | rfl | rfl
  · obtain ⟨h0, -⟩ := h 0 (by decide)
    rw [Nat.mul_zero] at h0
    rw [det1]
    omega
  · obtain ⟨h0, g0⟩ := h 0 (by decide)
    obtain ⟨h1, g1⟩ := h 1 (by decide)
    have q1 := g0 1 (by decide) (by decide)
    have q5 := g1 1 (by decide) (by decide)
    simp only [Nat.reduceMul, Nat.reduceAdd] at h0 h1 q1 q5
    have m1 := mulb h0.1 h0.2 q5.1 q5.2
    have m2 := mulb h1.1 h1.2 q1.1 q1.2
    rw [det2, Int.mul_comm (Q 1)]
    omega
  · obtain ⟨h0, g0⟩ := h 0 (by decide)
    obtain ⟨h1, g1⟩ := h 1 (by decide)
    obtain ⟨h2, g2⟩ := h 2 (by decide)
    obtain ⟨h3, g3⟩ := h 3 (by decide)
    have q1 := g0 1 (by decide) (by decide)
    have q2 := g0 2 (by decide) (by decide)
    have q3 := g0 3 (by decide) (by decide)
    have q5 := g1 1 (by decide) (by decide)
    have q6 := g1 2 (by decide) (by decide)
    have q7 := g1 3 (by decide) (by decide)
    have q9 := g2 1 (by decide) (by decide)
    have q10 := g2 2 (by decide) (by decide)
    have q11 := g2 3 (by decide) (by decide)
    have q13 := g3 1 (by decide) (by decide)
    have q14 := g3 2 (by decide) (by decide)
    have q15 := g3 3 (by decide) (by decide)
    simp only [Nat.reduceMul, Nat.reduceAdd] at h0 h1 h2 h3 q1 q2 q3 q5 q6 q7 q9 q10 q11 q13 q14 q15
    have a1 := b3 (m := 729) (by decide) q5 q6 q7 q9 q10 q11 q13 q14 q15
    have a2 := b3 (m := 729) (by decide) q1 q2 q3 q9 q10 q11 q13 q14 q15
    have a3 := b3 (m := 729) (by decide) q1 q2 q3 q5 q6 q7 q13 q14 q15
    have a4 := b3 (m := 729) (by decide) q1 q2 q3 q5 q6 q7 q9 q10 q11
    simp only [Int.reduceMul, Int.reduceNeg] at a1 a2 a3 a4
    have c1 := mulb h0.1 h0.2 a1.1 a1.2
    have c2 := mulb h1.1 h1.2 a2.1 a2.2
    have c3 := mulb h2.1 h2.2 a3.1 a3.2
    have c4 := mulb h3.1 h3.2 a4.1 a4.2
    rw [det4]
    unfold D4
    omega
