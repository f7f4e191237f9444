theorem jbN_e : ∃ N : Int, 1000000000 ≤ N ∧ jbN 0 = N * N * N + 1 ∧ jbN 1 = N * N * N + N ∧ jbN 2 = N * N * N + N * N := ⟨1000000000000, by decide, rfl, rfl, rfl⟩
theorem jStep {K x r : Int} (h : K * x + r = 0) (b1 : -K < r) (b2 : r < K) : x = 0 ∧ r = 0 := by
  have hK : 0 < K := by omega
  have x0 : x = 0 := by
    rcases Int.lt_trichotomy x 0 with c | c | c
    · have := Int.mul_le_mul_of_nonneg_left (show x ≤ -1 by omega) (show 0 ≤ K by omega)
      omega
    · exact c
    · have := Int.mul_le_mul_of_nonneg_left (show 1 ≤ x by omega) (show 0 ≤ K by omega)
      omega
  rw [x0] at h
  exact ⟨x0, by omega⟩
theorem jStepn {K x r : Int} (hK : 0 < K) (h : 0 ≤ K * x + r) (b2 : r < K) : 0 ≤ x := by
  rcases Int.lt_or_le x 0 with c | c
  · exfalso
    have := Int.mul_le_mul_of_nonneg_left (show x ≤ -1 by omega) (show 0 ≤ K by omega)
    omega
  · exact c
theorem jSum (N M0 M1 M2 : Int) : (N * N * N + 1) * M0 + (N * N * N + N) * M1 + (N * N * N + N * N) * M2 = N * N * N * (M0 + M1 + M2) + (N * N * M2 + (N * M1 + M0)) := by
  grind
theorem jSmall {N M0 M1 M2 : Int} (hN : 1000000000 ≤ N) (h0 : jbd 200000000 M0) (h1 : jbd 200000000 M1) (h2 : jbd 200000000 M2) : (-(N * N * N) < N * N * M2 + (N * M1 + M0) ∧ N * N * M2 + (N * M1 + M0) < N * N * N) ∧ (-(N * N) < N * M1 + M0 ∧ N * M1 + M0 < N * N) ∧ 0 < N * N * N := by
  obtain ⟨a1, a2⟩ := h0
  obtain ⟨b1, b2⟩ := h1
  obtain ⟨c1, c2⟩ := h2
  have u1 := Int.mul_le_mul_of_nonneg_left b2 (show 0 ≤ N by omega)
  have u2 := Int.mul_le_mul_of_nonneg_left b1 (show 0 ≤ N by omega)
  have u3 := Int.mul_le_mul_of_nonneg_left hN (show 0 ≤ N by omega)
  have q : 0 ≤ N * N := Int.mul_nonneg (by omega) (by omega)
  have u4 := Int.mul_le_mul_of_nonneg_left c2 q
  have u5 := Int.mul_le_mul_of_nonneg_left c1 q
  have u6 := Int.mul_le_mul_of_nonneg_left hN q
  generalize N * N * N = C at *
  generalize N * N * M2 = E at *
  generalize N * N = Q at *
  generalize N * M1 = F at *
  refine ⟨⟨by omega, by omega⟩, ⟨by omega, by omega⟩, by omega⟩
theorem jZero {N M0 M1 M2 : Int} (hN : 1000000000 ≤ N) (h0 : jbd 200000000 M0) (h1 : jbd 200000000 M1) (h2 : jbd 200000000 M2) (h : (N * N * N + 1) * M0 + (N * N * N + N) * M1 + (N * N * N + N * N) * M2 = 0) : M0 = 0 ∧ M1 = 0 ∧ M2 = 0 := by
  obtain ⟨⟨s1, s2⟩, ⟨s3, s4⟩, -⟩ := jSmall hN h0 h1 h2
  rw [jSum] at h
  obtain ⟨-, e1⟩ := jStep h s1 s2
  obtain ⟨z2, e2⟩ := jStep e1 s3 s4
  obtain ⟨a1, a2⟩ := h0
  obtain ⟨z1, z0⟩ := jStep e2 (by omega) (by omega)
  exact ⟨z0, z1, z2⟩
theorem jbd.neg {A x : Int} (h : jbd A x) : jbd A (-x) := by
  obtain ⟨h1, h2⟩ := h
  exact ⟨by omega, by omega⟩
theorem jNonneg {N M0 M1 M2 : Int} (hN : 1000000000 ≤ N) (h0 : jbd 200000000 M0) (h1 : jbd 200000000 M1) (h2 : jbd 200000000 M2) (h : 0 ≤ (N * N * N + 1) * M0 + (N * N * N + N) * M1 + (N * N * N + N * N) * M2) : 0 ≤ M0 + M1 + M2 := by
  obtain ⟨⟨s1, s2⟩, -, s3⟩ := jSmall hN h0 h1 h2
  rw [jSum] at h
  exact jStepn s3 h s2
theorem jFar {N D M0 M1 M2 : Int} (hN : 1000000000 ≤ N) (hD2 : D ≠ 0) (q0 : jbd 200000000 M0) (q1 : jbd 200000000 M1) (q2 : jbd 200000000 M2) (t : 0 ≤ D * ((N * N * N + 1) * M0 + (N * N * N + N) * M1 + (N * N * N + N * N) * M2)) : 0 ≤ D * (1 * M0 + 1 * M1 + 1 * M2) := by
  rw [Int.one_mul, Int.one_mul, Int.one_mul]
  generalize hT : (N * N * N + 1) * M0 + (N * N * N + N) * M1 + (N * N * N + N * N) * M2 = T at t
  rcases Int.lt_or_gt_of_ne hD2 with c | c
  · have s1 : T ≤ 0 := by
      rcases Int.lt_or_le 0 T with d | d
      · have := Int.mul_pos (show 0 < -D by omega) d
        rw [Int.neg_mul] at this
        omega
      · exact d
    have s2 := jNonneg hN q0.neg q1.neg q2.neg (by
      rw [Int.mul_neg, Int.mul_neg, Int.mul_neg]
      generalize (N * N * N + 1) * M0 = a at *
      generalize (N * N * N + N) * M1 = b at *
      generalize (N * N * N + N * N) * M2 = c at *
      omega)
    have := Int.mul_nonneg (show 0 ≤ -D by omega) s2
    have e : -D * (-M0 + -M1 + -M2) = D * (M0 + M1 + M2) := by grind
    rw [e] at this
    exact this
  · have s1 : 0 ≤ T := by
      rcases Int.lt_or_le T 0 with d | d
      · have := Int.mul_pos c (show 0 < -T by omega)
        rw [Int.mul_neg] at this
        omega
      · exact d
    rw [← hT] at s1
    exact Int.mul_nonneg (by omega) (jNonneg hN q0 q1 q2 s1)
theorem jbN_nn {r : Nat} (hr : r < 3) : 0 ≤ jbN r := by
  rcases m3c hr with rfl | rfl | rfl <;> decide
