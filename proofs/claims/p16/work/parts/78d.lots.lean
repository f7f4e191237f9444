theorem rE (D S r : Rat) : -(S * r) * (D * D) = -(D * S) * (D * r) := by grind
theorem rE2 (D : Rat) : -D * -D = D * D := by grind
theorem rNeg {x : Rat} (h : 0 ≤ -x) : x ≤ 0 := by grind
theorem rPos {x : Rat} (h : x ≤ 0) : 0 ≤ -x := by grind
theorem rSq (D : Rat) : 0 ≤ D * D := by
  rcases Classical.em (0 ≤ D) with c | c
  · exact Rat.mul_nonneg c c
  · have c2 : 0 ≤ -D := rPos (Rat.le_of_lt (Rat.not_le.mp c))
    rw [← rE2]
    exact Rat.mul_nonneg c2 c2
theorem rSg {D S r : Rat} (hr : D * r = 1) (h : S * r ≤ 0) : D * S ≤ 0 := by
  have t := Rat.mul_nonneg (rPos h) (rSq D)
  rw [rE, hr, Rat.mul_one] at t
  exact rNeg t
theorem rMu {D f : Rat} (h : 0 ≤ f) : 0 ≤ D * (D * f) := by
  rw [← Rat.mul_assoc]
  exact Rat.mul_nonneg (rSq D) h
theorem rZ (D : Rat) : D * 0 = 0 := Rat.mul_zero D
theorem rNz {r : Rat} (h : ((0 : Int) : Rat) * r = 1) : False := by
  rw [Rat.intCast_zero, Rat.zero_mul] at h
  have p : (0 : Rat) < 1 := by decide
  rw [← h] at p
  exact absurd p (by decide)
