/-! ===== lots: two sets of acts in balance, in whole numbers ===== -/
def l3 (f : Nat → Int) : Int := f 0 + f 1 + f 2
theorem l3_e {f : Nat → Int} : l3 f = f 0 + f 1 + f 2 := rfl
theorem jDet_r {u v w : Nat → Int} : jDet v w u = jDet u v w := by
  rw [jDet_e, jDet_e]
  grind
theorem jDet_s {u v w : Nat → Int} : jDet v u w = -jDet u v w := by
  rw [jDet_e, jDet_e]
  grind
theorem jDet_t {u v w : Nat → Int} : jDet u w v = -jDet u v w := by
  rw [jDet_e, jDet_e]
  grind
theorem jS_s {u v : Nat → Int} : jS v u = -jS u v := by
  rw [jS_e, jS_e, jCr0, jCr1, jCr2, jCr0, jCr1, jCr2]
  grind
theorem jJ_e {p : Nat → Nat → Int} {b : Nat → Int} {k1 k2 k3 k : Nat} : jJ p b k1 k2 k3 k = jDet (jN p k1) (jN p k2) (jN p k3) * jB b k - jB b k1 * jDet (jN p k) (jN p k2) (jN p k3) - jB b k2 * jDet (jN p k) (jN p k3) (jN p k1) - jB b k3 * jDet (jN p k) (jN p k1) (jN p k2) := rfl
def jOK (p : Nat → Nat → Int) (k1 k2 k3 : Nat) : Prop := (k1 < 6 ∧ k2 < 6 ∧ k3 < 6) ∧ jDet (jN p k1) (jN p k2) (jN p k3) ≠ 0 ∧ (∀ k, k < 6 → 0 ≤ jDet (jN p k1) (jN p k2) (jN p k3) * jJ p (fun _ => 1) k1 k2 k3 k) ∧ jDet (jN p k1) (jN p k2) (jN p k3) * jS (jN p k2) (jN p k3) ≤ 0 ∧ jDet (jN p k1) (jN p k2) (jN p k3) * jS (jN p k3) (jN p k1) ≤ 0 ∧ jDet (jN p k1) (jN p k2) (jN p k3) * jS (jN p k1) (jN p k2) ≤ 0
theorem jOK.rot {p : Nat → Nat → Int} {k1 k2 k3 : Nat} (h : jOK p k1 k2 k3) : jOK p k2 k3 k1 := by
  obtain ⟨⟨a1, a2, a3⟩, hD, hJ, m1, m2, m3⟩ := h
  refine ⟨⟨a2, a3, a1⟩, ?_, fun k hk => ?_, ?_, ?_, ?_⟩
  · rw [jDet_r]
    exact hD
  · have := hJ k hk
    rw [jJ_e] at this ⊢
    rw [jDet_r (u := jN p k1) (v := jN p k2) (w := jN p k3)]
    generalize jDet (jN p k1) (jN p k2) (jN p k3) = D at *
    grind
  · rw [jDet_r]
    exact m2
  · rw [jDet_r]
    exact m3
  · rw [jDet_r]
    exact m1
theorem jOK.swap {p : Nat → Nat → Int} {k1 k2 k3 : Nat} (h : jOK p k1 k2 k3) : jOK p k2 k1 k3 := by
  obtain ⟨⟨a1, a2, a3⟩, hD, hJ, m1, m2, m3⟩ := h
  have sg : ∀ a b : Int, -a * -b = a * b := fun a b => by grind
  refine ⟨⟨a2, a1, a3⟩, ?_, fun k hk => ?_, ?_, ?_, ?_⟩
  · rw [jDet_s]
    omega
  · have := hJ k hk
    rw [jJ_e] at this ⊢
    rw [jDet_s (u := jN p k1) (v := jN p k2), jDet_t (u := jN p k) (v := jN p k3) (w := jN p k1), jDet_t (u := jN p k) (v := jN p k2) (w := jN p k3), jDet_t (u := jN p k) (v := jN p k1) (w := jN p k2)]
    generalize jDet (jN p k1) (jN p k2) (jN p k3) = D at *
    grind
  · rw [jDet_s, jS_s (u := jN p k3) (v := jN p k1), sg]
    exact m2
  · rw [jDet_s, jS_s (u := jN p k2) (v := jN p k3), sg]
    exact m1
  · rw [jDet_s, jS_s (u := jN p k1) (v := jN p k2), sg]
    exact m3
theorem jOK.ne {p : Nat → Nat → Int} {k1 k2 k3 : Nat} (h : jOK p k1 k2 k3) : k1 ≠ k2 ∧ k2 ≠ k3 ∧ k1 ≠ k3 := by
  obtain ⟨-, hD, -⟩ := h
  refine ⟨fun q => hD ?_, fun q => hD ?_, fun q => hD ?_⟩
  · rw [q, jDet_e]
    grind
  · rw [q, jDet_e]
    grind
  · rw [q, jDet_e]
    grind
theorem jSort {p : Nat → Nat → Int} {k1 k2 k3 : Nat} (h : jOK p k1 k2 k3) : ∃ a b c, a < b ∧ b < c ∧ jOK p a b c := by
  obtain ⟨n1, n2, n3⟩ := h.ne
  rcases Nat.lt_or_ge k1 k2 with c1 | c1
  · rcases Nat.lt_or_ge k2 k3 with c2 | c2
    · exact ⟨_, _, _, c1, c2, h⟩
    · rcases Nat.lt_or_ge k1 k3 with c3 | c3
      · exact ⟨k1, k3, k2, c3, by omega, h.rot.rot.swap⟩
      · exact ⟨k3, k1, k2, by omega, c1, h.rot.rot⟩
  · rcases Nat.lt_or_ge k1 k3 with c2 | c2
    · exact ⟨k2, k1, k3, by omega, c2, h.swap⟩
    · rcases Nat.lt_or_ge k2 k3 with c3 | c3
      · exact ⟨k2, k3, k1, c3, by omega, h.rot⟩
      · exact ⟨k3, k2, k1, by omega, by omega, h.rot.swap⟩
/-- the chances of both sides at a corner, times the determinant -/
def jX (p : Nat → Nat → Int) (k1 k2 k3 i : Nat) : Int := -((if k1 = 3 + i then jS (jN p k2) (jN p k3) else 0) + (if k2 = 3 + i then jS (jN p k3) (jN p k1) else 0) + (if k3 = 3 + i then jS (jN p k1) (jN p k2) else 0))
def jY (p : Nat → Nat → Int) (k1 k2 k3 m : Nat) : Int := -(jB (fun _ => 1) k1 * jCr (jN p k2) (jN p k3) m + jB (fun _ => 1) k2 * jCr (jN p k3) (jN p k1) m + jB (fun _ => 1) k3 * jCr (jN p k1) (jN p k2) m)
theorem jPick {k : Nat} {S : Int} {q : Nat → Int} (hk : k < 6) : (if k = 3 + 0 then S else 0) * q 0 + (if k = 3 + 1 then S else 0) * q 1 + (if k = 3 + 2 then S else 0) * q 2 = if k < 3 then 0 else S * q (k - 3) := by
  have : k = 0 ∨ k = 1 ∨ k = 2 ∨ k = 3 ∨ k = 4 ∨ k = 5 := by omega
  rcases this with rfl | rfl | rfl | rfl | rfl | rfl <;> simp
theorem jXq {p : Nat → Nat → Int} {k1 k2 k3 : Nat} (h1 : k1 < 6) (h2 : k2 < 6) (h3 : k3 < 6) (q : Nat → Int) : jX p k1 k2 k3 0 * q 0 + jX p k1 k2 k3 1 * q 1 + jX p k1 k2 k3 2 * q 2 = -((if k1 < 3 then 0 else jS (jN p k2) (jN p k3) * q (k1 - 3)) + (if k2 < 3 then 0 else jS (jN p k3) (jN p k1) * q (k2 - 3)) + (if k3 < 3 then 0 else jS (jN p k1) (jN p k2) * q (k3 - 3))) := by
  rw [← jPick h1, ← jPick h2, ← jPick h3]
  unfold jX
  grind
theorem jFacts {p : Nat → Nat → Int} {k1 k2 k3 : Nat} (h : jOK p k1 k2 k3) : (∀ i, 0 ≤ jDet (jN p k1) (jN p k2) (jN p k3) * jX p k1 k2 k3 i) ∧ (∀ m, m < 3 → 0 ≤ jDet (jN p k1) (jN p k2) (jN p k3) * jY p k1 k2 k3 m) ∧ (∀ i, i < 3 → 0 ≤ jDet (jN p k1) (jN p k2) (jN p k3) * (jDet (jN p k1) (jN p k2) (jN p k3) - (p i 0 * jY p k1 k2 k3 0 + p i 1 * jY p k1 k2 k3 1 + p i 2 * jY p k1 k2 k3 2))) ∧ (∀ m, m < 3 → 0 ≤ jDet (jN p k1) (jN p k2) (jN p k3) * (jX p k1 k2 k3 0 * p 0 m + jX p k1 k2 k3 1 * p 1 m + jX p k1 k2 k3 2 * p 2 m - jDet (jN p k1) (jN p k2) (jN p k3))) ∧ l3 (jY p k1 k2 k3) = l3 (jX p k1 k2 k3) := by
  obtain ⟨⟨a1, a2, a3⟩, hD, hJ, m1, m2, m3⟩ := h
  have one : ∀ k, jB (fun _ => 1) k = if k < 3 then 0 else 1 := fun k => rfl
  refine ⟨fun i => ?_, fun m hm => ?_, fun i hi => ?_, fun m hm => ?_, ?_⟩
  · unfold jX
    generalize jDet (jN p k1) (jN p k2) (jN p k3) = D at *
    have e : ∀ a b c : Int, D * -(a + b + c) = -(D * a) + -(D * b) + -(D * c) := fun a b c => by grind
    have z : ∀ (c : Prop) [Decidable c] (S : Int), D * S ≤ 0 → 0 ≤ -(D * (if c then S else 0)) := fun c _ S hS => by
      by_cases q : c
      · rw [if_pos q]
        omega
      · rw [if_neg q]
        omega
    rw [e]
    have t1 := z (k1 = 3 + i) _ m1
    have t2 := z (k2 = 3 + i) _ m2
    have t3 := z (k3 = 3 + i) _ m3
    omega
  · have t := hJ m (by omega)
    have e : jJ p (fun _ => 1) k1 k2 k3 m = jY p k1 k2 k3 m := by
      have d : ∀ w : Nat → Int, jDot (jN p m) w = w m := fun w => by
        rw [jDot_e]
        unfold jN
        rw [if_pos hm, if_pos hm, if_pos hm]
        rcases m3c hm with rfl | rfl | rfl
        · simp
        · simp
        · simp
      unfold jJ jY
      rw [d, d, d, one m, if_pos hm]
      grind
    rw [e] at t
    exact t
  · have t := hJ (3 + i) (by omega)
    have e : jJ p (fun _ => 1) k1 k2 k3 (3 + i) = jDet (jN p k1) (jN p k2) (jN p k3) - (p i 0 * jY p k1 k2 k3 0 + p i 1 * jY p k1 k2 k3 1 + p i 2 * jY p k1 k2 k3 2) := by
      have d : ∀ w : Nat → Int, jDot (jN p (3 + i)) w = -(p i 0 * w 0 + p i 1 * w 1 + p i 2 * w 2) := fun w => by
        rw [jDot_e]
        unfold jN
        rw [if_neg (by omega), if_neg (by omega), if_neg (by omega), show 3 + i - 3 = i by omega]
        grind
      unfold jJ jY
      rw [d, d, d, one (3 + i), if_neg (by omega)]
      grind
    rw [e] at t
    exact t
  · have c : jDet (jN p k1) (jN p k2) (jN p k3) = jS (jN p k2) (jN p k3) * jN p k1 m + jS (jN p k3) (jN p k1) * jN p k2 m + jS (jN p k1) (jN p k2) * jN p k3 m := by
      rw [jDet_e, jS_e, jS_e, jS_e, jCr0, jCr1, jCr2, jCr0, jCr1, jCr2, jCr0, jCr1, jCr2]
      rcases m3c hm with rfl | rfl | rfl <;> grind
    rw [jXq a1 a2 a3 (fun i => p i m)]
    generalize jS (jN p k2) (jN p k3) = S1 at *
    generalize jS (jN p k3) (jN p k1) = S2 at *
    generalize jS (jN p k1) (jN p k2) = S3 at *
    generalize jDet (jN p k1) (jN p k2) (jN p k3) = D at *
    have e : -((if k1 < 3 then 0 else S1 * p (k1 - 3) m) + (if k2 < 3 then 0 else S2 * p (k2 - 3) m) + (if k3 < 3 then 0 else S3 * p (k3 - 3) m)) - D = -((if k1 < 3 then (if k1 = m then S1 else 0) else 0) + (if k2 < 3 then (if k2 = m then S2 else 0) else 0) + (if k3 < 3 then (if k3 = m then S3 else 0) else 0)) := by
      have q : ∀ (k : Nat) (S : Int), S * jN p k m = (if k < 3 then (if k = m then S else 0) else 0) - (if k < 3 then 0 else S * p (k - 3) m) := fun k S => by
        unfold jN
        by_cases c1 : k < 3
        · rw [if_pos c1, if_pos c1, if_pos c1]
          by_cases c2 : k = m
          · rw [if_pos c2, if_pos c2]
            omega
          · rw [if_neg c2, if_neg c2]
            omega
        · rw [if_neg c1, if_neg c1, if_neg c1]
          grind
      rw [q, q, q] at c
      omega
    rw [e]
    have e2 : ∀ a b c : Int, D * -(a + b + c) = -(D * a) + -(D * b) + -(D * c) := fun a b c => by grind
    have z : ∀ (c d : Prop) [Decidable c] [Decidable d] (S : Int), D * S ≤ 0 → 0 ≤ -(D * (if c then (if d then S else 0) else 0)) := fun c d _ _ S hS => by
      by_cases q : c
      · rw [if_pos q]
        by_cases q2 : d
        · rw [if_pos q2]
          omega
        · rw [if_neg q2]
          omega
      · rw [if_neg q]
        omega
    rw [e2]
    have t1 := z (k1 < 3) (k1 = m) _ m1
    have t2 := z (k2 < 3) (k2 = m) _ m2
    have t3 := z (k3 < 3) (k3 = m) _ m3
    omega
  · have e := jXq (p := p) a1 a2 a3 (fun _ => 1)
    rw [l3_e, l3_e]
    have e2 : jX p k1 k2 k3 0 + jX p k1 k2 k3 1 + jX p k1 k2 k3 2 = jX p k1 k2 k3 0 * 1 + jX p k1 k2 k3 1 * 1 + jX p k1 k2 k3 2 * 1 := by omega
    rw [e2, e]
    unfold jY
    rw [one, one, one, jS_e, jS_e, jS_e]
    by_cases c1 : k1 < 3 <;> by_cases c2 : k2 < 3 <;> by_cases c3 : k3 < 3 <;> simp [c1, c2, c3] <;> grind
/-- both sides in balance: k sums by rows and by columns -/
def lSr (g : Nat → Nat → Int) (Y : Nat → Int) (k : Nat) : Nat → Int
  | 0 => 0
  | x + 1 => lSr g Y k x + Y x * g k x
def lSc (g : Nat → Nat → Int) (X : Nat → Int) (k : Nat) : Nat → Int
  | 0 => 0
  | x + 1 => lSc g X k x + X x * g x k
theorem lSr3 {g : Nat → Nat → Int} {Y : Nat → Int} {k : Nat} : lSr g Y k 3 = 0 + Y 0 * g k 0 + Y 1 * g k 1 + Y 2 * g k 2 := rfl
theorem lSr2 {g : Nat → Nat → Int} {Y : Nat → Int} {k : Nat} : lSr g Y k 2 = 0 + Y 0 * g k 0 + Y 1 * g k 1 := rfl
theorem lSc3 {g : Nat → Nat → Int} {X : Nat → Int} {k : Nat} : lSc g X k 3 = 0 + X 0 * g 0 k + X 1 * g 1 k + X 2 * g 2 k := rfl
theorem lSc2 {g : Nat → Nat → Int} {X : Nat → Int} {k : Nat} : lSc g X k 2 = 0 + X 0 * g 0 k + X 1 * g 1 k := rfl
def lBal (A : Nat) (g : Nat → Nat → Int) (X Y : Nat → Int) (v : Int) : Prop := ∃ e : Int, (e = 1 ∨ e = -1) ∧ 0 < e * l3 X ∧ ∀ k, k < A → (0 ≤ e * X k ∧ 0 ≤ e * Y k) ∧ e * lSr g Y k A ≤ e * v ∧ e * v ≤ e * lSc g X k A
theorem jSame {a D x : Int} (h : 0 < a * D) (hx : 0 ≤ D * x) {e : Int} (he : e = 1 ∨ e = -1) (ha : 0 < e * a) : 0 ≤ e * x := by
  rcases Int.lt_trichotomy D 0 with c | c | c
  · have a0 : a < 0 := by
      rcases Int.lt_or_le a 0 with q | q
      · exact q
      · have := Int.mul_nonneg q (show 0 ≤ -D by omega)
        grind
    have x0 : x ≤ 0 := by
      rcases Int.lt_or_le 0 x with q | q
      · have := Int.mul_pos (show 0 < -D by omega) q
        grind
      · exact q
    rcases he with rfl | rfl
    · omega
    · omega
  · rw [c] at h
    omega
  · have a0 : 0 < a := by
      rcases Int.lt_or_le 0 a with q | q
      · exact q
      · have := Int.mul_nonneg (show 0 ≤ -a by omega) (show 0 ≤ D by omega)
        grind
    have x0 : 0 ≤ x := by
      rcases Int.lt_or_le x 0 with q | q
      · have := Int.mul_pos c (show 0 < -x by omega)
        grind
      · exact q
    rcases he with rfl | rfl
    · omega
    · omega
theorem jBal {g : Nat → Nat → Int} {k1 k2 k3 : Nat} {X Y : Nat → Int} {v e : Int} (h : jOK (fun i m => g i m + 100) k1 k2 k3) (he : e = 1 ∨ e = -1) (hX : ∀ i, i < 3 → jX (fun i m => g i m + 100) k1 k2 k3 i = e * X i) (hY : ∀ i, i < 3 → jY (fun i m => g i m + 100) k1 k2 k3 i = e * Y i) (hv : jDet (jN (fun i m => g i m + 100) k1) (jN (fun i m => g i m + 100) k2) (jN (fun i m => g i m + 100) k3) = e * (v + 100 * l3 X)) : lBal 3 g X Y v := by
  obtain ⟨f1, f2, f3, f4, f5⟩ := jFacts h
  obtain ⟨-, hD, -⟩ := h
  have x0 := hX 0 (by decide)
  have x1 := hX 1 (by decide)
  have x2 := hX 2 (by decide)
  have y0 := hY 0 (by decide)
  have y1 := hY 1 (by decide)
  have y2 := hY 2 (by decide)
  rw [l3_e, l3_e, x0, x1, x2, y0, y1, y2] at f5
  have ee : e * e = 1 := by
    rcases he with rfl | rfl <;> rfl
  have sXY : l3 Y = l3 X := by
    rw [l3_e, l3_e]
    rcases he with rfl | rfl <;> omega
  generalize hDD : jDet (jN (fun i m => g i m + 100) k1) (jN (fun i m => g i m + 100) k2) (jN (fun i m => g i m + 100) k3) = D at *
  have pos : 0 < (e * l3 X) * D := by
    have p0 := f1 0
    have p1 := f1 1
    have p2 := f1 2
    rw [x0] at p0
    rw [x1] at p1
    rw [x2] at p2
    have e1 : (e * l3 X) * D = D * (e * X 0) + D * (e * X 1) + D * (e * X 2) := by
      rw [l3_e]
      grind
    rw [e1]
    rcases Int.lt_or_le 0 (D * (e * X 0) + D * (e * X 1) + D * (e * X 2)) with q | q
    · exact q
    · exfalso
      have z0 : D * (e * X 0) = 0 := by omega
      have z1 : D * (e * X 1) = 0 := by omega
      have z2 : D * (e * X 2) = 0 := by omega
      have t : 0 ≤ D * (e * X 0 * (g 0 0 + 100) + e * X 1 * (g 1 0 + 100) + e * X 2 * (g 2 0 + 100) - D) := by
        have t := f4 0 (by decide)
        rw [x0, x1, x2] at t
        exact t
      have e2 : D * (e * X 0 * (g 0 0 + 100) + e * X 1 * (g 1 0 + 100) + e * X 2 * (g 2 0 + 100) - D) = (D * (e * X 0)) * (g 0 0 + 100) + (D * (e * X 1)) * (g 1 0 + 100) + (D * (e * X 2)) * (g 2 0 + 100) - D * D := by grind
      rw [e2, z0, z1, z2] at t
      have : 0 < D * D := by
        rcases Int.lt_or_gt_of_ne hD with c | c
        · exact Int.mul_pos_of_neg_of_neg c c
        · exact Int.mul_pos c c
      omega
  obtain ⟨s, hs, hp⟩ : ∃ s : Int, (s = 1 ∨ s = -1) ∧ 0 < s * (e * l3 X) := by
    rcases Int.lt_trichotomy (e * l3 X) 0 with c | c | c
    · exact ⟨-1, Or.inr rfl, by omega⟩
    · rw [c] at pos
      omega
    · exact ⟨1, Or.inl rfl, by omega⟩
  have sm : ∀ x, 0 ≤ D * x → 0 ≤ s * x := fun x hx => jSame pos hx hs hp
  refine ⟨s * e, ?_, ?_, fun k hk => ⟨⟨?_, ?_⟩, ?_, ?_⟩⟩
  · rcases hs with rfl | rfl <;> rcases he with rfl | rfl <;> decide
  · rw [Int.mul_assoc]
    exact hp
  · have t := sm _ (f1 k)
    rw [hX k hk, ← Int.mul_assoc] at t
    exact t
  · have t := sm _ (f2 k hk)
    rw [hY k hk, ← Int.mul_assoc] at t
    exact t
  · have t : 0 ≤ s * (e * (v + 100 * (X 0 + X 1 + X 2)) - ((g k 0 + 100) * (e * Y 0) + (g k 1 + 100) * (e * Y 1) + (g k 2 + 100) * (e * Y 2))) := by
      have t := sm _ (f3 k hk)
      rw [y0, y1, y2, hv, l3_e] at t
      exact t
    rw [l3_e, l3_e] at sXY
    have e1 : e * (v + 100 * (X 0 + X 1 + X 2)) - ((g k 0 + 100) * (e * Y 0) + (g k 1 + 100) * (e * Y 1) + (g k 2 + 100) * (e * Y 2)) = e * v + 100 * (e * (X 0 + X 1 + X 2 - (Y 0 + Y 1 + Y 2))) - e * (Y 0 * g k 0 + Y 1 * g k 1 + Y 2 * g k 2) := by grind
    rw [e1, sXY] at t
    rw [lSr3]
    grind
  · have t : 0 ≤ s * (e * X 0 * (g 0 k + 100) + e * X 1 * (g 1 k + 100) + e * X 2 * (g 2 k + 100) - e * (v + 100 * (X 0 + X 1 + X 2))) := by
      have t := sm _ (f4 k hk)
      rw [x0, x1, x2, hv, l3_e] at t
      exact t
    rw [lSc3]
    grind
