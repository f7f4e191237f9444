/-! ===== lots: the balance of sets: one, two, three acts ===== -/
def x1F (i : Nat) : Nat → Int := fun k => if k = i then 1 else 0
def x2F (g : Nat → Nat → Int) (i j m l : Nat) : Nat → Int := fun k => if k = j then g i m - g i l else if k = i then g j l - g j m else 0
def y2F (g : Nat → Nat → Int) (i j m l : Nat) : Nat → Int := fun x => if x = l then g i m - g j m else if x = m then g j l - g i l else 0
def v2F (g : Nat → Nat → Int) (i j m l : Nat) : Int := g i m * g j l - g i l * g j m
def x3F (g : Nat → Nat → Int) : Nat → Int := fun k => if k = 2 then (g 0 0 * g 1 1 - g 0 1 * g 1 0) - (g 0 0 * g 1 2 - g 0 2 * g 1 0) + (g 0 1 * g 1 2 - g 0 2 * g 1 1) else if k = 1 then g 0 0 * (g 2 2 - g 2 1) - g 0 1 * (g 2 2 - g 2 0) + g 0 2 * (g 2 1 - g 2 0) else if k = 0 then (g 1 1 * g 2 2 - g 1 2 * g 2 1) - (g 1 0 * g 2 2 - g 1 2 * g 2 0) + (g 1 0 * g 2 1 - g 1 1 * g 2 0) else 0
def y3F (g : Nat → Nat → Int) : Nat → Int := fun k => if k = 2 then (g 0 0 * g 1 1 - g 0 1 * g 1 0) - (g 0 0 * g 2 1 - g 0 1 * g 2 0) + (g 1 0 * g 2 1 - g 1 1 * g 2 0) else if k = 1 then g 0 0 * (g 2 2 - g 1 2) - g 1 0 * (g 2 2 - g 0 2) + g 2 0 * (g 1 2 - g 0 2) else if k = 0 then (g 1 1 * g 2 2 - g 1 2 * g 2 1) - (g 0 1 * g 2 2 - g 0 2 * g 2 1) + (g 0 1 * g 1 2 - g 0 2 * g 1 1) else 0
def v3F (g : Nat → Nat → Int) : Int := g 0 0 * (g 1 1 * g 2 2 - g 1 2 * g 2 1) - g 0 1 * (g 1 0 * g 2 2 - g 1 2 * g 2 0) + g 0 2 * (g 1 0 * g 2 1 - g 1 1 * g 2 0)
theorem l3_x1 {i : Nat} (h : i < 3) : l3 (x1F i) = 1 := by
  rcases m3c h with rfl | rfl | rfl <;> rfl
theorem l3_two {i j : Nat} {a b : Int} (hi : i < 3) (hj : j < 3) (n : i ≠ j) : l3 (fun k => if k = j then b else if k = i then a else 0) = a + b := by
  rw [l3_e]
  rcases m3c hi with rfl | rfl | rfl <;> rcases m3c hj with rfl | rfl | rfl <;> simp at n ⊢ <;> omega
theorem l3_x2 {g : Nat → Nat → Int} {i j m l : Nat} (hi : i < 3) (hj : j < 3) (n : i ≠ j) : l3 (x2F g i j m l) = g j l - g j m + (g i m - g i l) := l3_two hi hj n
theorem l3_y2 {g : Nat → Nat → Int} {i j m l : Nat} (hi : m < 3) (hj : l < 3) (n : m ≠ l) : l3 (y2F g i j m l) = g j l - g i l + (g i m - g j m) := l3_two hi hj n
theorem l3_x3 {g : Nat → Nat → Int} : l3 (x3F g) = (g 1 1 * g 2 2 - g 1 2 * g 2 1) - (g 1 0 * g 2 2 - g 1 2 * g 2 0) + (g 1 0 * g 2 1 - g 1 1 * g 2 0) + (g 0 0 * (g 2 2 - g 2 1) - g 0 1 * (g 2 2 - g 2 0) + g 0 2 * (g 2 1 - g 2 0)) + ((g 0 0 * g 1 1 - g 0 1 * g 1 0) - (g 0 0 * g 1 2 - g 0 2 * g 1 0) + (g 0 1 * g 1 2 - g 0 2 * g 1 1)) := rfl
theorem l3_y3 {g : Nat → Nat → Int} : l3 (y3F g) = (g 1 1 * g 2 2 - g 1 2 * g 2 1) - (g 0 1 * g 2 2 - g 0 2 * g 2 1) + (g 0 1 * g 1 2 - g 0 2 * g 1 1) + (g 0 0 * (g 2 2 - g 1 2) - g 1 0 * (g 2 2 - g 0 2) + g 2 0 * (g 1 2 - g 0 2)) + ((g 0 0 * g 1 1 - g 0 1 * g 1 0) - (g 0 0 * g 2 1 - g 0 1 * g 2 0) + (g 1 0 * g 2 1 - g 1 1 * g 2 0)) := rfl
/-- the ways a balance can stand, for A acts -/
def lWay (A : Nat) (g : Nat → Nat → Int) (X Y : Nat → Int) (v : Int) : Prop := (∃ i m, i < A ∧ m < A ∧ X = x1F i ∧ Y = x1F m ∧ v = g i m) ∨ (∃ i j m l, i < j ∧ j < A ∧ m < l ∧ l < A ∧ X = x2F g i j m l ∧ Y = y2F g i j m l ∧ v = v2F g i j m l) ∨ (A = 3 ∧ X = x3F g ∧ Y = y3F g ∧ v = v3F g)
theorem jN0 {p : Nat → Nat → Int} {m : Nat} : jN p 0 m = if m = 0 then 1 else 0 := by
  unfold jN
  rw [if_pos (by decide)]
  by_cases c : m = 0
  · rw [if_pos c, if_pos c.symm]
  · rw [if_neg c, if_neg (fun q => c q.symm)]
theorem jN1 {p : Nat → Nat → Int} {m : Nat} : jN p 1 m = if m = 1 then 1 else 0 := by
  unfold jN
  rw [if_pos (by decide)]
  by_cases c : m = 1
  · rw [if_pos c, if_pos c.symm]
  · rw [if_neg c, if_neg (fun q => c q.symm)]
theorem jN2 {p : Nat → Nat → Int} {m : Nat} : jN p 2 m = if m = 2 then 1 else 0 := by
  unfold jN
  rw [if_pos (by decide)]
  by_cases c : m = 2
  · rw [if_pos c, if_pos c.symm]
  · rw [if_neg c, if_neg (fun q => c q.symm)]
theorem jNr {p : Nat → Nat → Int} {i m : Nat} : jN p (3 + i) m = -(p i m) := by
  unfold jN
  rw [if_neg (by omega), show 3 + i - 3 = i by omega]
theorem jB0 {k : Nat} (h : k < 3) : jB (fun _ => 1) k = 0 := if_pos h
theorem jB1 {i : Nat} : jB (fun _ => 1) (3 + i) = 1 := if_neg (by omega)
/-- one row, one column -/
theorem jW1 {g : Nat → Nat → Int} {k1 k2 i : Nat} (h : jOK (fun i m => g i m + 100) k1 k2 (3 + i)) (hi : i < 3) (c1 : k1 < k2) (c2 : k2 < 3) : ∃ X Y v, lWay 3 g X Y v ∧ lBal 3 g X Y v := by
  have hx : ∀ r, jX (fun i m => g i m + 100) k1 k2 (3 + i) r = -(if r = i then jS (jN (fun i m => g i m + 100) k1) (jN (fun i m => g i m + 100) k2) else 0) := fun r => by
    unfold jX
    rw [if_neg (by omega), if_neg (by omega)]
    by_cases q : r = i
    · rw [if_pos q, if_pos (by omega)]
      omega
    · rw [if_neg q, if_neg (by omega)]
      omega
  have hy : ∀ r, jY (fun i m => g i m + 100) k1 k2 (3 + i) r = -(jCr (jN (fun i m => g i m + 100) k1) (jN (fun i m => g i m + 100) k2) r) := fun r => by
    unfold jY
    rw [jB0 (by omega), jB0 c2, jB1]
    omega
  have cs : (k1 = 0 ∧ k2 = 1) ∨ (k1 = 0 ∧ k2 = 2) ∨ (k1 = 1 ∧ k2 = 2) := by omega
  rcases cs with ⟨rfl, rfl⟩ | ⟨rfl, rfl⟩ | ⟨rfl, rfl⟩
  · refine ⟨x1F i, x1F 2, g i 2, Or.inl ⟨i, 2, hi, by decide, rfl, rfl, rfl⟩, jBal h (e := -1) (Or.inr rfl) (fun r hr => ?_) (fun r hr => ?_) ?_⟩
    · rw [hx, jS_e, jCr0, jCr1, jCr2, jN0, jN0, jN0, jN1, jN1, jN1]
      unfold x1F
      by_cases q : r = i
      · rw [if_pos q, if_pos q]
        decide
      · rw [if_neg q, if_neg q]
        decide
    · rw [hy]
      rcases m3c hr with rfl | rfl | rfl
      · rw [jCr0, jN0, jN0, jN1, jN1]
        decide
      · rw [jCr1, jN0, jN0, jN1, jN1]
        decide
      · rw [jCr2, jN0, jN0, jN1, jN1]
        decide
    · rw [jDet_e, l3_x1 hi, jNr, jNr, jNr, jN0, jN0, jN0, jN1, jN1, jN1]
      simp <;> omega
  · refine ⟨x1F i, x1F 1, g i 1, Or.inl ⟨i, 1, hi, by decide, rfl, rfl, rfl⟩, jBal h (e := 1) (Or.inl rfl) (fun r hr => ?_) (fun r hr => ?_) ?_⟩
    · rw [hx, jS_e, jCr0, jCr1, jCr2, jN0, jN0, jN0, jN2, jN2, jN2]
      unfold x1F
      by_cases q : r = i
      · rw [if_pos q, if_pos q]
        decide
      · rw [if_neg q, if_neg q]
        decide
    · rw [hy]
      rcases m3c hr with rfl | rfl | rfl
      · rw [jCr0, jN0, jN0, jN2, jN2]
        decide
      · rw [jCr1, jN0, jN0, jN2, jN2]
        decide
      · rw [jCr2, jN0, jN0, jN2, jN2]
        decide
    · rw [jDet_e, l3_x1 hi, jNr, jNr, jNr, jN0, jN0, jN0, jN2, jN2, jN2]
      simp <;> omega
  · refine ⟨x1F i, x1F 0, g i 0, Or.inl ⟨i, 0, hi, by decide, rfl, rfl, rfl⟩, jBal h (e := -1) (Or.inr rfl) (fun r hr => ?_) (fun r hr => ?_) ?_⟩
    · rw [hx, jS_e, jCr0, jCr1, jCr2, jN1, jN1, jN1, jN2, jN2, jN2]
      unfold x1F
      by_cases q : r = i
      · rw [if_pos q, if_pos q]
        decide
      · rw [if_neg q, if_neg q]
        decide
    · rw [hy]
      rcases m3c hr with rfl | rfl | rfl
      · rw [jCr0, jN1, jN1, jN2, jN2]
        decide
      · rw [jCr1, jN1, jN1, jN2, jN2]
        decide
      · rw [jCr2, jN1, jN1, jN2, jN2]
        decide
    · rw [jDet_e, l3_x1 hi, jNr, jNr, jNr, jN1, jN1, jN1, jN2, jN2, jN2]
      simp <;> omega
/-- two rows, two columns -/
theorem jW2 {g : Nat → Nat → Int} {k1 i j : Nat} (h : jOK (fun i m => g i m + 100) k1 (3 + i) (3 + j)) (c1 : k1 < 3) (hij : i < j) (hj : j < 3) : ∃ X Y v, lWay 3 g X Y v ∧ lBal 3 g X Y v := by
  have hx : ∀ r, jX (fun i m => g i m + 100) k1 (3 + i) (3 + j) r = -(if r = j then jS (jN (fun i m => g i m + 100) k1) (jN (fun i m => g i m + 100) (3 + i)) else if r = i then jS (jN (fun i m => g i m + 100) (3 + j)) (jN (fun i m => g i m + 100) k1) else 0) := fun r => by
    unfold jX
    rw [if_neg (by omega)]
    by_cases q : r = j
    · rw [if_pos q, if_pos (show 3 + j = 3 + r by omega), if_neg (show ¬ 3 + i = 3 + r by omega)]
      omega
    · rw [if_neg q, if_neg (show ¬ 3 + j = 3 + r by omega)]
      by_cases q2 : r = i
      · rw [if_pos q2, if_pos (show 3 + i = 3 + r by omega)]
        omega
      · rw [if_neg q2, if_neg (show ¬ 3 + i = 3 + r by omega)]
        omega
  have hy : ∀ r, jY (fun i m => g i m + 100) k1 (3 + i) (3 + j) r = -(jCr (jN (fun i m => g i m + 100) (3 + j)) (jN (fun i m => g i m + 100) k1) r + jCr (jN (fun i m => g i m + 100) k1) (jN (fun i m => g i m + 100) (3 + i)) r) := fun r => by
    unfold jY
    rw [jB0 (by omega), jB1, jB1]
    omega
  rcases m3c c1 with rfl | rfl | rfl
  · refine ⟨x2F g i j 1 2, y2F g i j 1 2, v2F g i j 1 2, Or.inr (Or.inl ⟨i, j, 1, 2, hij, hj, by decide, by decide, rfl, rfl, rfl⟩), jBal h (e := 1) (Or.inl rfl) (fun r hr => ?_) (fun r hr => ?_) ?_⟩
    · rw [hx, jS_e, jS_e, jCr0, jCr1, jCr2, jCr0, jCr1, jCr2, jN0, jN0, jN0, jNr, jNr, jNr, jNr, jNr, jNr]
      unfold x2F
      by_cases q : r = j
      · rw [if_pos q, if_pos q]
        simp <;> omega
      · rw [if_neg q, if_neg q]
        by_cases q2 : r = i
        · rw [if_pos q2, if_pos q2]
          simp <;> omega
        · rw [if_neg q2, if_neg q2]
          decide
    · rw [hy]
      unfold y2F
      rcases m3c hr with rfl | rfl | rfl
      · rw [jCr0, jCr0, jN0, jN0, jNr, jNr, jNr, jNr]
        simp <;> omega
      · rw [jCr1, jCr1, jN0, jN0, jNr, jNr, jNr, jNr]
        simp <;> omega
      · rw [jCr2, jCr2, jN0, jN0, jNr, jNr, jNr, jNr]
        simp <;> omega
    · rw [jDet_e, l3_x2 (by omega) hj (by omega), jNr, jNr, jNr, jNr, jNr, jNr, jN0, jN0, jN0]
      unfold v2F
      simp <;> grind
  · refine ⟨x2F g i j 0 2, y2F g i j 0 2, v2F g i j 0 2, Or.inr (Or.inl ⟨i, j, 0, 2, hij, hj, by decide, by decide, rfl, rfl, rfl⟩), jBal h (e := -1) (Or.inr rfl) (fun r hr => ?_) (fun r hr => ?_) ?_⟩
    · rw [hx, jS_e, jS_e, jCr0, jCr1, jCr2, jCr0, jCr1, jCr2, jN1, jN1, jN1, jNr, jNr, jNr, jNr, jNr, jNr]
      unfold x2F
      by_cases q : r = j
      · rw [if_pos q, if_pos q]
        simp <;> omega
      · rw [if_neg q, if_neg q]
        by_cases q2 : r = i
        · rw [if_pos q2, if_pos q2]
          simp <;> omega
        · rw [if_neg q2, if_neg q2]
          decide
    · rw [hy]
      unfold y2F
      rcases m3c hr with rfl | rfl | rfl
      · rw [jCr0, jCr0, jN1, jN1, jNr, jNr, jNr, jNr]
        simp <;> omega
      · rw [jCr1, jCr1, jN1, jN1, jNr, jNr, jNr, jNr]
        simp <;> omega
      · rw [jCr2, jCr2, jN1, jN1, jNr, jNr, jNr, jNr]
        simp <;> omega
    · rw [jDet_e, l3_x2 (by omega) hj (by omega), jNr, jNr, jNr, jNr, jNr, jNr, jN1, jN1, jN1]
      unfold v2F
      simp <;> grind
  · refine ⟨x2F g i j 0 1, y2F g i j 0 1, v2F g i j 0 1, Or.inr (Or.inl ⟨i, j, 0, 1, hij, hj, by decide, by decide, rfl, rfl, rfl⟩), jBal h (e := 1) (Or.inl rfl) (fun r hr => ?_) (fun r hr => ?_) ?_⟩
    · rw [hx, jS_e, jS_e, jCr0, jCr1, jCr2, jCr0, jCr1, jCr2, jN2, jN2, jN2, jNr, jNr, jNr, jNr, jNr, jNr]
      unfold x2F
      by_cases q : r = j
      · rw [if_pos q, if_pos q]
        simp <;> omega
      · rw [if_neg q, if_neg q]
        by_cases q2 : r = i
        · rw [if_pos q2, if_pos q2]
          simp <;> omega
        · rw [if_neg q2, if_neg q2]
          decide
    · rw [hy]
      unfold y2F
      rcases m3c hr with rfl | rfl | rfl
      · rw [jCr0, jCr0, jN2, jN2, jNr, jNr, jNr, jNr]
        simp <;> omega
      · rw [jCr1, jCr1, jN2, jN2, jNr, jNr, jNr, jNr]
        simp <;> omega
      · rw [jCr2, jCr2, jN2, jN2, jNr, jNr, jNr, jNr]
        simp <;> omega
    · rw [jDet_e, l3_x2 (by omega) hj (by omega), jNr, jNr, jNr, jNr, jNr, jNr, jN2, jN2, jN2]
      unfold v2F
      simp <;> grind
/-- all rows, all columns -/
theorem jW3 {g : Nat → Nat → Int} (h : jOK (fun i m => g i m + 100) (3 + 0) (3 + 1) (3 + 2)) : ∃ X Y v, lWay 3 g X Y v ∧ lBal 3 g X Y v := by
  refine ⟨x3F g, y3F g, v3F g, Or.inr (Or.inr ⟨rfl, rfl, rfl, rfl⟩), jBal h (e := -1) (Or.inr rfl) (fun r hr => ?_) (fun r hr => ?_) ?_⟩
  · unfold jX
    rw [jS_e, jS_e, jS_e, jCr0, jCr1, jCr2, jCr0, jCr1, jCr2, jCr0, jCr1, jCr2, jNr, jNr, jNr, jNr, jNr, jNr, jNr, jNr, jNr]
    unfold x3F
    rcases m3c hr with rfl | rfl | rfl
    · simp <;> grind
    · simp <;> grind
    · simp <;> grind
  · unfold jY y3F
    rw [jB1, jB1, jB1]
    rcases m3c hr with rfl | rfl | rfl
    · rw [jCr0, jCr0, jCr0, jNr, jNr, jNr, jNr, jNr, jNr]
      simp <;> grind
    · rw [jCr1, jCr1, jCr1, jNr, jNr, jNr, jNr, jNr, jNr]
      simp <;> grind
    · rw [jCr2, jCr2, jCr2, jNr, jNr, jNr, jNr, jNr, jNr]
      simp <;> grind
  · rw [jDet_e, l3_x3, jNr, jNr, jNr, jNr, jNr, jNr, jNr, jNr, jNr]
    unfold v3F
    grind
theorem lEx3 {g : Nat → Nat → Int} (hg : ∀ i m, i < 3 → m < 3 → -99 ≤ g i m ∧ g i m ≤ 99) : ∃ X Y v, lWay 3 g X Y v ∧ lBal 3 g X Y v := by
  obtain ⟨k1, k2, k3, h⟩ := jBest (p := fun i m => g i m + 100) (fun i m hi hm => by
    have := hg i m hi hm
    omega)
  obtain ⟨a, b, c, h1, h2, hk⟩ := jSort (show jOK (fun i m => g i m + 100) k1 k2 k3 from h)
  have c6 := hk.1.2.2
  rcases Nat.lt_or_ge c 3 with q | q
  · exfalso
    obtain ⟨f1, f2, f3, f4, f5⟩ := jFacts hk
    obtain ⟨-, hD, -⟩ := hk
    have t := f4 0 (by decide)
    have z : ∀ r, jX (fun i m => g i m + 100) a b c r = 0 := fun r => by
      unfold jX
      rw [if_neg (by omega), if_neg (by omega), if_neg (by omega)]
      decide
    rw [z, z, z] at t
    generalize jDet (jN (fun i m => g i m + 100) a) (jN (fun i m => g i m + 100) b) (jN (fun i m => g i m + 100) c) = D at *
    have : 0 < D * D := by
      rcases Int.lt_or_gt_of_ne hD with c | c
      · exact Int.mul_pos_of_neg_of_neg c c
      · exact Int.mul_pos c c
    grind
  · obtain ⟨i, rfl⟩ : ∃ i, c = 3 + i := ⟨c - 3, by omega⟩
    rcases Nat.lt_or_ge b 3 with q2 | q2
    · exact jW1 hk (by omega) h1 q2
    · obtain ⟨j, rfl⟩ : ∃ i, b = 3 + i := ⟨b - 3, by omega⟩
      rcases Nat.lt_or_ge a 3 with q3 | q3
      · exact jW2 hk q3 (by omega) (by omega)
      · obtain ⟨k, rfl⟩ : ∃ i, a = 3 + i := ⟨a - 3, by omega⟩
        have e1 : k = 0 := by omega
        have e2 : j = 1 := by omega
        have e3 : i = 2 := by omega
        subst e1
        subst e2
        subst e3
        exact jW3 hk
theorem lEx2 {g : Nat → Nat → Int} : ∃ X Y v, lWay 2 g X Y v ∧ lBal 2 g X Y v := by
  have sad : ∀ i m, i < 2 → m < 2 → (∀ k, k < 2 → g k m ≤ g i m) → (∀ k, k < 2 → g i m ≤ g i k) → ∃ X Y v, lWay 2 g X Y v ∧ lBal 2 g X Y v := fun i m hi hm h1 h2 => by
    refine ⟨x1F i, x1F m, g i m, Or.inl ⟨i, m, hi, hm, rfl, rfl, rfl⟩, 1, Or.inl rfl, ?_, fun k hk => ⟨⟨?_, ?_⟩, ?_, ?_⟩⟩
    · rw [l3_x1 (by omega)]
      decide
    · unfold x1F
      by_cases q : k = i
      · rw [if_pos q]
        decide
      · rw [if_neg q]
        decide
    · unfold x1F
      by_cases q : k = m
      · rw [if_pos q]
        decide
      · rw [if_neg q]
        decide
    · have := h1 k hk
      rw [lSr2]
      have c : m = 0 ∨ m = 1 := by omega
      rcases c with rfl | rfl
      · simp [x1F]
        exact this
      · simp [x1F]
        exact this
    · have := h2 k hk
      rw [lSc2]
      have c : i = 0 ∨ i = 1 := by omega
      rcases c with rfl | rfl
      · simp [x1F]
        exact this
      · simp [x1F]
        exact this
  have two : ∀ k : Nat, k < 2 → k = 0 ∨ k = 1 := fun k hk => by omega
  by_cases s00 : g 1 0 ≤ g 0 0 ∧ g 0 0 ≤ g 0 1
  · exact sad 0 0 (by decide) (by decide) (fun k hk => by rcases two k hk with rfl | rfl <;> omega) (fun k hk => by rcases two k hk with rfl | rfl <;> omega)
  by_cases s01 : g 1 1 ≤ g 0 1 ∧ g 0 1 ≤ g 0 0
  · exact sad 0 1 (by decide) (by decide) (fun k hk => by rcases two k hk with rfl | rfl <;> omega) (fun k hk => by rcases two k hk with rfl | rfl <;> omega)
  by_cases s10 : g 0 0 ≤ g 1 0 ∧ g 1 0 ≤ g 1 1
  · exact sad 1 0 (by decide) (by decide) (fun k hk => by rcases two k hk with rfl | rfl <;> omega) (fun k hk => by rcases two k hk with rfl | rfl <;> omega)
  by_cases s11 : g 0 1 ≤ g 1 1 ∧ g 1 1 ≤ g 1 0
  · exact sad 1 1 (by decide) (by decide) (fun k hk => by rcases two k hk with rfl | rfl <;> omega) (fun k hk => by rcases two k hk with rfl | rfl <;> omega)
  have mix : (g 0 1 < g 0 0 ∧ g 1 0 < g 1 1 ∧ g 1 0 < g 0 0 ∧ g 0 1 < g 1 1) ∨ (g 0 0 < g 0 1 ∧ g 1 1 < g 1 0 ∧ g 0 0 < g 1 0 ∧ g 1 1 < g 0 1) := by omega
  obtain ⟨e, he, b1, b2, b3, b4⟩ : ∃ e : Int, (e = 1 ∨ e = -1) ∧ 0 < e * (g 0 0 - g 0 1) ∧ 0 < e * (g 1 1 - g 1 0) ∧ 0 < e * (g 0 0 - g 1 0) ∧ 0 < e * (g 1 1 - g 0 1) := by
    rcases mix with ⟨m1, m2, m3, m4⟩ | ⟨m1, m2, m3, m4⟩
    · exact ⟨1, Or.inl rfl, by omega, by omega, by omega, by omega⟩
    · exact ⟨-1, Or.inr rfl, by omega, by omega, by omega, by omega⟩
  refine ⟨x2F g 0 1 0 1, y2F g 0 1 0 1, v2F g 0 1 0 1, Or.inr (Or.inl ⟨0, 1, 0, 1, by decide, by decide, by decide, by decide, rfl, rfl, rfl⟩), e, he, ?_, fun k hk => ?_⟩
  · rw [l3_x2 (by decide) (by decide) (by decide), Int.mul_add]
    omega
  · rw [lSr2, lSc2]
    have x0 : x2F g 0 1 0 1 0 = g 1 1 - g 1 0 := rfl
    have x1 : x2F g 0 1 0 1 1 = g 0 0 - g 0 1 := rfl
    have y0 : y2F g 0 1 0 1 0 = g 1 1 - g 0 1 := rfl
    have y1 : y2F g 0 1 0 1 1 = g 0 0 - g 1 0 := rfl
    rw [x0, x1, y0, y1]
    unfold v2F
    rcases two k hk with rfl | rfl
    · rw [x0, y0]
      refine ⟨⟨by omega, by omega⟩, ?_, ?_⟩
      · refine Int.le_of_eq ?_
        grind
      · refine Int.le_of_eq ?_
        grind
    · rw [x1, y1]
      refine ⟨⟨by omega, by omega⟩, ?_, ?_⟩
      · refine Int.le_of_eq ?_
        grind
      · refine Int.le_of_eq ?_
        grind
theorem lEx {A : Nat} {g : Nat → Nat → Int} (a2 : 2 ≤ A) (a3 : A ≤ 3) (hg : ∀ i m, i < 3 → m < 3 → -99 ≤ g i m ∧ g i m ≤ 99) : ∃ X Y v, lWay A g X Y v ∧ lBal A g X Y v := by
  have c : A = 2 ∨ A = 3 := by omega
  rcases c with rfl | rfl
  · exact lEx2
  · exact lEx3 hg
