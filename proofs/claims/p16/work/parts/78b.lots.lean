/-! ===== lots: the best corner in whole numbers ===== -/
def jN (p : Nat → Nat → Int) (k m : Nat) : Int := if k < 3 then (if k = m then 1 else 0) else -(p (k - 3) m)
def jCr (u v : Nat → Int) (m : Nat) : Int := if m = 0 then u 1 * v 2 - u 2 * v 1 else if m = 1 then u 2 * v 0 - u 0 * v 2 else u 0 * v 1 - u 1 * v 0
theorem jCr0 {u v : Nat → Int} : jCr u v 0 = u 1 * v 2 - u 2 * v 1 := rfl
theorem jCr1 {u v : Nat → Int} : jCr u v 1 = u 2 * v 0 - u 0 * v 2 := rfl
theorem jCr2 {u v : Nat → Int} : jCr u v 2 = u 0 * v 1 - u 1 * v 0 := rfl
def jDot (u v : Nat → Int) : Int := u 0 * v 0 + u 1 * v 1 + u 2 * v 2
theorem jDot_e {u v : Nat → Int} : jDot u v = u 0 * v 0 + u 1 * v 1 + u 2 * v 2 := rfl
def jDet (u v w : Nat → Int) : Int := jDot u (jCr v w)
theorem jDet_e {u v w : Nat → Int} : jDet u v w = u 0 * (v 1 * w 2 - v 2 * w 1) + u 1 * (v 2 * w 0 - v 0 * w 2) + u 2 * (v 0 * w 1 - v 1 * w 0) := rfl
def jS (u v : Nat → Int) : Int := jCr u v 0 + jCr u v 1 + jCr u v 2
theorem jS_e {u v : Nat → Int} : jS u v = jCr u v 0 + jCr u v 1 + jCr u v 2 := rfl
def jB (b : Nat → Int) (k : Nat) : Int := if k < 3 then 0 else b (k - 3)
def jJ (p : Nat → Nat → Int) (b : Nat → Int) (k1 k2 k3 k : Nat) : Int := jDet (jN p k1) (jN p k2) (jN p k3) * jB b k - jB b k1 * jDot (jN p k) (jCr (jN p k2) (jN p k3)) - jB b k2 * jDot (jN p k) (jCr (jN p k3) (jN p k1)) - jB b k3 * jDot (jN p k) (jCr (jN p k1) (jN p k2))
def jR (p : Nat → Nat → Int) : Nat → Nat → Rat := fun i m => ((p i m : Int) : Rat)
theorem sN_c {p : Nat → Nat → Int} {k m : Nat} : sN (jR p) k m = ((jN p k m : Int) : Rat) := by
  unfold sN jN jR
  by_cases c : k < 3
  · rw [if_pos c, if_pos c]
    by_cases d : k = m
    · rw [if_pos d, if_pos d]
      rfl
    · rw [if_neg d, if_neg d]
      rfl
  · rw [if_neg c, if_neg c, Rat.intCast_neg]
theorem sB_c {b : Nat → Int} {k : Nat} : sB (fun r => ((b r : Int) : Rat)) k = ((jB b k : Int) : Rat) := by
  unfold sB jB
  by_cases c : k < 3
  · rw [if_pos c, if_pos c]
    rfl
  · rw [if_neg c, if_neg c]
theorem sCr_c {u v : Nat → Rat} {u' v' : Nat → Int} (hu : ∀ m, u m = ((u' m : Int) : Rat)) (hv : ∀ m, v m = ((v' m : Int) : Rat)) (m : Nat) : sCr u v m = ((jCr u' v' m : Int) : Rat) := by
  unfold sCr jCr
  by_cases c : m = 0
  · rw [if_pos c, if_pos c, hu, hu, hv, hv, Rat.intCast_sub, Rat.intCast_mul, Rat.intCast_mul]
  · rw [if_neg c, if_neg c]
    by_cases d : m = 1
    · rw [if_pos d, if_pos d, hu, hu, hv, hv, Rat.intCast_sub, Rat.intCast_mul, Rat.intCast_mul]
    · rw [if_neg d, if_neg d, hu, hu, hv, hv, Rat.intCast_sub, Rat.intCast_mul, Rat.intCast_mul]
theorem sDot_c {u v : Nat → Rat} {u' v' : Nat → Int} (hu : ∀ m, u m = ((u' m : Int) : Rat)) (hv : ∀ m, v m = ((v' m : Int) : Rat)) : sDot u v = ((jDot u' v' : Int) : Rat) := by
  rw [sDot_e, jDot_e, hu, hu, hu, hv, hv, hv, Rat.intCast_add, Rat.intCast_add, Rat.intCast_mul, Rat.intCast_mul, Rat.intCast_mul]
theorem sDet_c {u v w : Nat → Rat} {u' v' w' : Nat → Int} (hu : ∀ m, u m = ((u' m : Int) : Rat)) (hv : ∀ m, v m = ((v' m : Int) : Rat)) (hw : ∀ m, w m = ((w' m : Int) : Rat)) : sDet u v w = ((jDet u' v' w' : Int) : Rat) := sDot_c hu (fun m => sCr_c hv hw m)
theorem sK {P : Nat → Nat → Rat} {b y : Nat → Rat} {k1 k2 k3 k : Nat} (c1 : sC P b y k1 = 0) (c2 : sC P b y k2 = 0) (c3 : sC P b y k3 = 0) : sDet (sN P k1) (sN P k2) (sN P k3) * sC P b y k = sDet (sN P k1) (sN P k2) (sN P k3) * sB b k - sB b k1 * sDot (sN P k) (sCr (sN P k2) (sN P k3)) - sB b k2 * sDot (sN P k) (sCr (sN P k3) (sN P k1)) - sB b k3 * sDot (sN P k) (sCr (sN P k1) (sN P k2)) := by
  have e0 := sCram (sN P k1) (sN P k2) (sN P k3) y (m := 0) (by decide)
  have e1 := sCram (sN P k1) (sN P k2) (sN P k3) y (m := 1) (by decide)
  have e2 := sCram (sN P k1) (sN P k2) (sN P k3) y (m := 2) (by decide)
  unfold sC at c1 c2 c3 ⊢
  have d1 : sDot (sN P k1) y = -sB b k1 := by grind
  have d2 : sDot (sN P k2) y = -sB b k2 := by grind
  have d3 : sDot (sN P k3) y = -sB b k3 := by grind
  rw [d1, d2, d3] at e0 e1 e2
  generalize sDet (sN P k1) (sN P k2) (sN P k3) = D at *
  generalize sCr (sN P k2) (sN P k3) = A at *
  generalize sCr (sN P k3) (sN P k1) = B at *
  generalize sCr (sN P k1) (sN P k2) = C at *
  rw [sDot_e, sDot_e, sDot_e, sDot_e]
  have t : D * (sN P k 0 * y 0 + sN P k 1 * y 1 + sN P k 2 * y 2 + sB b k) = sN P k 0 * (D * y 0) + sN P k 1 * (D * y 1) + sN P k 2 * (D * y 2) + D * sB b k := by grind
  rw [t, e0, e1, e2]
  grind
theorem sK_c {p : Nat → Nat → Int} {b : Nat → Int} {y : Nat → Rat} {k1 k2 k3 k : Nat} (c1 : sC (jR p) (fun r => ((b r : Int) : Rat)) y k1 = 0) (c2 : sC (jR p) (fun r => ((b r : Int) : Rat)) y k2 = 0) (c3 : sC (jR p) (fun r => ((b r : Int) : Rat)) y k3 = 0) : ((jDet (jN p k1) (jN p k2) (jN p k3) : Int) : Rat) * sC (jR p) (fun r => ((b r : Int) : Rat)) y k = ((jJ p b k1 k2 k3 k : Int) : Rat) := by
  have n : ∀ k m, sN (jR p) k m = ((jN p k m : Int) : Rat) := fun k m => sN_c
  have e := sK (k := k) c1 c2 c3
  rw [sDet_c (n k1) (n k2) (n k3), sB_c, sB_c, sB_c, sB_c, sDot_c (n k) (fun m => sCr_c (n k2) (n k3) m), sDot_c (n k) (fun m => sCr_c (n k3) (n k1) m), sDot_c (n k) (fun m => sCr_c (n k1) (n k2) m)] at e
  rw [e]
  unfold jJ
  rw [Rat.intCast_sub, Rat.intCast_sub, Rat.intCast_sub, Rat.intCast_mul, Rat.intCast_mul, Rat.intCast_mul, Rat.intCast_mul]
/-! the sizes -/
def jbd (A x : Int) : Prop := -A ≤ x ∧ x ≤ A
theorem jbd.mul {A B x y : Int} (_hA : 0 ≤ A) (h : jbd A x) (g : jbd B y) : jbd (A * B) (x * y) := by
  obtain ⟨h1, h2⟩ := h
  obtain ⟨g1, g2⟩ := g
  have b0 : 0 ≤ B := by omega
  have t1 := Int.mul_nonneg (show 0 ≤ A - x by omega) (show 0 ≤ B - y by omega)
  have t2 := Int.mul_nonneg (show 0 ≤ A + x by omega) (show 0 ≤ B + y by omega)
  have t3 := Int.mul_nonneg (show 0 ≤ A - x by omega) (show 0 ≤ B + y by omega)
  have t4 := Int.mul_nonneg (show 0 ≤ A + x by omega) (show 0 ≤ B - y by omega)
  constructor
  · have e1 : (A - x) * (B + y) = A * B + A * y - x * B - x * y := by grind
    have e2 : (A + x) * (B - y) = A * B - A * y + x * B - x * y := by grind
    have e1' : (A - x) * (B - y) = A * B - A * y - x * B + x * y := by grind
    have e2' : (A + x) * (B + y) = A * B + A * y + x * B + x * y := by grind
    omega
  · have e1 : (A - x) * (B + y) = A * B + A * y - x * B - x * y := by grind
    have e2 : (A + x) * (B - y) = A * B - A * y + x * B - x * y := by grind
    omega
theorem jN_bd {p : Nat → Nat → Int} (hp : ∀ i m, i < 3 → m < 3 → 1 ≤ p i m ∧ p i m ≤ 199) {k m : Nat} (hk : k < 6) (hm : m < 3) : jbd 199 (jN p k m) := by
  unfold jN
  by_cases c : k < 3
  · rw [if_pos c]
    by_cases d : k = m
    · rw [if_pos d]
      exact ⟨by decide, by decide⟩
    · rw [if_neg d]
      exact ⟨by decide, by decide⟩
  · rw [if_neg c]
    have := hp (k - 3) m (by omega) hm
    exact ⟨by omega, by omega⟩
theorem jCr_bd {p : Nat → Nat → Int} (hp : ∀ i m, i < 3 → m < 3 → 1 ≤ p i m ∧ p i m ≤ 199) {k l m : Nat} (hk : k < 6) (hl : l < 6) (hm : m < 3) : jbd 79202 (jCr (jN p k) (jN p l) m) := by
  have q : ∀ a b c d, a < 3 → b < 3 → c < 3 → d < 3 → jbd 79202 (jN p k a * jN p l b - jN p k c * jN p l d) := fun a b c d h1 h2 h3 h4 => by
    obtain ⟨g1, g2⟩ := (jN_bd hp hk h1).mul (by decide) (jN_bd hp hl h2)
    obtain ⟨g3, g4⟩ := (jN_bd hp hk h3).mul (by decide) (jN_bd hp hl h4)
    exact ⟨by omega, by omega⟩
  rcases m3c hm with rfl | rfl | rfl
  · exact q 1 2 2 1 (by decide) (by decide) (by decide) (by decide)
  · exact q 2 0 0 2 (by decide) (by decide) (by decide) (by decide)
  · exact q 0 1 1 0 (by decide) (by decide) (by decide) (by decide)
theorem jDot_bd {p : Nat → Nat → Int} (hp : ∀ i m, i < 3 → m < 3 → 1 ≤ p i m ∧ p i m ≤ 199) {k l j : Nat} (hk : k < 6) (hl : l < 6) (hj : j < 6) : jbd 47283594 (jDot (jN p j) (jCr (jN p k) (jN p l))) := by
  rw [jDot_e]
  obtain ⟨a1, a2⟩ := (jN_bd hp hj (m := 0) (by decide)).mul (by decide) (jCr_bd hp hk hl (m := 0) (by decide))
  obtain ⟨b1, b2⟩ := (jN_bd hp hj (m := 1) (by decide)).mul (by decide) (jCr_bd hp hk hl (m := 1) (by decide))
  obtain ⟨c1, c2⟩ := (jN_bd hp hj (m := 2) (by decide)).mul (by decide) (jCr_bd hp hk hl (m := 2) (by decide))
  exact ⟨by omega, by omega⟩
/-! a side as a sum over the three numbers b -/
def jdl (r : Nat) : Nat → Int := fun i => if i = r then 1 else 0
theorem jB_lin {b : Nat → Int} {k : Nat} (hk : k < 6) : jB b k = b 0 * jB (jdl 0) k + b 1 * jB (jdl 1) k + b 2 * jB (jdl 2) k := by
  unfold jB jdl
  by_cases c : k < 3
  · rw [if_pos c, if_pos c, if_pos c, if_pos c]
    grind
  · rw [if_neg c, if_neg c, if_neg c, if_neg c]
    rcases m3c (show k - 3 < 3 by omega) with e | e | e
    · rw [e]
      simp
    · rw [e]
      simp
    · rw [e]
      simp
theorem jB01 {r k : Nat} : jB (jdl r) k = 0 ∨ jB (jdl r) k = 1 := by
  unfold jB jdl
  by_cases c : k < 3
  · rw [if_pos c]
    exact Or.inl rfl
  · rw [if_neg c]
    by_cases d : k - 3 = r
    · rw [if_pos d]
      exact Or.inr rfl
    · rw [if_neg d]
      exact Or.inl rfl
theorem jJ_lin {p : Nat → Nat → Int} {b : Nat → Int} {k1 k2 k3 k : Nat} (h1 : k1 < 6) (h2 : k2 < 6) (h3 : k3 < 6) (h : k < 6) : jJ p b k1 k2 k3 k = b 0 * jJ p (jdl 0) k1 k2 k3 k + b 1 * jJ p (jdl 1) k1 k2 k3 k + b 2 * jJ p (jdl 2) k1 k2 k3 k := by
  unfold jJ
  rw [jB_lin (b := b) h1, jB_lin (b := b) h2, jB_lin (b := b) h3, jB_lin (b := b) h]
  grind
theorem jJ_bd {p : Nat → Nat → Int} (hp : ∀ i m, i < 3 → m < 3 → 1 ≤ p i m ∧ p i m ≤ 199) {r k1 k2 k3 k : Nat} (h1 : k1 < 6) (h2 : k2 < 6) (h3 : k3 < 6) (h : k < 6) : jbd 200000000 (jJ p (jdl r) k1 k2 k3 k) := by
  unfold jJ jDet
  obtain ⟨a1, a2⟩ := jDot_bd hp h2 h3 h1
  obtain ⟨b1, b2⟩ := jDot_bd hp h2 h3 h
  obtain ⟨c1, c2⟩ := jDot_bd hp h3 h1 h
  obtain ⟨d1, d2⟩ := jDot_bd hp h1 h2 h
  rcases jB01 (r := r) (k := k) with e | e <;> rcases jB01 (r := r) (k := k1) with e1 | e1 <;> rcases jB01 (r := r) (k := k2) with e2 | e2 <;> rcases jB01 (r := r) (k := k3) with e3 | e3 <;> rw [e, e1, e2, e3] <;> exact ⟨by omega, by omega⟩
/-- the three numbers, far from each other -/
def jbN : Nat → Int := fun r => if r = 0 then 1000000000000000000000000000000000001 else if r = 1 then 1000000000000000000000001000000000000 else 1000000000001000000000000000000000000
theorem jbN0 : jbN 0 = 1000000000000000000000000000000000001 := rfl
theorem jbN1 : jbN 1 = 1000000000000000000000001000000000000 := rfl
theorem jbN2 : jbN 2 = 1000000000001000000000000000000000000 := rfl
theorem jNk {p : Nat → Nat → Int} {k m : Nat} (h : k ≠ m) (_hm : m < 3) : jN p k m = -(jB (fun r => p r m) k) := by
  unfold jN jB
  by_cases c : k < 3
  · rw [if_pos c, if_neg h, if_pos c]
    rfl
  · rw [if_neg c, if_neg c]
/-- no fourth side goes through the corner for all three numbers -/
theorem jNd {p : Nat → Nat → Int} {k1 k2 k3 k : Nat} (h1 : k1 < 6) (h2 : k2 < 6) (h3 : k3 < 6) (h : k < 6) (n1 : k ≠ k1) (n2 : k ≠ k2) (n3 : k ≠ k3) (hD : jDet (jN p k1) (jN p k2) (jN p k3) ≠ 0) (z0 : jJ p (jdl 0) k1 k2 k3 k = 0) (z1 : jJ p (jdl 1) k1 k2 k3 k = 0) (z2 : jJ p (jdl 2) k1 k2 k3 k = 0) : False := by
  have z : ∀ b : Nat → Int, jJ p b k1 k2 k3 k = 0 := fun b => by
    rw [jJ_lin h1 h2 h3 h, z0, z1, z2]
    grind
  by_cases c : k < 3
  · have e := z (fun r => p r k)
    unfold jJ at e
    have b0 : jB (fun r => p r k) k = 0 := by
      unfold jB
      rw [if_pos c]
    have g1 := jNk (p := p) (fun w => n1 w.symm) c
    have g2 := jNk (p := p) (fun w => n2 w.symm) c
    have g3 := jNk (p := p) (fun w => n3 w.symm) c
    have d : ∀ w : Nat → Int, jDot (jN p k) w = w k := fun w => by
      rw [jDot_e]
      unfold jN
      rw [if_pos c, if_pos c, if_pos c]
      rcases m3c c with rfl | rfl | rfl
      · simp
      · simp
      · simp
    rw [b0, d, d, d] at e
    have f : jDet (jN p k1) (jN p k2) (jN p k3) = jCr (jN p k2) (jN p k3) k * jN p k1 k + jCr (jN p k3) (jN p k1) k * jN p k2 k + jCr (jN p k1) (jN p k2) k * jN p k3 k := by
      rw [jDet_e]
      rcases m3c c with rfl | rfl | rfl
      · rw [jCr0, jCr0, jCr0]
        grind
      · rw [jCr1, jCr1, jCr1]
        grind
      · rw [jCr2, jCr2, jCr2]
        grind
    rw [g1, g2, g3] at f
    apply hD
    rw [f]
    grind
  · have e := z (jdl (k - 3))
    unfold jJ at e
    have b0 : jB (jdl (k - 3)) k = 1 := by
      unfold jB jdl
      rw [if_neg c, if_pos rfl]
    have bi : ∀ j, j < 6 → k ≠ j → jB (jdl (k - 3)) j = 0 := fun j hj nj => by
      unfold jB jdl
      by_cases cj : j < 3
      · rw [if_pos cj]
      · rw [if_neg cj, if_neg (by omega)]
    rw [b0, bi k1 h1 n1, bi k2 h2 n2, bi k3 h3 n3] at e
    apply hD
    grind
