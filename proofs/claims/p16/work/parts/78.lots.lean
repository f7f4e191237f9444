/-! ===== lots: corners of a body in three dimensions, the best of them (fractions) ===== -/
def sDot (u v : Nat → Rat) : Rat := u 0 * v 0 + u 1 * v 1 + u 2 * v 2
def sCr (u v : Nat → Rat) (m : Nat) : Rat := if m = 0 then u 1 * v 2 - u 2 * v 1 else if m = 1 then u 2 * v 0 - u 0 * v 2 else u 0 * v 1 - u 1 * v 0
theorem sCr0 {u v : Nat → Rat} : sCr u v 0 = u 1 * v 2 - u 2 * v 1 := rfl
theorem sCr1 {u v : Nat → Rat} : sCr u v 1 = u 2 * v 0 - u 0 * v 2 := rfl
theorem sCr2 {u v : Nat → Rat} : sCr u v 2 = u 0 * v 1 - u 1 * v 0 := rfl
def sDet (u v w : Nat → Rat) : Rat := sDot u (sCr v w)
theorem sDet_e {u v w : Nat → Rat} : sDet u v w = u 0 * (v 1 * w 2 - v 2 * w 1) + u 1 * (v 2 * w 0 - v 0 * w 2) + u 2 * (v 0 * w 1 - v 1 * w 0) := rfl
theorem sDot_e {u v : Nat → Rat} : sDot u v = u 0 * v 0 + u 1 * v 1 + u 2 * v 2 := rfl
theorem m3c {m : Nat} (h : m < 3) : m = 0 ∨ m = 1 ∨ m = 2 := by omega
theorem sCram (u v w z : Nat → Rat) {m : Nat} (hm : m < 3) : sDet u v w * z m = sDot u z * sCr v w m + sDot v z * sCr w u m + sDot w z * sCr u v m := by
  rw [sDet_e, sDot_e, sDot_e, sDot_e]
  rcases m3c hm with rfl | rfl | rfl
  · rw [sCr0, sCr0, sCr0]
    grind
  · rw [sCr1, sCr1, sCr1]
    grind
  · rw [sCr2, sCr2, sCr2]
    grind
theorem sCramg (u v w g : Nat → Rat) {m : Nat} (hm : m < 3) : sDet u v w * g m = sDot g (sCr v w) * u m + sDot g (sCr w u) * v m + sDot g (sCr u v) * w m := by
  rw [sDet_e, sDot_e, sDot_e, sDot_e, sCr0, sCr1, sCr2, sCr0, sCr1, sCr2, sCr0, sCr1, sCr2]
  rcases m3c hm with rfl | rfl | rfl <;> grind
theorem sRot {u v w : Nat → Rat} : sDet v w u = sDet u v w := by
  rw [sDet_e, sDet_e]
  grind
theorem sZero {u v w z : Nat → Rat} (h : sDet u v w ≠ 0) (h1 : sDot u z = 0) (h2 : sDot v z = 0) (h3 : sDot w z = 0) : ∀ m, m < 3 → z m = 0 := fun m hm => by
  have e := sCram u v w z hm
  rw [h1, h2, h3] at e
  have e2 : sDet u v w * z m = 0 := by grind
  rcases Rat.mul_eq_zero.mp e2 with q | q
  · exact absurd q h
  · exact q
/-- the sides: three where a part is 0, three where a row is full -/
def sN (P : Nat → Nat → Rat) (k m : Nat) : Rat := if k < 3 then (if k = m then 1 else 0) else -(P (k - 3) m)
def sB (b : Nat → Rat) (k : Nat) : Rat := if k < 3 then 0 else b (k - 3)
def sC (P : Nat → Nat → Rat) (b y : Nat → Rat) (k : Nat) : Rat := sDot (sN P k) y + sB b k
theorem sN_e {P : Nat → Nat → Rat} {z : Nat → Rat} {k : Nat} (h : k < 3) : sDot (sN P k) z = z k := by
  rw [sDot_e]
  unfold sN
  rw [if_pos h, if_pos h, if_pos h]
  rcases m3c h with rfl | rfl | rfl
  · rw [if_pos rfl, if_neg (by decide), if_neg (by decide)]
    grind
  · rw [if_neg (by decide), if_pos rfl, if_neg (by decide)]
    grind
  · rw [if_neg (by decide), if_neg (by decide), if_pos rfl]
    grind
theorem sN_p {P : Nat → Nat → Rat} {z : Nat → Rat} {i : Nat} : sDot (sN P (3 + i)) z = -(P i 0 * z 0 + P i 1 * z 1 + P i 2 * z 2) := by
  rw [sDot_e]
  unfold sN
  rw [if_neg (by omega), if_neg (by omega), if_neg (by omega), show 3 + i - 3 = i by omega]
  grind
theorem sC_lin {P : Nat → Nat → Rat} {b y d : Nat → Rat} {t : Rat} {k : Nat} : sC P b (fun m => y m + t * d m) k = sC P b y k + t * sDot (sN P k) d := by
  unfold sC
  rw [sDot_e, sDot_e, sDot_e]
  grind
def sVtx (P : Nat → Nat → Rat) (b : Nat → Rat) (k1 k2 k3 : Nat) (y : Nat → Rat) : Prop := (k1 < 6 ∧ k2 < 6 ∧ k3 < 6) ∧ sDet (sN P k1) (sN P k2) (sN P k3) ≠ 0 ∧ (sC P b y k1 = 0 ∧ sC P b y k2 = 0 ∧ sC P b y k3 = 0) ∧ ∀ k, k < 6 → 0 ≤ sC P b y k
theorem sVtx.rot {P : Nat → Nat → Rat} {b y : Nat → Rat} {k1 k2 k3 : Nat} (h : sVtx P b k1 k2 k3 y) : sVtx P b k2 k3 k1 y := by
  obtain ⟨⟨a1, a2, a3⟩, h2, ⟨c1, c2, c3⟩, h4⟩ := h
  refine ⟨⟨a2, a3, a1⟩, ?_, ⟨c2, c3, c1⟩, h4⟩
  rw [sRot]
  exact h2
theorem sVtx.uq {P : Nat → Nat → Rat} {b y y' : Nat → Rat} {k1 k2 k3 : Nat} (h : sVtx P b k1 k2 k3 y) (h' : sVtx P b k1 k2 k3 y') : ∀ m, m < 3 → y m = y' m := by
  obtain ⟨-, h2, ⟨c1, c2, c3⟩, -⟩ := h
  obtain ⟨-, -, ⟨d1, d2, d3⟩, -⟩ := h'
  have z : ∀ k, sC P b y k = 0 → sC P b y' k = 0 → sDot (sN P k) (fun m => y m - y' m) = 0 := fun k q1 q2 => by
    unfold sC at q1 q2
    rw [sDot_e] at q1 q2 ⊢
    grind
  intro m hm
  have := sZero h2 (z k1 c1 d1) (z k2 c2 d2) (z k3 c3 d3) m hm
  grind
theorem sMaxR {F : Nat → Rat → Prop} (uq : ∀ c v v', F c v → F c v' → v = v') : ∀ N, (∃ c v, c < N ∧ F c v) → ∃ c v, c < N ∧ F c v ∧ ∀ c' v', c' < N → F c' v' → v' ≤ v := by
  intro N
  induction N with
  | zero =>
    rintro ⟨c, v, h, -⟩
    exact absurd h (Nat.not_lt_zero _)
  | succ N ih =>
    intro hex
    by_cases hb : ∃ c v, c < N ∧ F c v
    · obtain ⟨c, v, h1, h2, h3⟩ := ih hb
      by_cases hN : ∃ w, F N w ∧ v < w
      · obtain ⟨w, g1, g2⟩ := hN
        refine ⟨N, w, by omega, g1, fun c' v' q1 q2 => ?_⟩
        by_cases qc : c' = N
        · rw [qc] at q2
          have := uq N v' w q2 g1
          grind
        · have := h3 c' v' (by omega) q2
          grind
      · refine ⟨c, v, by omega, h2, fun c' v' q1 q2 => ?_⟩
        by_cases qc : c' = N
        · rw [qc] at q2
          exact Rat.not_lt.mp (fun w => hN ⟨v', q2, w⟩)
        · exact h3 c' v' (by omega) q2
    · obtain ⟨c, v, h1, h2⟩ := hex
      have ec : c = N := Classical.byContradiction (fun w => hb ⟨c, v, by omega, h2⟩)
      subst ec
      refine ⟨c, v, h1, h2, fun c' v' q1 q2 => ?_⟩
      by_cases qc : c' = c
      · rw [qc] at q2
        have := uq c v' v q2 h2
        grind
      · exact absurd ⟨c', v', by omega, q2⟩ hb
theorem sMinR {f : Nat → Rat} {p : Nat → Prop} (N : Nat) (h : ∃ k, k < N ∧ p k) : ∃ k, k < N ∧ p k ∧ ∀ j, j < N → p j → f k ≤ f j := by
  obtain ⟨k, hk, pk⟩ := h
  obtain ⟨c, v, h1, ⟨h2, h3⟩, h4⟩ := sMaxR (F := fun c v => p c ∧ v = -(f c)) (fun c v v' a b => by rw [a.2, b.2]) N ⟨k, -(f k), hk, pk, rfl⟩
  refine ⟨c, h1, h2, fun j hj pj => ?_⟩
  have := h4 j (-(f j)) hj ⟨pj, rfl⟩
  grind
/-- a corner from which a side leads to a better one -/
theorem sImp {P : Nat → Nat → Rat} {b y : Nat → Rat} {k1 k2 k3 : Nat} {r : Rat} (hP : ∀ i m, i < 3 → m < 3 → 0 < P i m) (h : sVtx P b k1 k2 k3 y) (nd : ∀ k, k < 6 → k ≠ k1 → k ≠ k2 → k ≠ k3 → sC P b y k ≠ 0) (hr : sDet (sN P k1) (sN P k2) (sN P k3) * r = 1) (hg : 0 < (sCr (sN P k2) (sN P k3) 0 + sCr (sN P k2) (sN P k3) 1 + sCr (sN P k2) (sN P k3) 2) * r) : ∃ k y', sVtx P b k k2 k3 y' ∧ y 0 + y 1 + y 2 < y' 0 + y' 1 + y' 2 := by
  obtain ⟨⟨a1, a2, a3⟩, hD, ⟨c1, c2, c3⟩, hf⟩ := h
  obtain ⟨d, hd⟩ : ∃ d : Nat → Rat, ∀ m, d m = sCr (sN P k2) (sN P k3) m * r := ⟨_, fun _ => rfl⟩
  have e1 : sDot (sN P k1) d = 1 := by
    rw [← hr, sDot_e, hd, hd, hd]
    unfold sDet
    rw [sDot_e]
    grind
  have e2 : sDot (sN P k2) d = 0 := by
    rw [sDot_e, hd, hd, hd, sCr0, sCr1, sCr2]
    grind
  have e3 : sDot (sN P k3) d = 0 := by
    rw [sDot_e, hd, hd, hd, sCr0, sCr1, sCr2]
    grind
  have gd : 0 < d 0 + d 1 + d 2 := by
    rw [hd, hd, hd]
    have e : sCr (sN P k2) (sN P k3) 0 * r + sCr (sN P k2) (sN P k3) 1 * r + sCr (sN P k2) (sN P k3) 2 * r = (sCr (sN P k2) (sN P k3) 0 + sCr (sN P k2) (sN P k3) 1 + sCr (sN P k2) (sN P k3) 2) * r := by grind
    rw [e]
    exact hg
  have bl : ∃ k, k < 6 ∧ sDot (sN P k) d < 0 := Classical.byContradiction (fun no => by
    have all : ∀ k, k < 6 → 0 ≤ sDot (sN P k) d := fun k hk => Rat.not_lt.mp (fun w => no ⟨k, hk, w⟩)
    have p0 := all 0 (by decide)
    have p1 := all 1 (by decide)
    have p2 := all 2 (by decide)
    have p3 := all (3 + 0) (by decide)
    rw [sN_e (by decide)] at p0 p1 p2
    rw [sN_p] at p3
    have t0 := Rat.mul_nonneg (Rat.le_of_lt (hP 0 0 (by decide) (by decide))) p0
    have t1 := Rat.mul_nonneg (Rat.le_of_lt (hP 0 1 (by decide) (by decide))) p1
    have t2 := Rat.mul_nonneg (Rat.le_of_lt (hP 0 2 (by decide) (by decide))) p2
    have z : ∀ m, m < 3 → 0 ≤ d m → P 0 m * d m ≤ 0 → d m = 0 := fun m hm q1 q2 => by
      rcases Classical.em (0 < d m) with c | c
      · have := Rat.mul_pos (hP 0 m (by decide) hm) c
        grind
      · grind
    have z0 := z 0 (by decide) p0 (by grind)
    have z1 := z 1 (by decide) p1 (by grind)
    have z2 := z 2 (by decide) p2 (by grind)
    rw [z0, z1, z2] at gd
    grind)
  obtain ⟨k, hk, pk, hmin⟩ := sMinR (f := fun k => sC P b y k / -(sDot (sN P k) d)) (p := fun k => sDot (sN P k) d < 0) 6 bl
  have out : ∀ j, sDot (sN P j) d < 0 → j ≠ k1 ∧ j ≠ k2 ∧ j ≠ k3 := fun j hj => by
    refine ⟨fun w => ?_, fun w => ?_, fun w => ?_⟩
    · rw [w, e1] at hj
      exact absurd hj (by decide)
    · rw [w, e2] at hj
      exact absurd hj (by decide)
    · rw [w, e3] at hj
      exact absurd hj (by decide)
  have cpos : ∀ j, j < 6 → sDot (sN P j) d < 0 → 0 < sC P b y j := fun j hj hb => by
    obtain ⟨o1, o2, o3⟩ := out j hb
    have n0 := nd j hj o1 o2 o3
    have n1 := hf j hj
    grind
  obtain ⟨t, ht⟩ : ∃ t, t = sC P b y k / -(sDot (sN P k) d) := ⟨_, rfl⟩
  have hs : 0 < -(sDot (sN P k) d) := by grind
  have ht2 : t * -(sDot (sN P k) d) = sC P b y k := by
    rw [ht]
    exact Rat.div_mul_cancel (by grind)
  have tpos : 0 < t := by
    have h1 := cpos k hk pk
    rw [← ht2] at h1
    rcases Classical.em (0 < t) with q | q
    · exact q
    · have h2 := Rat.mul_le_mul_of_nonneg_right (Rat.not_lt.mp q) (Rat.le_of_lt hs)
      grind
  refine ⟨k, fun m => y m + t * d m, ⟨⟨hk, a2, a3⟩, ?_, ⟨?_, ?_, ?_⟩, fun j hj => ?_⟩, ?_⟩
  · intro w
    have e : sDet (sN P k) (sN P k2) (sN P k3) * r = sDot (sN P k) d := by
      rw [sDot_e, hd, hd, hd]
      unfold sDet
      rw [sDot_e]
      grind
    rw [w] at e
    grind
  · rw [sC_lin, ← ht2]
    grind
  · rw [sC_lin, c2, e2]
    grind
  · rw [sC_lin, c3, e3]
    grind
  · rw [sC_lin]
    rcases Classical.em (sDot (sN P j) d < 0) with q | q
    · have h1 : t ≤ sC P b y j / -(sDot (sN P j) d) := by
        rw [ht]
        exact hmin j hj q
      have hs2 : 0 < -(sDot (sN P j) d) := by grind
      have h2 := Rat.mul_le_mul_of_nonneg_right h1 (Rat.le_of_lt hs2)
      rw [Rat.div_mul_cancel (show -(sDot (sN P j) d) ≠ 0 by grind)] at h2
      grind
    · have h1 := Rat.mul_nonneg (Rat.le_of_lt tpos) (Rat.not_lt.mp q)
      have h2 := hf j hj
      grind
  · have h1 := Rat.mul_pos tpos gd
    show y 0 + y 1 + y 2 < (y 0 + t * d 0) + (y 1 + t * d 1) + (y 2 + t * d 2)
    have e : (y 0 + t * d 0) + (y 1 + t * d 1) + (y 2 + t * d 2) = (y 0 + y 1 + y 2) + t * (d 0 + d 1 + d 2) := by grind
    rw [e]
    grind
/-- a best corner: no side leads to a better one -/
theorem sBest {P : Nat → Nat → Rat} {b : Nat → Rat} (hP : ∀ i m, i < 3 → m < 3 → 0 < P i m) (hb : ∀ r, r < 3 → 0 ≤ b r) (nd : ∀ k1 k2 k3 y, sVtx P b k1 k2 k3 y → ∀ k, k < 6 → k ≠ k1 → k ≠ k2 → k ≠ k3 → sC P b y k ≠ 0) : ∃ k1 k2 k3 y r, sVtx P b k1 k2 k3 y ∧ sDet (sN P k1) (sN P k2) (sN P k3) * r = 1 ∧ (sCr (sN P k2) (sN P k3) 0 + sCr (sN P k2) (sN P k3) 1 + sCr (sN P k2) (sN P k3) 2) * r ≤ 0 ∧ (sCr (sN P k3) (sN P k1) 0 + sCr (sN P k3) (sN P k1) 1 + sCr (sN P k3) (sN P k1) 2) * r ≤ 0 ∧ (sCr (sN P k1) (sN P k2) 0 + sCr (sN P k1) (sN P k2) 1 + sCr (sN P k1) (sN P k2) 2) * r ≤ 0 := by
  have start : sVtx P b 0 1 2 (fun _ => 0) := by
    have d0 : ∀ k, sDot (sN P k) (fun _ => 0) = 0 := fun k => by
      rw [sDot_e]
      grind
    refine ⟨by decide, ?_, ⟨?_, ?_, ?_⟩, fun k hk => ?_⟩
    · rw [sDet_e]
      unfold sN
      simp
      grind
    · unfold sC sB
      rw [d0, if_pos (by decide)]
      grind
    · unfold sC sB
      rw [d0, if_pos (by decide)]
      grind
    · unfold sC sB
      rw [d0, if_pos (by decide)]
      grind
    · unfold sC sB
      rw [d0]
      by_cases c : k < 3
      · rw [if_pos c]
        grind
      · rw [if_neg c]
        have := hb (k - 3) (by omega)
        grind
  obtain ⟨c, v, -, ⟨y, hy, hv⟩, hmax⟩ := sMaxR (F := fun c v => ∃ y, sVtx P b (c / 36) (c / 6 % 6) (c % 6) y ∧ v = y 0 + y 1 + y 2) (fun c v v' ⟨y, h1, h2⟩ ⟨y', h3, h4⟩ => by
    have e := h1.uq h3
    rw [h2, h4, e 0 (by decide), e 1 (by decide), e 2 (by decide)]) 216 ⟨8, 0, by decide, fun _ => 0, start, by grind⟩
  have best : ∀ k1 k2 k3 y', sVtx P b k1 k2 k3 y' → y' 0 + y' 1 + y' 2 ≤ v := fun k1 k2 k3 y' h => by
    obtain ⟨g1, g2, g3⟩ := h.1
    refine hmax (36 * k1 + 6 * k2 + k3) _ (by omega) ⟨y', ?_, rfl⟩
    rw [show (36 * k1 + 6 * k2 + k3) / 36 = k1 by omega, show (36 * k1 + 6 * k2 + k3) / 6 % 6 = k2 by omega, show (36 * k1 + 6 * k2 + k3) % 6 = k3 by omega]
    exact h
  generalize c / 36 = k1 at *
  generalize c / 6 % 6 = k2 at *
  generalize c % 6 = k3 at *
  have hr : sDet (sN P k1) (sN P k2) (sN P k3) * (sDet (sN P k1) (sN P k2) (sN P k3))⁻¹ = 1 := Rat.mul_inv_cancel _ hy.2.1
  generalize (sDet (sN P k1) (sN P k2) (sN P k3))⁻¹ = r at hr
  have no : ∀ j1 j2 j3, sVtx P b j1 j2 j3 y → sDet (sN P j1) (sN P j2) (sN P j3) * r = 1 → (sCr (sN P j2) (sN P j3) 0 + sCr (sN P j2) (sN P j3) 1 + sCr (sN P j2) (sN P j3) 2) * r ≤ 0 := fun j1 j2 j3 hj hr' => Rat.not_lt.mp (fun w => by
    obtain ⟨k, y', h1, h2⟩ := sImp hP hj (nd j1 j2 j3 y hj) hr' w
    have := best k j2 j3 y' h1
    grind)
  exact ⟨k1, k2, k3, y, r, hy, hr, no k1 k2 k3 hy hr, no k2 k3 k1 hy.rot (by rw [sRot]; exact hr), no k3 k1 k2 hy.rot.rot (by rw [sRot, sRot]; exact hr)⟩
