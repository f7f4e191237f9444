/-! ===== values: mild, the reference's gains ===== -/
theorem eM_w {p q k t : Int} {l n : Nat} (p0 : 0 ≤ p) (pq : p ≤ q) (k1 : -99 ≤ k) (k2 : k ≤ 99) (t1 : -99 ≤ t) (t2 : t ≤ 99) (hl : l ≤ n) : -(99 * q ^ n) ≤ q ^ (n - l) * eM p q k t l ∧ q ^ (n - l) * eM p q k t l ≤ 99 * q ^ n := by
  obtain ⟨a, b⟩ := eM_b (k := k) (t := t) l p0 pq k1 k2 t1 t2
  have c := (powM p0 pq (n - l))
  have d : 0 ≤ q ^ (n - l) := by omega
  have e : q ^ (n - l) * (99 * q ^ l) = 99 * q ^ n := by
    rw [Int.mul_left_comm, ← Int.pow_add, Nat.sub_add_cancel hl]
  have f := Int.mul_le_mul_of_nonneg_left b d
  have g := Int.mul_le_mul_of_nonneg_left a d
  rw [Int.mul_neg] at g
  omega
def gainW (W : Nat → Int32) (A pe own y : Nat) (p q keep thr : Int) (l D k : Nat) : Prop := k < A ∧ k ≠ own ∧ q ^ (D + 2 - l) * eM p q keep thr l < ownW W pe k y * ((q - p) * q ^ (D + 1)) + q * eM p q keep thr D * p
theorem N_gainsV {pe own y l D A : Nat} {keep thr p q : Int} {M : Mem} (h : RIW (M.1 95)) (hA : M.1 95 0 = iI (A : Int)) (a3 : A ≤ 3) (hpe : pe < 2) (hy : y < 3) (hown : own < 3) (hP : M.1 94 19 = iI p) (hQ : M.1 94 20 = iI q) (p0 : 1 ≤ p) (pq : p < q) (q9 : q ≤ 9) (k1 : -99 ≤ keep) (k2 : keep ≤ 99) (t1 : -99 ≤ thr) (t2 : thr ≤ 99) (hl : l ≤ D) (hD : D ≤ 9) : wpO (F_MO_gainsMildly (iI (pe : Int)) (iI (own : Int)) (iI (y : Int)) (iI keep) (iI thr) (iI (l : Int)) (iI (D : Int)) M) (fun b => b = true ↔ ∃ k, gainW (M.1 95) A pe own y p q keep thr l D k) := by
  have l0 : (0 : Int64) = lI 0 := rfl
  have hp := iI_l (a := p) (by omega) (by omega)
  have hq := iI_l (a := q) (by omega) (by omega)
  have hqp := iI_l (a := q - p) (by omega) (by omega)
  have b1 := eM_w (k := keep) (t := thr) (l := l) (n := D + 2) (p := p) (q := q) (by omega) (by omega) k1 k2 t1 t2 (by omega)
  have b2 := eM_w (k := keep) (t := thr) (l := D) (n := D + 1) (p := p) (q := q) (by omega) (by omega) k1 k2 t1 t2 (by omega)
  have b3 := powB (q := q) (n := D + 2) (by omega) q9 (by omega)
  have b4 := powB (q := q) (n := D + 1) (by omega) q9 (by omega)
  rw [show D + 1 - D = 1 by omega, Int.pow_one] at b2
  have e2 : q ^ (D + 2 - D) * eM p q keep thr D = q * (q * eM p q keep thr D) := by
    rw [show D + 2 - D = 1 + 1 by omega, Int.pow_succ, Int.pow_one, Int.mul_assoc]
  have b5 := mulb (a := q) (b := q * eM p q keep thr D) (m := 9) (n := 3106724901291) (by omega) (by omega) (by omega) (by omega)
  have b6 := mulb (a := q * eM p q keep thr D) (b := p) (m := 3106724901291) (n := 9) (by omega) (by omega) (by omega) (by omega)
  have b7 := mulb (a := q - p) (b := q ^ (D + 1)) (m := 9) (n := 31381059609) (by omega) (by omega) (by omega) (by omega)
  unfold F_MO_gainsMildly
  rw [N_mildWorthV hP hQ (by omega) (by omega) q9 k1 k2 t1 t2 hl hD, bs, N_mildWorthV hP hQ (by omega) (by omega) q9 k1 k2 t1 t2 (Nat.le_refl D) hD, bs, hP, hQ, iI_sub, hp, hq, hqp, e2, iI_succ, N_powV q (D + 1) (by omega)]
  refine wp_t (by rw [l0, lI_eq] <;> omega) ?_
  rw [bs, ldiv_lI (by omega) (by omega) (by omega) (by omega), Int.mul_tdiv_cancel_left _ (show q ≠ 0 by omega), lI_mul, lI_mul]
  unfold gainW
  generalize q ^ (D + 2 - l) * eM p q keep thr l = X at *
  generalize q * eM p q keep thr D * p = Y at *
  generalize (q - p) * q ^ (D + 1) = U at *
  unfold F_MO_gainsMildly_l68
  refine wp_bind (Ψ := sumP (fun _ => ∃ k, k < A ∧ k ≠ own ∧ X < ownW (M.1 95) pe k y * U + Y) (fun _ => ¬ ∃ k, k < A ∧ k ≠ own ∧ X < ownW (M.1 95) pe k y * U + Y)) ?_ (fun r hr => ?_)
  · refine wp_iterS (P := fun k z => k ≤ A ∧ z = iI (k : Int) ∧ ∀ j, j < k → j ≠ own → ¬ X < ownW (M.1 95) pe j y * U + Y) A ?_ _ _ ⟨Nat.zero_le _, rfl, fun j hj => absurd hj (Nat.not_lt_zero _)⟩ (FUEL_big (by omega))
    rintro k z hk ⟨kA, rfl, hn⟩
    unfold F_MO_gainsMildly_b68
    rw [S_actMany, bs, hA]
    refine wp_if (fun c => wp_some ?_) (fun c => ?_)
    · rw [iI_le (by omega) (by omega) (by omega) (by omega)] at c
      rintro ⟨j, hj, hj2, hj3⟩
      exact hn j (by omega) hj2 hj3
    rw [iI_le (by omega) (by omega) (by omega) (by omega)] at c
    refine wp_if (fun d => wp_some ⟨by omega, by omega, iI_succ k, fun j hj hj2 => ?_⟩) (fun d => ?_)
    · rw [iI_eq (by omega) (by omega) (by omega) (by omega)] at d
      exact hn j (by omega) hj2
    rw [iI_eq (by omega) (by omega) (by omega) (by omega)] at d
    have bo := ownW_le (p := pe) h.br (x := k) (y := y) (by omega) hy
    have m := mulb (a := ownW (M.1 95) pe k y) (b := U) (m := 99) (n := 282429536481) (by omega) (by omega) (by omega) (by omega)
    rw [N_own hpe (by omega) hy, bs, iI_l (by omega) (by omega), lI_mul, lI_add]
    refine wp_if (fun w => wp_some ⟨by omega, by omega, iI_succ k, fun j hj hj2 => ?_⟩) (fun w => wp_some ⟨k, by omega, by omega, ?_⟩)
    · rw [lI_le (by omega) (by omega) (by omega) (by omega)] at w
      by_cases q : j = k
      · rw [q]
        omega
      · exact hn j (by omega) hj2
    · rw [lI_le (by omega) (by omega) (by omega) (by omega)] at w
      omega
  · cases r with
    | inl r => exact wp_some ⟨fun _ => hr, fun _ => rfl⟩
    | inr r => exact wp_some ⟨fun w => Bool.noConfusion w, fun w => absurd w hr⟩
