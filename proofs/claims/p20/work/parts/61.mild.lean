/-! ===== values: mild, the reference's worths ===== -/
theorem N_powV (v : Int) (n : Nat) (hn : n < 1000) (M : Mem) : F_MO_powerOf (lI v) (iI (n : Int)) M = some (lI (v ^ n)) := by
  apply wp_of
  unfold F_MO_powerOf F_MO_powerOf_l5
  refine wp_bind (Ψ := fun r => r = lI (v ^ n)) ?_ (fun r hr => wp_some hr)
  refine wp_iterS (P := fun k z => k ≤ n ∧ z.1 = lI (v ^ k) ∧ z.2 = iI (k : Int)) n ?_ _ _ ⟨Nat.zero_le _, by rw [Int.pow_zero]; rfl, rfl⟩ (FUEL_big (by omega))
  rintro k ⟨z1, z2⟩ hk ⟨kn, e1, e2⟩
  dsimp only at e1 e2
  subst e1
  subst e2
  unfold F_MO_powerOf_b5
  dsimp only
  refine wp_if (fun c => wp_some ?_) (fun c => ?_)
  · rw [iI_le (by omega) (by omega) (by omega) (by omega)] at c
    rw [show k = n by omega]
  rw [iI_le (by omega) (by omega) (by omega) (by omega)] at c
  exact wp_some ⟨by omega, by omega, by rw [lI_mul, Int.pow_succ], iI_succ k⟩
/-- the sum of p^k q^(l-1-k) -/
def sM (p q : Int) : Nat → Int
  | 0 => 0
  | l + 1 => q ^ l + p * sM p q l
theorem sM_s (p q : Int) (l : Nat) : sM p q (l + 1) = q ^ l + p * sM p q l := rfl
theorem sM_top (p q : Int) : ∀ l : Nat, q * sM p q l + p ^ l = sM p q (l + 1)
  | 0 => by
    rw [sM_s]
    show q * 0 + p ^ 0 = q ^ 0 + p * 0
    rw [Int.mul_zero, Int.mul_zero, Int.pow_zero, Int.pow_zero]
    rfl
  | l + 1 => by
    have h := sM_top p q l
    rw [sM_s] at h
    rw [sM_s p q (l + 1), sM_s p q l, Int.pow_succ, Int.pow_succ]
    grind
def eM (p q k t : Int) (l : Nat) : Int := (q - p) * t * sM p q l + k * p ^ l
theorem eM_s (p q k t : Int) (l : Nat) : eM p q k t (l + 1) = (q - p) * t * q ^ l + p * eM p q k t l := by
  unfold eM
  rw [sM_s, Int.pow_succ]
  grind
theorem eM_c (p q k t : Int) (l : Nat) : eM p q k t l = t * (q ^ l - p ^ l) + k * p ^ l := by
  have h := sM_top p q l
  rw [sM_s] at h
  unfold eM
  grind
theorem powT : ∀ q : Nat, q < 10 → ∀ n : Nat, n < 12 → q ^ n ≤ 31381059609 := by decide +kernel
theorem powB {q : Int} {n : Nat} (h0 : 0 ≤ q) (h9 : q ≤ 9) (hn : n < 12) : 0 ≤ q ^ n ∧ q ^ n ≤ 31381059609 := by
  obtain ⟨m, rfl⟩ : ∃ m : Nat, q = (m : Int) := ⟨q.toNat, by omega⟩
  have := powT m (by omega) n hn
  rw [← Int.natCast_pow]
  omega
theorem powM {p q : Int} (h0 : 0 ≤ p) (h : p ≤ q) : ∀ n : Nat, p ^ n ≤ q ^ n ∧ 0 ≤ p ^ n
  | 0 => by
    rw [Int.pow_zero, Int.pow_zero]
    omega
  | n + 1 => by
    obtain ⟨a, b⟩ := powM h0 h n
    rw [Int.pow_succ, Int.pow_succ]
    exact ⟨Int.mul_le_mul a h h0 (by omega), Int.mul_nonneg b h0⟩
theorem eM_b {p q k t : Int} (l : Nat) (p0 : 0 ≤ p) (pq : p ≤ q) (k1 : -99 ≤ k) (k2 : k ≤ 99) (t1 : -99 ≤ t) (t2 : t ≤ 99) : -(99 * q ^ l) ≤ eM p q k t l ∧ eM p q k t l ≤ 99 * q ^ l := by
  obtain ⟨a, b⟩ := powM p0 pq l
  rw [eM_c]
  have m1 := Int.mul_le_mul_of_nonneg_right t2 (show 0 ≤ q ^ l - p ^ l by omega)
  have m2 := Int.mul_le_mul_of_nonneg_right t1 (show 0 ≤ q ^ l - p ^ l by omega)
  have m3 := Int.mul_le_mul_of_nonneg_right k2 b
  have m4 := Int.mul_le_mul_of_nonneg_right k1 b
  omega
theorem N_mildWorthV {keep thr p q : Int} {l D : Nat} {M : Mem} (hP : M.1 94 19 = iI p) (hQ : M.1 94 20 = iI q) (p0 : 0 ≤ p) (pq : p ≤ q) (q9 : q ≤ 9) (k1 : -99 ≤ keep) (k2 : keep ≤ 99) (t1 : -99 ≤ thr) (t2 : thr ≤ 99) (hl : l ≤ D) (hD : D ≤ 9) : F_MO_mildWorth (iI keep) (iI thr) (iI (l : Int)) (iI (D : Int)) M = some (lI (q ^ (D + 2 - l) * eM p q keep thr l)) := by
  apply wp_of
  have hp := iI_l (a := p) (by omega) (by omega)
  have hq := iI_l (a := q) (by omega) (by omega)
  have sub : ∀ k : Nat, k ≤ D + 1 → (iI (D : Int) + 1) - iI (k : Int) = iI ((D + 1 - k : Nat) : Int) := fun k hk => by
    rw [iI_succ, iI_sub]
    congr 1
    omega
  unfold F_MO_mildWorth F_MO_mildWorth_l6
  refine wp_bind (Ψ := fun r => r = lI (q ^ (D + 2 - l) * sM p q l)) ?_ (fun r hr => ?_)
  · refine wp_iterS (P := fun k z => k ≤ l ∧ z.1 = lI (q ^ (D + 2 - k) * sM p q k) ∧ z.2 = iI (k : Int)) l ?_ _ _ ⟨Nat.zero_le _, ?_, rfl⟩ (FUEL_big (by omega))
    · rintro k ⟨z1, z2⟩ hk ⟨kl, e1, e2⟩
      dsimp only at e1 e2
      subst e1
      subst e2
      unfold F_MO_mildWorth_b6
      dsimp only
      refine wp_if (fun c => wp_some ?_) (fun c => ?_)
      · rw [iI_le (by omega) (by omega) (by omega) (by omega)] at c
        rw [show k = l by omega]
      rw [iI_le (by omega) (by omega) (by omega) (by omega)] at c
      rw [hP, hQ, hp, hq, N_powV p k (by omega), bs, sub k (by omega), N_powV q (D + 1 - k) (by omega), bs]
      refine wp_some ⟨by omega, by omega, ?_, iI_succ k⟩
      rw [lI_mul, lI_add]
      congr 1
      have e1 : D + 2 - k = (D + 1 - k) + 1 := by omega
      have e2 : D + 2 - (k + 1) = D + 1 - k := by omega
      rw [e1, e2, ← sM_top, Int.pow_succ]
      grind
    · show lI 0 = lI (q ^ (D + 2 - 0) * 0)
      rw [Int.mul_zero]
  · subst hr
    unfold F_MO_mildWorth_j49
    have m := mulb (a := thr) (b := q - p) (m := 99) (n := 9) (by omega) (by omega) (by omega) (by omega)
    rw [hP, hQ, hp, hq, N_powV p l (by omega), bs, sub l (by omega), N_powV q (D + 1 - l) (by omega), bs, iI_sub, iI_mul, iI_l (by omega) (by omega)]
    rw [iI_l (by omega) (by omega), lI_mul, lI_mul, lI_mul, lI_mul, lI_add]
    refine wp_some ?_
    congr 1
    have e1 : D + 2 - l = (D + 1 - l) + 1 := by omega
    unfold eM
    rw [e1, Int.pow_succ]
    grind
