/-! ===== the reference's determinants, lots ===== -/
theorem N_tellsN {a b : Int} (a1 : -9223372036854775808 < a) (a2 : a < 9223372036854775808) (hb : ¬ b = 0) (b1 : -9223372036854775808 < b) (b2 : b < 9223372036854775808) (M : Mem) : wpO (F_MO_tells (lI a) (lI b) M) (fun _ => True) := by
  have l0 : (0 : Int64) = lI 0 := rfl
  have hg : 0 < Int.gcd a b := Int.gcd_pos_of_ne_zero_right a hb
  have gle : Int.gcd a b ≤ b.natAbs := Nat.le_of_dvd (by omega) (Int.gcd_dvd_natAbs_right a b)
  have core : ∀ s : Int, (s = 1 ∨ s = -1) → wpO (F_MO_tells_j13 (lI a) (lI b) (lI s) M) (fun _ => True) := by
    intro s hs
    unfold F_MO_tells_j13
    rw [N_common a1 a2 b1 b2, bs, lI_mul]
    have hne : ¬ lI ((Int.gcd a b : Int) * s) = 0 := by
      rcases hs with rfl | rfl
      · rw [l0, lI_eq] <;> omega
      · rw [l0, lI_eq] <;> omega
    exact wp_t hne (wp_t hne (wp_some trivial))
  unfold F_MO_tells
  exact wp_if (fun _ => core 1 (Or.inl rfl)) (fun _ => core (-1) (Or.inr rfl))
def bcI (x : Int32) : Int32 := (F_Integer_bitCount x (fun _ _ => 0, fun _ _ => 0)).getD 0
theorem bc_eq (x : Int32) (M : Mem) : F_Integer_bitCount x M = some (bcI x) := rfl
def nbit (s j : Nat) : Bool := decide (((iI (s : Int) >>> (iI (j : Int) &&& 31)) &&& 1) = 0)
def ntgt (s j : Nat) : Nat := (iI (s : Int) ||| (1 <<< (iI (j : Int) &&& 31))).toNatClampNeg
def nsgn (s j : Nat) : Int := if irm (bcI (iI (s : Int) >>> (iI (j : Int) &&& 31))) 2 = 0 then 1 else -1
def nrow (s : Nat) : Nat := (bcI (iI (s : Int))).toNatClampNeg
theorem ntab1 : ∀ s, s < 16 → ∀ j, j < 4 → nbit s j = true → inb (iI (s : Int) ||| (1 <<< (iI (j : Int) &&& 31))) 16 ∧ inb ((4 * bcI (iI (s : Int))) + iI (j : Int)) 16 ∧ ((4 * bcI (iI (s : Int))) + iI (j : Int)).toNatClampNeg = 4 * nrow s + j := by decide +kernel
theorem ntab2 : ∀ n, n < 5 → ∀ s, s < 2 ^ n → ∀ j, j < n → nbit s j = true → nrow s < n ∧ ntgt s j < 2 ^ n := by decide +kernel
theorem ntab3 : ∀ n : Nat, n < 5 → (1 : Int32) <<< (iI (n : Int) &&& 31) = iI ((2 ^ n : Nat) : Int) ∧ 1 ≤ 2 ^ n ∧ 2 ^ n ≤ 16 := by decide +kernel
theorem ntab4 : ∀ s, s < 16 → ∀ j, j < 4 → nbit s j = (s / 2 ^ j % 2 == 0) ∧ (nbit s j = true → ntgt s j = s + 2 ^ j) ∧ nsgn s j = (if (s / 2 ^ j % 2 + s / 2 ^ (j + 1) % 2 + s / 2 ^ (j + 2) % 2 + s / 2 ^ (j + 3) % 2) % 2 = 0 then 1 else -1) := by decide +kernel
theorem ntab5 : ∀ s, s < 16 → nrow s = s % 2 + s / 2 % 2 + s / 4 % 2 + s / 8 % 2 := by decide +kernel
/-- one step of the reference's determinant, on whole numbers -/
def mstep (Q : Nat → Int) (s j : Nat) (m : Nat → Int) : Nat → Int := if nbit s j = true then (fun t => if t = ntgt s j then m t + (nsgn s j * Q (4 * nrow s + j)) * m s else m t) else m
def mjs (Q : Nat → Int) (s : Nat) : Nat → (Nat → Int) → Nat → Int
  | 0, m => m
  | j + 1, m => mstep Q s j (mjs Q s j m)
def mss (Q : Nat → Int) (n : Nat) : Nat → Nat → Int
  | 0 => fun t => if t = 0 then 1 else 0
  | s + 1 => mjs Q s n (mss Q n s)
def detF (Q : Nat → Int) (n : Nat) : Int := mss Q n (2 ^ n) (2 ^ n - 1)
theorem N_number {n : Nat} {Q : Nat → Int} {M : Mem} (h1 : 1 ≤ n) (h4 : n ≤ 4) (hQ : ∀ i j, i < n → j < n → M.2 110 (4 * i + j) = lI (Q (4 * i + j))) : wpO (F_MO_number (iI (n : Int)) M) (fun r => r.1 = lI (detF Q n)) := by
  obtain ⟨t1, t2, t3⟩ := ntab3 n (by omega)
  generalize hN : 2 ^ n = N at *
  have l1 : (1 : Int64) = lI 1 := rfl
  have l0 : (0 : Int64) = lI 0 := rfl
  unfold F_MO_number F_MO_number_l2
  refine wp_bind (Ψ := fun M1 => (∀ t, t < N → M1.2 111 t = lI (mss Q n 0 t)) ∧ M1.2 110 = M.2 110) ?_ (fun M1 h => ?_)
  · refine wp_iterS (P := fun k z => z.1 = iI (k : Int) ∧ (∀ t, t < k → z.2.2 111 t = lI (mss Q n 0 t)) ∧ z.2.2 110 = M.2 110) N ?_ _ _ ⟨rfl, fun t ht => absurd ht (Nat.not_lt_zero _), rfl⟩ (FUEL_big (by omega))
    rintro k ⟨z1, M1⟩ hk ⟨e1, m1, m2⟩
    dsimp only at e1 m1 m2
    subst e1
    unfold F_MO_number_b2
    dsimp only
    rw [t1]
    refine wp_if (fun c => wp_some ⟨fun t ht => m1 t ?_, m2⟩) (fun c => ?_)
    · rw [iI_le (by omega) (by omega) (by omega) (by omega)] at c
      omega
    rw [iI_le (by omega) (by omega) (by omega) (by omega)] at c
    have ib : inb (iI (k : Int)) 16 := inb_iI (by omega) (by omega) (by omega)
    have z0 : (0 : Int32) = iI 0 := rfl
    have put : ∀ v : Int, (if k = 0 then (1 : Int) else 0) = v → wpO (some (Sum.inl (iI (k : Int) + 1, mSL M1 111 (iI (k : Int)).toNatClampNeg (lI v))) : Option ((Int32 × Mem) ⊕ Mem)) (sumP (fun s' => k < N ∧ s'.1 = iI ((k + 1 : Nat) : Int) ∧ (∀ t, t < k + 1 → s'.2.2 111 t = lI (mss Q n 0 t)) ∧ s'.2.2 110 = M.2 110) (fun M1 => (∀ t, t < N → M1.2 111 t = lI (mss Q n 0 t)) ∧ M1.2 110 = M.2 110)) := by
      intro v hv
      refine wp_some ⟨by omega, iI_succ k, fun t ht => ?_, ?_⟩
      · show (mSL M1 111 _ _).2 111 t = _
        rw [clN (by omega)]
        by_cases q : t = k
        · subst q
          rw [mL_hit, ← hv]
          rfl
        · rw [mL_ix q]
          exact m1 t (by omega)
      · funext i
        exact (mL_cell (by decide)).trans (congrFun m2 i)
    refine wp_if (fun c2 => wp_t ib (put 1 ?_)) (fun c2 => wp_t ib (put 0 ?_))
    · rw [z0, iI_eq (by omega) (by omega) (by omega) (by omega)] at c2
      rw [if_pos (by omega)]
    · rw [z0, iI_eq (by omega) (by omega) (by omega) (by omega)] at c2
      rw [if_neg (by omega)]
  obtain ⟨m1, m2⟩ := h
  unfold F_MO_number_l32
  refine wp_bind (Ψ := fun M1 => ∀ t, t < N → M1.2 111 t = lI (mss Q n N t)) ?_ (fun M2 h => ?_)
  · refine wp_iterS (P := fun k z => z.1 = iI (k : Int) ∧ (∀ t, t < N → z.2.2 111 t = lI (mss Q n k t)) ∧ z.2.2 110 = M.2 110) N ?_ _ _ ⟨rfl, m1, m2⟩ (FUEL_big (by omega))
    rintro k ⟨z1, M2⟩ hk ⟨e1, o1, o2⟩
    dsimp only at e1 o1 o2
    subst e1
    unfold F_MO_number_b32
    dsimp only
    rw [t1]
    refine wp_if (fun c => wp_some ?_) (fun c => ?_)
    · rw [iI_le (by omega) (by omega) (by omega) (by omega)] at c
      have : k = N := by omega
      rw [← this]
      rw [← this] at o1
      exact o1
    rw [iI_le (by omega) (by omega) (by omega) (by omega)] at c
    rw [bc_eq, bs]
    unfold F_MO_number_l47
    refine wp_bind (Ψ := fun M1 => (∀ t, t < N → M1.2 111 t = lI (mss Q n (k + 1) t)) ∧ M1.2 110 = M.2 110) ?_ (fun r hr => wp_some ⟨by omega, iI_succ k, hr⟩)
    refine wp_iterS (P := fun j z => z.1 = iI (j : Int) ∧ (∀ t, t < N → z.2.2 111 t = lI (mjs Q k j (mss Q n k) t)) ∧ z.2.2 110 = M.2 110) n ?_ _ _ ⟨rfl, o1, o2⟩ (FUEL_big (by omega))
    rintro j ⟨y1, M3⟩ hj ⟨e1, q1, q2⟩
    dsimp only at e1 q1 q2
    subst e1
    unfold F_MO_number_b47
    dsimp only
    refine wp_if (fun c2 => wp_some ⟨fun t ht => ?_, q2⟩) (fun c2 => ?_)
    · rw [iI_le (by omega) (by omega) (by omega) (by omega)] at c2
      have : j = n := by omega
      rw [this] at q1
      exact q1 t ht
    rw [iI_le (by omega) (by omega) (by omega) (by omega)] at c2
    refine wp_if (fun c3 => ?_) (fun c3 => wp_some ⟨by omega, iI_succ j, fun t ht => ?_, q2⟩)
    · have hb : nbit k j = true := decide_eq_true c3
      obtain ⟨a1, a2, a3⟩ := ntab1 k (by omega) j (by omega) hb
      obtain ⟨b1, b2⟩ := ntab2 n (by omega) k (by omega) j (by omega) hb
      have ibk : inb (iI (k : Int)) 16 := inb_iI (by omega) (by omega) (by omega)
      rw [hN] at b2
      refine wp_t a1 ?_
      rw [bc_eq, bs]
      have fin : ∀ s : Int, nsgn k j = s → wpO (F_MO_number_j93 (iI (n : Int)) (iI (k : Int)) (bcI (iI (k : Int))) (iI (j : Int)) (iI (k : Int) ||| (1 <<< (iI (j : Int) &&& 31))) (M3.2 111 (iI (k : Int) ||| (1 <<< (iI (j : Int) &&& 31))).toNatClampNeg) (lI s) M3) (sumP (fun s' => j < n ∧ s'.1 = iI ((j + 1 : Nat) : Int) ∧ (∀ t, t < N → s'.2.2 111 t = lI (mjs Q k (j + 1) (mss Q n k) t)) ∧ s'.2.2 110 = M.2 110) (fun M1 => (∀ t, t < N → M1.2 111 t = lI (mss Q n (k + 1) t)) ∧ M1.2 110 = M.2 110)) := by
        intro s hs
        unfold F_MO_number_j93
        refine wp_t a2 (wp_t ibk (wp_t a1 (wp_some ⟨by omega, iI_succ j, fun t ht => ?_, ?_⟩)))
        · show (mSL M3 111 (ntgt k j) _).2 111 t = _
          rw [a3, clN (by omega)]
          have hq : M3.2 110 (4 * nrow k + j) = lI (Q (4 * nrow k + j)) := by rw [q2]; exact hQ _ _ b1 (by omega)
          rw [hq, q1 k (by omega), lI_mul, lI_mul]
          show (mSL M3 111 (ntgt k j) (M3.2 111 (ntgt k j) + _)).2 111 t = lI (mstep Q k j (mjs Q k j (mss Q n k)) t)
          unfold mstep
          rw [if_pos hb]
          by_cases q : t = ntgt k j
          · rw [if_pos q, q, mL_hit, q1 _ b2, lI_add, hs]
          · rw [if_neg q, mL_ix q]
            exact q1 t ht
        · funext i
          exact (mL_cell (by decide)).trans (congrFun q2 i)
      have lm1 : (-1 : Int64) = lI (-1) := by decide
      refine wp_if (fun c4 => ?_) (fun c4 => ?_)
      · rw [l1]
        refine fin 1 ?_
        unfold nsgn
        rw [if_pos c4]
      · rw [lm1]
        refine fin (-1) ?_
        unfold nsgn
        rw [if_neg c4]
    · have hb : nbit k j = false := decide_eq_false c3
      rw [q1 t ht]
      show _ = lI (mstep Q k j (mjs Q k j (mss Q n k)) t)
      unfold mstep
      rw [hb, if_neg (by decide)]
  unfold F_MO_number_j126
  have e : ((1 : Int32) <<< (iI (n : Int) &&& 31)) - 1 = iI ((N - 1 : Nat) : Int) := by
    rw [t1, l32_1, iI_sub]
    congr 1
    omega
  rw [e]
  refine wp_t (inb_iI (by omega) (by omega) (by omega)) (wp_some ?_)
  show M2.2 111 (iI ((N - 1 : Nat) : Int)).toNatClampNeg = _
  rw [clN (by omega), h _ (by omega)]
  unfold detF
  rw [hN]
theorem det1 (Q : Nat → Int) : detF Q 1 = Q 0 := by
  simp +decide [detF, mss, mjs, mstep, ntab4, ntab5]
theorem det2 (Q : Nat → Int) : detF Q 2 = Q 0 * Q 5 - Q 1 * Q 4 := by
  simp +decide [detF, mss, mjs, mstep, ntab4, ntab5]
  grind
theorem det3 (Q : Nat → Int) : detF Q 3 = Q 0 * (Q 5 * Q 10 - Q 6 * Q 9) - Q 1 * (Q 4 * Q 10 - Q 6 * Q 8) + Q 2 * (Q 4 * Q 9 - Q 5 * Q 8) := by
  simp +decide [detF, mss, mjs, mstep, ntab4, ntab5]
  grind
