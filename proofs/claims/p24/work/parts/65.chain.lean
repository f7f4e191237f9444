/-! ===== the class's chain of places: what reckon leaves ===== -/
def itN (nx : Nat → Nat) (s : Nat) : Nat → Nat
  | 0 => s
  | k + 1 => nx (itN nx s k)
theorem itN_s {nx : Nat → Nat} {s k : Nat} : itN nx s (k + 1) = nx (itN nx s k) := rfl
theorem itN_add {nx : Nat → Nat} {s a : Nat} : ∀ k, itN nx (itN nx s a) k = itN nx s (a + k) := by
  intro k
  induction k with
  | zero => rfl
  | succ k ih =>
    show nx (itN nx (itN nx s a) k) = nx (itN nx s (a + k))
    rw [ih]
theorem itN_nx {nx : Nat → Nat} {s : Nat} (k : Nat) : itN nx (nx s) k = itN nx s (k + 1) := by
  have := itN_add (nx := nx) (s := s) (a := 1) k
  rw [show 1 + k = k + 1 by omega] at this
  exact this
theorem ringA_front {g : Nat → Int} {p q : Int} {c : Nat} : ∀ n, ringA g p q c (n + 1) = g c * q ^ n + p * ringA g p q (c + 1) n := by
  intro n
  induction n with
  | zero =>
    show 0 * q + g (c + 0) * p ^ 0 = g c * q ^ 0 + p * 0
    rw [Int.pow_zero, Int.pow_zero, Nat.add_zero, Int.zero_mul, Int.mul_zero]
    omega
  | succ n ih =>
    show ringA g p q c (n + 1) * q + g (c + (n + 1)) * p ^ (n + 1) = g c * q ^ (n + 1) + p * (ringA g p q (c + 1) n * q + g (c + 1 + n) * p ^ n)
    rw [ih, show c + (n + 1) = c + 1 + n by omega, Int.pow_succ, Int.pow_succ]
    generalize ringA g p q (c + 1) n = X
    generalize g (c + 1 + n) = Y
    generalize q ^ n = Q
    generalize p ^ n = R
    grind
theorem ringA_cyc {g : Nat → Int} {p q : Int} {c n : Nat} (h : g (c + n) = g c) : g c * (q ^ n - p ^ n) + p * ringA g p q (c + 1) n = q * ringA g p q c n := by
  have h1 := ringA_front (g := g) (p := p) (q := q) (c := c) n
  have h2 : ringA g p q c (n + 1) = ringA g p q c n * q + g (c + n) * p ^ n := rfl
  rw [h] at h2
  generalize ringA g p q (c + 1) n = X at *
  generalize ringA g p q c n = Y at *
  generalize ringA g p q c (n + 1) = Z at *
  generalize q ^ n = Q at *
  generalize p ^ n = R at *
  generalize g c = a at *
  grind
theorem ringA_ext {g g' : Nat → Int} {p q : Int} {c c' : Nat} : ∀ n, (∀ k, k < n → g (c + k) = g' (c' + k)) → ringA g p q c n = ringA g' p q c' n := by
  intro n
  induction n with
  | zero => exact fun _ => rfl
  | succ n ih =>
    intro h
    show ringA g p q c n * q + g (c + n) * p ^ n = ringA g' p q c' n * q + g' (c' + n) * p ^ n
    rw [ih (fun k hk => h k (by omega)), h n (by omega)]
/-- the chain's rows -/
def chI (b : Nat) (S : Nat → Prop) (nx : Nat → Nat) (g : Nat → Nat → Int) (p q : Int) (M : Mem) : Prop := (∀ s, s < 9 → S s → M.2 (b + 2) s = lI (nx s : Int)) ∧ (∀ s, s < 9 → ¬ S s → M.2 (b + 2) s = lI (-1)) ∧ (∀ s pe, S s → s < 9 → pe < 2 → M.2 (b + 4) (2 * s + pe) = lI (g s pe)) ∧ M.2 b 6 = lI p ∧ M.2 b 7 = lI q
def chS (S : Nat → Prop) (nx : Nat → Nat) (g : Nat → Nat → Int) (p q : Int) : Prop := (∀ s, S s → s < 9 ∧ S (nx s)) ∧ (∀ s pe, S s → pe < 2 → -99 ≤ g s pe ∧ g s pe ≤ 99) ∧ 1 ≤ p ∧ p < q ∧ q ≤ 12
theorem chI.of {b : Nat} {S : Nat → Prop} {nx : Nat → Nat} {g : Nat → Nat → Int} {p q : Int} {M N : Mem} (h : chI b S nx g p q M) (f : ∀ k j, (k = b ∨ k = b + 2 ∨ k = b + 4) → N.2 k j = M.2 k j) : chI b S nx g p q N := by
  obtain ⟨h1, h2, h3, h4, h5⟩ := h
  exact ⟨fun s a c => (f _ _ (by omega)).trans (h1 s a c), fun s a c => (f _ _ (by omega)).trans (h2 s a c), fun s pe a c d => (f _ _ (by omega)).trans (h3 s pe a c d), (f _ _ (by omega)).trans h4, (f _ _ (by omega)).trans h5⟩
theorem chS.it {S : Nat → Prop} {nx : Nat → Nat} {g : Nat → Nat → Int} {p q : Int} (h : chS S nx g p q) {s : Nat} (hs : S s) : ∀ k, S (itN nx s k) := by
  intro k
  induction k with
  | zero => exact hs
  | succ k ih => exact (h.1 _ ih).2
theorem l64n (n : Nat) (h : n < 1000) : (iI (n : Int)).toInt64 = lI (n : Int) := iI_l (by omega) (by omega)
theorem ix2 (s pe : Nat) : 2 * iI (s : Int) + iI (pe : Int) = iI ((2 * s + pe : Nat) : Int) := by rw [l32n_2, iI_pm, iI_pa]
theorem pw12 {q : Int} (q1 : 1 ≤ q) (q12 : q ≤ 12) {n : Nat} (h : n ≤ 9) : 1 ≤ q ^ n ∧ q ^ n ≤ 5159780352 := by
  have h1 := pow_pos_i q1 n
  have h2 := (pow_le_pow12 (by omega : 0 ≤ q) q12 n).2
  have h3 := pow12_le n h
  omega
theorem C_close {b r n fr en pe : Nat} {S : Nat → Prop} {nx : Nat → Nat} {g : Nat → Nat → Int} {p q : Int} {M : Mem} (hc : chS S nx g p q) (hM : chI b S nx g p q M) (hr : S r) (hn : 1 ≤ n) (hen : fr + n = en) (h9 : en ≤ 9) (hper : itN nx r n = r) (hpath : ∀ i, i < n → M.2 (b + 10) (fr + i) = lI (itN nx r i : Int)) (hdis : ∀ i j, i < n → j < n → itN nx r i = itN nx r j → i = j) (hpe : pe < 2) : wpO (F_Chain_closeRing b (iI (fr : Int)) (iI (en : Int)) (iI (pe : Int)) M) (fun N => (∀ i, i < n → N.2 (b + 6) (2 * itN nx r i + pe) = lI (q * ringA (fun k => g (itN nx r k) pe) p q i n) ∧ N.2 (b + 8) (itN nx r i) = lI (q ^ n - p ^ n)) ∧ ∀ k j, ¬ (k = b + 6 ∧ ∃ i, i < n ∧ j = 2 * itN nx r i + pe) → ¬ (k = b + 8 ∧ ∃ i, i < n ∧ j = itN nx r i) → N.2 k j = M.2 k j) := by
  obtain ⟨c1, c2, p1, pq, q12⟩ := hc
  have hit : ∀ k, S (itN nx r k) := chS.it ⟨c1, c2, p1, pq, q12⟩ hr
  have hlt : ∀ k, itN nx r k < 9 := fun k => (c1 _ (hit k)).1
  obtain ⟨m1, m2, m3, m4, m5⟩ := hM
  have hgb : ∀ k, -99 ≤ g (itN nx r k) pe ∧ g (itN nx r k) pe ≤ 99 := fun k => c2 _ pe (hit k) hpe
  have hG : ∀ k, (fun k => g (itN nx r k) pe) (k + n) = (fun k => g (itN nx r k) pe) k := fun k => by
    show g (itN nx r (k + n)) pe = g (itN nx r k) pe
    rw [show k + n = n + k by omega, ← itN_add, hper]
  have hgG : ∀ k, -99 ≤ (fun k => g (itN nx r k) pe) k ∧ (fun k => g (itN nx r k) pe) k ≤ 99 := hgb
  have hbr : ∀ k, M.2 (b + 4) (2 * itN nx r k + pe) = lI ((fun k => g (itN nx r k) pe) k) := fun k => m3 _ _ (hit k) (hlt k) hpe
  generalize (fun k => g (itN nx r k) pe) = G at *
  have hpw := pow_lt_q p1 pq n (by omega)
  have hq9 := pw12 (by omega : (1 : Int) ≤ q) q12 (show n ≤ 9 by omega)
  have hA : ∀ i, -(99 * (q ^ n - p ^ n)) ≤ ringA G p q i n ∧ ringA G p q i n ≤ 99 * (q ^ n - p ^ n) := fun i => ringA_abs p1 pq (by decide) hgG (by omega)
  have hsh : ringA G p q n n = ringA G p q 0 n := ringA_ext n (fun k _ => by
    have := hG k
    rw [show n + k = k + n by omega, this, Nat.zero_add])
  unfold F_Chain_closeRing F_Chain_closeRing_l12
  refine wp_bind (Ψ := fun z => z = (lI (ringA G p q 0 n), lI (p ^ n), lI (q ^ n))) ?_ (fun z hz => ?_)
  · refine wp_iterS (P := fun (k : Nat) (z : Int64 × Int64 × Int64 × Int32) => z = (lI (ringA G p q 0 k), lI (p ^ k), lI (q ^ k), iI ((fr + k : Nat) : Int)) ∧ k ≤ n) n ?_ FUEL (0, 1, 1, iI (fr : Int)) ⟨by rw [Int.pow_zero, Int.pow_zero]; rfl, by omega⟩ (FUEL_big (by omega))
    rintro k z hk ⟨rfl, -⟩
    unfold F_Chain_closeRing_b12
    dsimp only
    refine wp_if (fun c => wp_some ?_) (fun c => ?_)
    · rw [iI_le (by omega) (by omega) (by omega) (by omega)] at c
      rw [show n = k by omega]
    rw [iI_le (by omega) (by omega) (by omega) (by omega)] at c
    have hl := hlt k
    rw [V_Row_small (by omega) (by omega) (by decide), bs, show ((fr + k : Nat) : Int).toNat = fr + k from rfl, hpath k (by omega), lI_i, ix2, V_Row_at (by omega) (by omega) (by decide), bs, show ((2 * itN nx r k + pe : Nat) : Int).toNat = 2 * itN nx r k + pe from rfl, hbr k, m4, m5, lI_mul, lI_mul, lI_add, lI_mul, lI_mul, iI_succ]
    refine wp_some ⟨by omega, ?_, by omega⟩
    have e1 : ringA G p q 0 k * q + p ^ k * G k = ringA G p q 0 (k + 1) := by
      show _ = ringA G p q 0 k * q + G (0 + k) * p ^ k
      rw [Nat.zero_add, Int.mul_comm (p ^ k)]
    rw [e1, ← Int.pow_succ, ← Int.pow_succ]
    rfl
  · rw [hz]
    unfold F_Chain_closeRing_j75
    dsimp only
    rw [lI_sub]
    have ee : iI (en : Int) - 1 = iI ((fr : Int) + n - 1 - (0 : Nat)) := by
      rw [show (1 : Int32) = iI 1 from rfl, iI_sub]
      congr 1
      omega
    rw [ee]
    unfold F_Chain_closeRing_l91
    refine wp_bind (Ψ := fun N => (∀ i, i < n → N.2 (b + 6) (2 * itN nx r i + pe) = lI (q * ringA G p q i n) ∧ N.2 (b + 8) (itN nx r i) = lI (q ^ n - p ^ n)) ∧ ∀ k j, ¬ (k = b + 6 ∧ ∃ i, i < n ∧ j = 2 * itN nx r i + pe) → ¬ (k = b + 8 ∧ ∃ i, i < n ∧ j = itN nx r i) → N.2 k j = M.2 k j) ?_ (fun N hN => wp_some hN)
    refine wp_iterS (P := fun (k : Nat) (z : Int64 × Int32 × Mem) => k ≤ n ∧ z.1 = lI (ringA G p q (n - k) n) ∧ z.2.1 = iI ((fr : Int) + n - 1 - k) ∧ (∀ i, n - k ≤ i → i < n → z.2.2.2 (b + 6) (2 * itN nx r i + pe) = lI (q * ringA G p q i n) ∧ z.2.2.2 (b + 8) (itN nx r i) = lI (q ^ n - p ^ n)) ∧ ∀ k j, ¬ (k = b + 6 ∧ ∃ i, i < n ∧ j = 2 * itN nx r i + pe) → ¬ (k = b + 8 ∧ ∃ i, i < n ∧ j = itN nx r i) → z.2.2.2 k j = M.2 k j) n ?_ FUEL (lI (ringA G p q 0 n), iI ((fr : Int) + n - 1 - (0 : Nat)), M) ⟨by omega, by rw [Nat.sub_zero, hsh], rfl, fun i h1 h2 => absurd h2 (by omega), fun _ _ _ _ => rfl⟩ (FUEL_big (by omega))
    rintro k ⟨z1, z2, N⟩ hk ⟨-, e1, e2, nv, nf⟩
    dsimp only at e1 e2 nv nf
    subst e1
    subst e2
    unfold F_Chain_closeRing_b91
    dsimp only
    refine wp_if (fun c => wp_some ⟨fun i hi => nv i ?_ hi, nf⟩) (fun c => ?_)
    · rw [iI_lt (by omega) (by omega) (by omega) (by omega)] at c
      omega
    rw [iI_lt (by omega) (by omega) (by omega) (by omega)] at c
    obtain ⟨i, hi⟩ : ∃ i, n = k + i + 1 := ⟨n - k - 1, by omega⟩
    have ei : (fr : Int) + n - 1 - k = ((fr + i : Nat) : Int) := by omega
    have hl := hlt i
    have ep : N.2 (b + 10) (fr + i) = lI (itN nx r i : Int) := (nf _ _ (by omega) (by omega)).trans (hpath i (by omega))
    have e4 : N.2 (b + 4) (2 * itN nx r i + pe) = lI (G i) := (nf _ _ (by omega) (by omega)).trans (hbr i)
    have e6 : N.2 b 6 = lI p := (nf _ _ (by omega) (by omega)).trans m4
    have e7 : N.2 b 7 = lI q := (nf _ _ (by omega) (by omega)).trans m5
    have hup : G i * (q ^ n - p ^ n) + p * ringA G p q (n - k) n = q * ringA G p q i n := by
      rw [show n - k = i + 1 by omega]
      exact ringA_cyc (hG i)
    rw [ei, V_Row_small (by omega) (by omega) (by decide), bs, show ((fr + i : Nat) : Int).toNat = fr + i from rfl, ep, lI_i, ix2, V_Row_at (by omega) (by omega) (by decide), bs, show ((2 * itN nx r i + pe : Nat) : Int).toNat = 2 * itN nx r i + pe from rfl, e4, e6, lI_mul, lI_mul, lI_add, hup, V_Row_put (by omega) (by omega) (by decide), bs, show ((2 * itN nx r i + pe : Nat) : Int).toNat = 2 * itN nx r i + pe from rfl]
    have f1 : ∀ k j, ¬ (k = b + 6 ∧ j = 2 * itN nx r i + pe) → (mSL N (b + 6) (2 * itN nx r i + pe) (lI (q * ringA G p q i n))).2 k j = N.2 k j := fun k j h => by rw [mSL_2, if_neg h]
    have v1 : (mSL N (b + 6) (2 * itN nx r i + pe) (lI (q * ringA G p q i n))).2 (b + 6) (2 * itN nx r i + pe) = lI (q * ringA G p q i n) := mL_hit
    generalize mSL N (b + 6) (2 * itN nx r i + pe) (lI (q * ringA G p q i n)) = N1 at *
    rw [V_Row_small (by omega) (by omega) (by decide), bs, show ((fr + i : Nat) : Int).toNat = fr + i from rfl, f1 _ _ (by omega), ep, lI_i, V_Row_put (by omega) (by omega) (by decide), bs, show ((itN nx r i : Nat) : Int).toNat = itN nx r i from rfl]
    have f2 : ∀ k j, ¬ (k = b + 8 ∧ j = itN nx r i) → (mSL N1 (b + 8) (itN nx r i) (lI (q ^ n - p ^ n))).2 k j = N1.2 k j := fun k j h => by rw [mSL_2, if_neg h]
    have v2 : (mSL N1 (b + 8) (itN nx r i) (lI (q ^ n - p ^ n))).2 (b + 8) (itN nx r i) = lI (q ^ n - p ^ n) := mL_hit
    generalize mSL N1 (b + 8) (itN nx r i) (lI (q ^ n - p ^ n)) = N2 at *
    have e72 : N2.2 b 7 = lI q := (f2 _ _ (by omega)).trans ((f1 _ _ (by omega)).trans e7)
    rw [e72]
    have hqn : ¬ lI q = 0 := by
      rw [show (0 : Int64) = lI 0 from rfl, lI_eq (by omega) (by omega) (by omega) (by omega)]
      omega
    refine wp_f hqn (wp_t hqn ?_)
    have hAi := hA i
    have hb1 : q * ringA G p q i n ≤ 12 * 510818254848 := Int.le_trans (Int.mul_le_mul_of_nonneg_left (show ringA G p q i n ≤ 510818254848 by omega) (by omega)) (Int.mul_le_mul_of_nonneg_right q12 (by omega))
    have hb2 : -(12 * 510818254848) ≤ q * ringA G p q i n := by
      have h1 : q * -510818254848 ≤ q * ringA G p q i n := Int.mul_le_mul_of_nonneg_left (show -510818254848 ≤ ringA G p q i n by omega) (by omega)
      omega
    rw [ldiv_lI (by omega) (by omega) (by omega) (by omega), Int.mul_tdiv_cancel_left _ (by omega)]
    refine wp_some ⟨by omega, by omega, ?_, ?_, fun i' h1 h2 => ?_, fun k' j h1 h2 => ?_⟩
    · show lI (ringA G p q i n) = lI (ringA G p q (n - (k + 1)) n)
      rw [show n - (k + 1) = i by omega]
    · show iI ((fr + i : Nat) : Int) + (-1) = iI ((fr : Int) + n - 1 - ((k + 1 : Nat) : Int))
      rw [tm1, iI_add]
      congr 1
      omega
    · show N2.2 (b + 6) (2 * itN nx r i' + pe) = _ ∧ N2.2 (b + 8) (itN nx r i') = _
      refine ⟨?_, ?_⟩
      · rw [f2 _ _ (by omega)]
        by_cases q1 : i' = i
        · rw [q1, v1]
        · have ne : itN nx r i' ≠ itN nx r i := fun w => q1 (hdis i' i h2 (by omega) w)
          rw [f1 _ _ (by omega)]
          exact (nv i' (by omega) h2).1
      · by_cases q1 : i' = i
        · rw [q1, v2]
        · have ne : itN nx r i' ≠ itN nx r i := fun w => q1 (hdis i' i h2 (by omega) w)
          rw [f2 _ _ (by omega), f1 _ _ (by omega)]
          exact (nv i' (by omega) h2).2
    · show N2.2 k' j = M.2 k' j
      rw [f2 _ _ (fun w => h2 ⟨w.1, i, by omega, w.2⟩), f1 _ _ (fun w => h1 ⟨w.1, i, by omega, w.2⟩)]
      exact nf k' j h1 h2
