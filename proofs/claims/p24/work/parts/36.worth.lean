/-! ===== the reference's worths ===== -/
/-- a ring of n days from place c on: the upper number -/
def ringA (g : Nat → Int) (p q : Int) (c : Nat) : Nat → Int
  | 0 => 0
  | n + 1 => ringA g p q c n * q + g (c + n) * p ^ n
/-- back over the days ahead of the ring -/
def backW (g : Nat → Int) (p q : Int) : Nat → Int × Int → Int × Int
  | 0, w => w
  | k + 1, w => backW g p q k (rU (g k * q * w.2 + p * w.1) (q * w.2), rD (g k * q * w.2 + p * w.1) (q * w.2))
def ringW (g : Nat → Int) (p q : Int) (c n : Nat) : Int × Int := (rU (ringA g p q c n * q) (q ^ n - p ^ n), rD (ringA g p q c n * q) (q ^ n - p ^ n))
/-- what days of them that come back to place c are worth -/
def worthW (g : Nat → Int) (p q : Int) (days c : Nat) : Int × Int := backW g p q c (ringW g p q c (days - c))
theorem pow_le_pow12 {q : Int} (h1 : 0 ≤ q) (h2 : q ≤ 12) : ∀ n : Nat, 0 ≤ q ^ n ∧ q ^ n ≤ 12 ^ n := by
  intro n
  induction n with
  | zero => exact ⟨by simp, by simp⟩
  | succ n ih =>
    rw [Int.pow_succ, Int.pow_succ]
    refine ⟨Int.mul_nonneg ih.1 h1, ?_⟩
    exact Int.mul_le_mul ih.2 h2 h1 (by omega)
theorem pow12_le : ∀ n, n ≤ 9 → (12 : Int) ^ n ≤ 5159780352 := by decide
theorem pow_lt_q {p q : Int} (h0 : 1 ≤ p) (h1 : p < q) : ∀ n : Nat, 0 < n → p ^ n < q ^ n ∧ 0 < p ^ n := by
  intro n hn
  induction n with
  | zero => omega
  | succ n ih =>
    rw [Int.pow_succ, Int.pow_succ]
    by_cases h : n = 0
    · subst h
      rw [Int.pow_zero, Int.pow_zero, Int.one_mul, Int.one_mul]
      exact ⟨h1, by omega⟩
    · obtain ⟨i1, i2⟩ := ih (by omega)
      have a1 : p ^ n * p < q ^ n * p := Int.mul_lt_mul_of_pos_right i1 (by omega)
      have a2 : q ^ n * p ≤ q ^ n * q := Int.mul_le_mul_of_nonneg_left (by omega) (by omega)
      exact ⟨by omega, Int.mul_pos i2 (by omega)⟩
theorem pow_pos_i {p : Int} (h0 : 1 ≤ p) (n : Nat) : 1 ≤ p ^ n := by
  induction n with
  | zero => rw [Int.pow_zero]; omega
  | succ n ih =>
    rw [Int.pow_succ]
    have : 1 * 1 ≤ p ^ n * p := Int.mul_le_mul ih h0 (by omega) (by omega)
    omega
/-- the upper number stays below G times the lower one -/
theorem ringA_le {g : Nat → Int} {p q G : Int} {c : Nat} (h0 : 1 ≤ p) (h1 : p < q) (hG : 0 ≤ G) (hg : ∀ k, -G ≤ g k ∧ g k ≤ G) : ∀ n : Nat, -(G * (q ^ n - p ^ n)) ≤ ringA g p q c n * (q - p) ∧ ringA g p q c n * (q - p) ≤ G * (q ^ n - p ^ n) := by
  intro n
  induction n with
  | zero =>
    show -(G * (q ^ 0 - p ^ 0)) ≤ 0 * (q - p) ∧ 0 * (q - p) ≤ G * (q ^ 0 - p ^ 0)
    rw [Int.pow_zero, Int.pow_zero, Int.sub_self, Int.mul_zero, Int.zero_mul]
    exact ⟨by omega, by omega⟩
  | succ n ih =>
    have hp := pow_pos_i h0 n
    have e1 : ringA g p q c (n + 1) * (q - p) = ringA g p q c n * (q - p) * q + g (c + n) * (p ^ n * (q - p)) := by
      show (ringA g p q c n * q + g (c + n) * p ^ n) * (q - p) = _
      rw [Int.add_mul, Int.mul_right_comm, Int.mul_assoc (g (c + n))]
    have e2 : G * (q ^ (n + 1) - p ^ (n + 1)) = G * (q ^ n - p ^ n) * q + G * (p ^ n * (q - p)) := by
      rw [Int.pow_succ, Int.pow_succ, Int.mul_assoc, ← Int.mul_add]
      congr 1
      rw [Int.sub_mul, Int.mul_sub]
      omega
    have hw : 0 ≤ p ^ n * (q - p) := Int.mul_nonneg (by omega) (by omega)
    obtain ⟨g1, g2⟩ := hg (c + n)
    have m1 : g (c + n) * (p ^ n * (q - p)) ≤ G * (p ^ n * (q - p)) := Int.mul_le_mul_of_nonneg_right g2 hw
    have m2 : (-G) * (p ^ n * (q - p)) ≤ g (c + n) * (p ^ n * (q - p)) := Int.mul_le_mul_of_nonneg_right g1 hw
    have m3 : ringA g p q c n * (q - p) * q ≤ G * (q ^ n - p ^ n) * q := Int.mul_le_mul_of_nonneg_right ih.2 (by omega)
    have m4 : -(G * (q ^ n - p ^ n)) * q ≤ ringA g p q c n * (q - p) * q := Int.mul_le_mul_of_nonneg_right ih.1 (by omega)
    rw [Int.neg_mul] at m2 m4
    rw [e1, e2]
    exact ⟨by omega, by omega⟩
theorem ringA_abs {g : Nat → Int} {p q G : Int} {c n : Nat} (h0 : 1 ≤ p) (h1 : p < q) (hG : 0 ≤ G) (hg : ∀ k, -G ≤ g k ∧ g k ≤ G) (hn : 0 < n) : -(G * (q ^ n - p ^ n)) ≤ ringA g p q c n ∧ ringA g p q c n ≤ G * (q ^ n - p ^ n) := by
  obtain ⟨a1, a2⟩ := ringA_le (c := c) h0 h1 hG hg n
  obtain ⟨b1, -⟩ := pow_lt_q h0 h1 n hn
  have hB : 0 ≤ G * (q ^ n - p ^ n) := Int.mul_nonneg hG (by omega)
  generalize hX : ringA g p q c n = X at *
  generalize hY : G * (q ^ n - p ^ n) = Y at *
  rcases Int.lt_trichotomy X 0 with h | h | h
  · have : X * (q - p) ≤ X * 1 := Int.mul_le_mul_of_nonpos_left (by omega) (by omega)
    omega
  · omega
  · have : X * 1 ≤ X * (q - p) := Int.mul_le_mul_of_nonneg_left (by omega) (by omega)
    omega
/-- a fraction's bound: G q times its lower number -/
def fb (G q : Int) (w : Int × Int) : Prop := 0 < w.2 ∧ -(G * q * w.2) ≤ w.1 ∧ w.1 ≤ G * q * w.2
theorem fb_red {G q a b : Int} (hG : 0 ≤ G * q) (hb : 0 < b) (h1 : -(G * q * b) ≤ a) (h2 : a ≤ G * q * b) : fb G q (rU a b, rD a b) ∧ rD a b ≤ b := by
  obtain ⟨g1, g2, g3, g4, g5, -⟩ := rUD (a := a) hb
  refine ⟨⟨g4, ?_, ?_⟩, g5⟩
  · show -(G * q * rD a b) ≤ rU a b
    rcases Int.lt_or_le (rU a b) (-(G * q * rD a b)) with h | h
    · have h3 : rU a b * (Int.gcd a b : Int) < -(G * q * rD a b) * (Int.gcd a b : Int) := Int.mul_lt_mul_of_pos_right h g1
      rw [g2, Int.neg_mul, Int.mul_assoc, g3] at h3
      omega
    · exact h
  · show rU a b ≤ G * q * rD a b
    rcases Int.lt_or_le (G * q * rD a b) (rU a b) with h | h
    · have h3 : G * q * rD a b * (Int.gcd a b : Int) < rU a b * (Int.gcd a b : Int) := Int.mul_lt_mul_of_pos_right h g1
      rw [g2, Int.mul_assoc, g3] at h3
      omega
    · exact h
theorem fb_back {G p q gk : Int} {w : Int × Int} (h0 : 1 ≤ p) (h1 : p < q) (hG : 0 ≤ G) (hg : -G ≤ gk ∧ gk ≤ G) (h : fb G q w) : 0 < q * w.2 ∧ -(G * q * (q * w.2)) ≤ gk * q * w.2 + p * w.1 ∧ gk * q * w.2 + p * w.1 ≤ G * q * (q * w.2) := by
  obtain ⟨a1, a2, a3⟩ := h
  have b1 : 0 < q * w.2 := Int.mul_pos (by omega) a1
  have e1 : gk * q * w.2 = gk * (q * w.2) := Int.mul_assoc _ _ _
  have c1 : gk * (q * w.2) ≤ G * (q * w.2) := Int.mul_le_mul_of_nonneg_right hg.2 (by omega)
  have c2 : (-G) * (q * w.2) ≤ gk * (q * w.2) := Int.mul_le_mul_of_nonneg_right hg.1 (by omega)
  have c3 : p * w.1 ≤ p * (G * q * w.2) := Int.mul_le_mul_of_nonneg_left a3 (by omega)
  have c4 : p * -(G * q * w.2) ≤ p * w.1 := Int.mul_le_mul_of_nonneg_left a2 (by omega)
  have e2 : p * (G * q * w.2) = p * (G * (q * w.2)) := by rw [Int.mul_assoc G]
  have e3 : G * q * (q * w.2) = q * (G * (q * w.2)) := by rw [Int.mul_comm G q, Int.mul_assoc]
  have nn : 0 ≤ G * (q * w.2) := Int.mul_nonneg hG (by omega)
  have c5 : (p + 1) * (G * (q * w.2)) ≤ q * (G * (q * w.2)) := Int.mul_le_mul_of_nonneg_right (by omega) nn
  rw [Int.add_mul, Int.one_mul] at c5
  rw [Int.neg_mul] at c2
  rw [Int.mul_neg, e2] at c4
  rw [e2] at c3
  rw [e1, e3]
  exact ⟨b1, by omega, by omega⟩
theorem ringW_fb {g : Nat → Int} {p q G : Int} {c n : Nat} (h0 : 1 ≤ p) (h1 : p < q) (hG : 0 ≤ G) (hg : ∀ k, -G ≤ g k ∧ g k ≤ G) (hn : 0 < n) : fb G q (ringW g p q c n) ∧ (ringW g p q c n).2 ≤ q ^ n ∧ 0 < q ^ n - p ^ n ∧ -(G * q * (q ^ n - p ^ n)) ≤ ringA g p q c n * q ∧ ringA g p q c n * q ≤ G * q * (q ^ n - p ^ n) := by
  obtain ⟨a1, a2⟩ := ringA_abs (c := c) h0 h1 hG hg hn
  obtain ⟨b1, b2⟩ := pow_lt_q h0 h1 n hn
  have c1 : ringA g p q c n * q ≤ G * (q ^ n - p ^ n) * q := Int.mul_le_mul_of_nonneg_right a2 (by omega)
  have c2 : -(G * (q ^ n - p ^ n)) * q ≤ ringA g p q c n * q := Int.mul_le_mul_of_nonneg_right a1 (by omega)
  have e : G * (q ^ n - p ^ n) * q = G * q * (q ^ n - p ^ n) := Int.mul_right_comm _ _ _
  rw [Int.neg_mul] at c2
  rw [e] at c1 c2
  have hgq : 0 ≤ G * q := Int.mul_nonneg hG (by omega)
  obtain ⟨f1, f2⟩ := fb_red hgq (show 0 < q ^ n - p ^ n by omega) c2 c1
  exact ⟨f1, Int.le_trans f2 (by omega), by omega, c2, c1⟩
theorem gq_bound {G q X : Int} (hG : 0 ≤ G) (hG2 : G ≤ 198) (hq : 0 ≤ q) (hq2 : q ≤ 12) (hX : 0 ≤ X) (hX2 : X ≤ 61917364224) : 0 ≤ G * q * X ∧ G * q * X ≤ 147115657396224 := by
  have h1 : G * q ≤ 198 * 12 := Int.mul_le_mul hG2 hq2 hq (by omega)
  have h0 : 0 ≤ G * q := Int.mul_nonneg hG hq
  have h2 : G * q * X ≤ 2376 * 61917364224 := Int.mul_le_mul (by omega) hX2 hX (by omega)
  exact ⟨Int.mul_nonneg h0 hX, by omega⟩
theorem N_worthOf {g : Nat → Int} {p q G : Int} {days c : Nat} {M : Mem} (hp : 1 ≤ p) (hq : p < q) (hq2 : q ≤ 12) (hG : 0 ≤ G) (hG2 : G ≤ 198) (hg : ∀ k, -G ≤ g k ∧ g k ≤ G) (hd : days ≤ 9) (hc : c < days) (hP : M.1 94 19 = iI p) (hQ : M.1 94 20 = iI q) (hgets : ∀ k, k < days → M.1 102 k = iI (g k)) :
    wpO (F_MO_worthOf (iI (days : Int)) (iI (c : Int)) M) (fun M' => M'.1 = M.1 ∧ (∀ a b, ¬ (a = 94 ∧ (b = 15 ∨ b = 16)) → M'.2 a b = M.2 a b) ∧ M'.2 94 15 = lI (worthW g p q days c).1 ∧ M'.2 94 16 = lI (worthW g p q days c).2 ∧ fb G q (worthW g p q days c) ∧ (worthW g p q days c).2 ≤ q ^ days) := by
  have p64 : (M.1 94 19).toInt64 = lI p := by rw [hP, iI_l (by omega) (by omega)]
  have q64 : (M.1 94 20).toInt64 = lI q := by rw [hQ, iI_l (by omega) (by omega)]
  have g64 : ∀ k, k < days → (M.1 102 k).toInt64 = lI (g k) := fun k hk => by
    have := hg k
    rw [hgets k hk, iI_l (by omega) (by omega)]
  have hn : 0 < days - c := by omega
  obtain ⟨f1, f2, f3, f4, f5⟩ := ringW_fb (c := c) hp hq hG hg hn
  have qn : ∀ n, n ≤ 9 → 0 < q ^ n ∧ q ^ n ≤ 5159780352 := fun n h => by
    have h1 := pow12_le n h
    have h2 := (pow_le_pow12 (show 0 ≤ q by omega) hq2 n).2
    have h3 := pow_pos_i (show 1 ≤ q by omega) n
    exact ⟨by omega, by omega⟩
  have pn := pow_pos_i hp (days - c)
  have qb := qn (days - c) (by omega)
  have gb := gq_bound hG hG2 (show 0 ≤ q by omega) hq2 (show 0 ≤ q ^ (days - c) - p ^ (days - c) by omega) (by omega)
  unfold F_MO_worthOf F_MO_worthOf_l14
  refine wp_bind (Ψ := fun r => r = (lI (ringA g p q c (days - c)), lI (q ^ (days - c)), lI (p ^ (days - c)))) ?_ ?_
  · refine wp_iter (P := fun k z => z = (lI (ringA g p q c k), lI (p ^ k), lI (q ^ k), lI (p ^ k), iI ((c + k : Nat) : Int))) (days - c) ?_ _ _ (by
      show _ = (lI 0, lI (p ^ 0), lI (q ^ 0), lI (p ^ 0), iI ((c + 0 : Nat) : Int))
      rw [Int.pow_zero, Int.pow_zero]
      rfl) (FUEL_big (by omega))
    intro k z hk hz
    subst hz
    unfold F_MO_worthOf_b14
    dsimp only
    rcases Nat.lt_or_ge k (days - c) with hlt | hge
    · refine wp_f (by rw [iI_le] <;> omega) (wp_t (inb_iI (by omega) (by omega) (by omega)) (wp_some ⟨hlt, ?_⟩))
      rw [clamp_iI (by omega) (by omega), show ((c + k : Nat) : Int).toNat = c + k from rfl, q64, p64, g64 _ (by omega), lI_mul, lI_mul, lI_add, lI_mul, lI_mul, iI_succ, Int.pow_succ, Int.pow_succ]
      rfl
    · have hk2 : k = days - c := by omega
      subst hk2
      exact wp_t (by rw [iI_le] <;> omega) (wp_some rfl)
  · intro r hr
    subst hr
    unfold F_MO_worthOf_j76
    dsimp only
    rw [q64, lI_mul, lI_sub, N_tells (by omega) (by omega) f3 (by omega), bs]
    unfold F_MO_worthOf_l97
    refine wp_bind (Ψ := fun M' => M'.1 = M.1 ∧ (∀ a b, ¬ (a = 94 ∧ (b = 15 ∨ b = 16)) → M'.2 a b = M.2 a b) ∧ M'.2 94 15 = lI (worthW g p q days c).1 ∧ M'.2 94 16 = lI (worthW g p q days c).2 ∧ fb G q (worthW g p q days c) ∧ (worthW g p q days c).2 ≤ q ^ days) ?_ (fun r hr => wp_some hr)
    refine wp_iter (P := fun j z => z.1 = iI ((c : Int) - 1 - j) ∧ z.2.1 = M.1 ∧ (∀ a b, ¬ (a = 94 ∧ (b = 15 ∨ b = 16)) → z.2.2 a b = M.2 a b) ∧ ∃ w : Int × Int, z.2.2 94 15 = lI w.1 ∧ z.2.2 94 16 = lI w.2 ∧ fb G q w ∧ w.2 ≤ q ^ (days - c + j) ∧ j ≤ c ∧ backW g p q (c - j) w = worthW g p q days c) c ?_ _ _ ⟨?_, rfl, ?_, ringW g p q c (days - c), ?_, ?_, f1, f2, Nat.zero_le _, rfl⟩ (FUEL_big (by omega))
    · intro j z hj ⟨z1, z2, z3, w, w1, w2, w3, w4, w5, w6⟩
      unfold F_MO_worthOf_b97
      have l0 : (0 : Int32) = iI 0 := rfl
      rw [z1]
      rcases Nat.lt_or_ge j c with hlt | hge
      · refine wp_f (by rw [l0, iI_lt] <;> omega) (wp_t (inb_iI (by omega) (by omega) (by omega)) ?_)
        have ek : ((c : Int) - 1 - j).toNat = c - 1 - j := by omega
        rw [clamp_iI (by omega) (by omega), ek, z2, g64 _ (by omega), q64, p64, w1, w2, lI_mul, lI_mul, lI_mul, lI_add, lI_mul]
        obtain ⟨b1, b2, b3⟩ := fb_back hp hq hG (hg (c - 1 - j)) w3
        have qd := qn (days - c + j) (by omega)
        have b4 : q * w.2 ≤ 12 * 5159780352 := Int.mul_le_mul hq2 (by omega) (by have := w3.1; omega) (by omega)
        have gb2 := gq_bound hG hG2 (show 0 ≤ q by omega) hq2 (show 0 ≤ q * w.2 by omega) (by omega)
        rw [N_tells (by omega) (by omega) b1 (by omega), bs]
        obtain ⟨c1, c2⟩ := fb_red (Int.mul_nonneg hG (show 0 ≤ q by omega)) b1 b2 b3
        refine wp_some ⟨hlt, ?_, z2, ?_, (rU (g (c - 1 - j) * q * w.2 + p * w.1) (q * w.2), rD (g (c - 1 - j) * q * w.2 + p * w.1) (q * w.2)), ?_, ?_, c1, ?_, hlt, ?_⟩
        · have l1 : (-1 : Int32) = iI (-1) := rfl
          show iI ((c : Int) - 1 - j) + (-1) = _
          rw [l1, iI_add]
          congr 1
          omega
        · intro a b hab
          show (mSL (mSL z.2 94 15 _) 94 16 _).2 a b = _
          rw [mSL_2, if_neg (fun q => hab ⟨q.1, Or.inr q.2⟩), mSL_2, if_neg (fun q => hab ⟨q.1, Or.inl q.2⟩)]
          exact z3 a b hab
        · show (mSL (mSL z.2 94 15 _) 94 16 _).2 94 15 = _
          rw [mL_ix (by decide), mL_hit]
        · show (mSL (mSL z.2 94 15 _) 94 16 _).2 94 16 = _
          rw [mL_hit]
        · have : q * w.2 ≤ q * q ^ (days - c + j) := Int.mul_le_mul_of_nonneg_left w4 (by omega)
          rw [← Nat.add_assoc, Int.pow_succ, Int.mul_comm (q ^ (days - c + j))]
          exact Int.le_trans c2 this
        · rw [← w6, show c - j = (c - (j + 1)) + 1 by omega]
          show backW g p q (c - (j + 1)) _ = backW g p q (c - (j + 1)) (rU (g (c - (j + 1)) * q * w.2 + p * w.1) (q * w.2), rD (g (c - (j + 1)) * q * w.2 + p * w.1) (q * w.2))
          rw [show c - 1 - j = c - (j + 1) by omega]
      · have hj2 : j = c := by omega
        subst hj2
        refine wp_t (by rw [l0, iI_lt] <;> omega) (wp_some ⟨z2, z3, ?_, ?_, ?_, ?_⟩)
        · rw [w1, ← w6, Nat.sub_self]; rfl
        · rw [w2, ← w6, Nat.sub_self]; rfl
        · rw [← w6, Nat.sub_self]; exact w3
        · rw [← w6, Nat.sub_self]
          have : days - j + j = days := by omega
          rw [this] at w4
          exact w4
    · have l1 : (1 : Int32) = iI 1 := rfl
      show iI (c : Int) - 1 = _
      rw [l1, iI_sub]
      congr 1
      omega
    · intro a b hab
      show (mSL (mSL M 94 15 _) 94 16 _).2 a b = _
      rw [mSL_2, if_neg (fun q => hab ⟨q.1, Or.inr q.2⟩), mSL_2, if_neg (fun q => hab ⟨q.1, Or.inl q.2⟩)]
    · show (mSL (mSL M 94 15 _) 94 16 _).2 94 15 = _
      rw [mL_ix (by decide), mL_hit]
      rfl
    · show (mSL (mSL M 94 15 _) 94 16 _).2 94 16 = _
      rw [mL_hit]
      rfl
