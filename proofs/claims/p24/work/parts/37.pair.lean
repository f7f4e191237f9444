/-! ===== the reference's pairs: where they go, what they get, worths, gains, first ===== -/
def stW (W : Nat → Int32) (a b s : Nat) : Prop := s / 3 < mo W a ∧ s % 3 < mo W b
def nxW (W : Nat → Int32) (a b s : Nat) : Nat := 3 * gz W a (s / 3) (dz W b (s % 3)) + gz W b (s % 3) (dz W a (s / 3))
def getW (W : Nat → Int32) (a b s p : Nat) : Int := br W (dz W a (s / 3)) (dz W b (s % 3)) p
def pth (W : Nat → Int32) (a b s : Nat) : Nat → Nat
  | 0 => s
  | k + 1 => nxW W a b (pth W a b s k)
theorem st_lt {W : Nat → Int32} {a b s : Nat} (hA : WOKW W a) (h : stW W a b s) : s < 9 := by
  have := hA.moK
  have := h.1
  omega
theorem nx_st {W : Nat → Int32} {a b s : Nat} (hA : WOKW W a) (hB : WOKW W b) (h : stW W a b s) : stW W a b (nxW W a b s) := by
  obtain ⟨h1, h2⟩ := h
  obtain ⟨a1, a2, -⟩ := hA.moK
  obtain ⟨b1, b2, -⟩ := hB.moK
  have da := (hA.dzK h1).1
  have db := (hB.dzK h2).1
  have ga := (hA.gzK (s := dz W b (s % 3)) h1 (by omega)).1
  have gb := (hB.gzK (s := dz W a (s / 3)) h2 (by omega)).1
  unfold stW nxW
  exact ⟨by omega, by omega⟩
theorem pth_st {W : Nat → Int32} {a b s : Nat} (hA : WOKW W a) (hB : WOKW W b) (h : stW W a b s) : ∀ k, stW W a b (pth W a b s k) := by
  intro k
  induction k with
  | zero => exact h
  | succ k ih => exact nx_st hA hB ih
/-- what is brought stays within 99 -/
def brOK (W : Nat → Int32) : Prop := ∀ x y p : Nat, x < 3 → y < 3 → p < 2 → -99 ≤ br W x y p ∧ br W x y p ≤ 99
theorem RIW.br {W : Nat → Int32} (h : RIW W) : brOK W := by
  intro x y p hx hy hp
  exact h.brj (2 * (3 * x + y) + p) (by omega)
theorem getW_le {W : Nat → Int32} {a b s p : Nat} (hb : brOK W) (hA : WOKW W a) (hB : WOKW W b) (h : stW W a b s) (hp : p < 2) : -99 ≤ getW W a b s p ∧ getW W a b s p ≤ 99 := by
  have da := (hA.dzK h.1).1
  have db := (hB.dzK h.2).1
  exact hb _ _ p (by omega) (by omega) hp
theorem idiv3 {s : Nat} (hs : s < 9) : iI (s : Int) / 3 = iI ((s / 3 : Nat) : Int) := by
  rw [l32_3, idiv_iI (by omega) (by omega) (by omega) (by omega)]
  show iI ((s : Int).tdiv ((3 : Nat) : Int)) = _
  rw [← Int.ofNat_tdiv]
theorem irm3 {s : Nat} (hs : s < 9) : irm (iI (s : Int)) 3 = iI ((s % 3 : Nat) : Int) := by
  rw [l32_3, irm_iI (by omega) (by omega) (by omega) (by omega)]
  show iI ((s : Int).tmod ((3 : Nat) : Int)) = _
  rw [← Int.ofNat_tmod]
theorem N_nextOf {a b s : Nat} {M : Mem} (ha : a ≤ 8) (hb : b ≤ 8) (hA : WOKW (M.1 95) a) (hB : WOKW (M.1 95) b) (h : stW (M.1 95) a b s) : F_MO_nextOf (iI (a : Int)) (iI (b : Int)) (iI (s : Int)) M = some (iI (nxW (M.1 95) a b s : Int)) := by
  have hs := st_lt hA h
  have da := (hA.dzK h.1).1
  have db := (hB.dzK h.2).1
  unfold F_MO_nextOf
  rw [idiv3 hs, irm3 hs, N_doesW hb hB h.2, bs, N_goesW ha hA h.1 db, bs, N_doesW ha hA h.1, bs, N_goesW hb hB h.2 da, bs, l32_3, iI_mul, iI_add]
  rfl
theorem N_getsOf {a b s p : Nat} {M : Mem} (ha : a ≤ 8) (hb : b ≤ 8) (hA : WOKW (M.1 95) a) (hB : WOKW (M.1 95) b) (h : stW (M.1 95) a b s) (hp : p < 2) : F_MO_getsOf (iI (a : Int)) (iI (b : Int)) (iI (s : Int)) (iI (p : Int)) M = some (iI (getW (M.1 95) a b s p)) := by
  have hs := st_lt hA h
  have da := (hA.dzK h.1).1
  have db := (hB.dzK h.2).1
  unfold F_MO_getsOf
  rw [idiv3 hs, irm3 hs, N_doesW ha hA h.1, bs, N_doesW hb hB h.2, bs, N_brings (by omega) (by omega) hp, bs]
  rfl
theorem N_isState {a b s : Nat} {M : Mem} (ha : a ≤ 8) (hb : b ≤ 8) (hA : WOKW (M.1 95) a) (hB : WOKW (M.1 95) b) (hs : s < 9) : wpO (F_MO_isState (iI (a : Int)) (iI (b : Int)) (iI (s : Int)) M) (fun r => r = true ↔ stW (M.1 95) a b s) := by
  obtain ⟨a1, a2, -⟩ := hA.moK
  obtain ⟨b1, b2, -⟩ := hB.moK
  unfold F_MO_isState
  rw [N_moods ha hA, bs, idiv3 hs]
  refine wp_if (fun c => wp_some ?_) (fun c => ?_)
  · rw [iI_le (by omega) (by omega) (by omega) (by omega)] at c
    exact ⟨(fun q => by cases q), fun q => absurd q.1 (by omega)⟩
  · rw [iI_le (by omega) (by omega) (by omega) (by omega)] at c
    rw [N_moods hb hB, bs, irm3 hs]
    refine wp_if (fun c2 => wp_some ?_) (fun c2 => wp_some ?_)
    · rw [iI_le (by omega) (by omega) (by omega) (by omega)] at c2
      exact ⟨(fun q => by cases q), fun q => absurd q.2 (by omega)⟩
    · rw [iI_le (by omega) (by omega) (by omega) (by omega)] at c2
      exact ⟨fun _ => ⟨by omega, by omega⟩, fun _ => rfl⟩
/-- no more than n different numbers below n -/
theorem pig : ∀ (n k : Nat) (f : Nat → Nat), (∀ i, i < k → f i < n) → (∀ i j, i < k → j < k → f i = f j → i = j) → k ≤ n := by
  intro n
  induction n with
  | zero =>
    intro k f h1 _
    rcases Nat.eq_zero_or_pos k with h | h
    · omega
    · exact absurd (h1 0 h) (Nat.not_lt_zero _)
  | succ n ih =>
    intro k f h1 h2
    rcases Nat.eq_zero_or_pos k with h | h
    · omega
    · by_cases hex : ∃ i, i < k ∧ f i = n
      · obtain ⟨i, hi, hin⟩ := hex
        have := ih (k - 1) (fun j => if j = i then f (k - 1) else f j) (fun j hj => by
          skip
          by_cases q : j = i
          · rw [if_pos q]
            have a1 := h1 (k - 1) (by omega)
            have a2 : f (k - 1) ≠ n := fun w => by
              have := h2 (k - 1) i (by omega) hi (by rw [w, hin])
              omega
            omega
          · rw [if_neg q]
            have a1 := h1 j (by omega)
            have a2 : f j ≠ n := fun w => q (h2 j i (by omega) hi (by rw [w, hin]))
            omega) (fun x y hx hy hxy => by
          skip
          by_cases q : x = i
          · by_cases r : y = i
            · omega
            · rw [if_pos q, if_neg r] at hxy
              have := h2 (k - 1) y (by omega) (by omega) hxy
              omega
          · by_cases r : y = i
            · rw [if_neg q, if_pos r] at hxy
              have := h2 x (k - 1) (by omega) (by omega) hxy
              omega
            · rw [if_neg q, if_neg r] at hxy
              exact h2 x y (by omega) (by omega) hxy)
        omega
      · have := ih k f (fun j hj => by
          have a1 := h1 j hj
          have a2 : f j ≠ n := fun w => hex ⟨j, hj, w⟩
          omega) h2
        omega
/-- a way through pairs of moods until one comes again: the state of the reference's walk -/
def walkOK (W : Nat → Int32) (a b s p : Nat) (M0 : Mem) (k : Nat) (M : Mem) : Prop :=
  (∀ j, j < k → M.1 103 (pth W a b s j) = iI (j : Int)) ∧ (∀ t, t < 9 → (∀ j, j < k → pth W a b s j ≠ t) → M.1 103 t = -1) ∧ (∀ j, j < k → M.1 102 j = iI (getW W a b (pth W a b s j) p)) ∧ (∀ c j, ¬ (c = 102 ∨ c = 103) → M.1 c j = M0.1 c j) ∧ M.2 = M0.2
theorem walk_inj {W : Nat → Int32} {a b s p : Nat} {M0 M : Mem} {k : Nat} (h : walkOK W a b s p M0 k M) (hk : k ≤ 100) : ∀ i j, i < k → j < k → pth W a b s i = pth W a b s j → i = j := by
  intro i j hi hj e
  have h1 := h.1 i hi
  rw [e, h.1 j hj, iI_eq (by omega) (by omega) (by omega) (by omega)] at h1
  omega
theorem walk_le {W : Nat → Int32} {a b s p : Nat} {M0 M : Mem} {k : Nat} (hA : WOKW W a) (hB : WOKW W b) (hs : stW W a b s) (h : walkOK W a b s p M0 k M) (hk : k ≤ 100) : k ≤ 9 :=
  pig 9 k (pth W a b s) (fun i _ => st_lt hA (pth_st hA hB hs i)) (walk_inj h hk)
theorem pos_inj {B u v u' v' : Nat} (hB : B ≤ 3) (h1 : v < B) (h2 : v' < B) (e : u * B + v = u' * B + v') : u = u' ∧ v = v' := by
  have hb : B = 1 ∨ B = 2 ∨ B = 3 := by omega
  rcases hb with rfl | rfl | rfl <;> omega
theorem walk_le2 {W : Nat → Int32} {a b s p : Nat} {M0 M : Mem} {k : Nat} (hA : WOKW W a) (hB : WOKW W b) (hs : stW W a b s) (h : walkOK W a b s p M0 k M) (hk : k ≤ 100) : k ≤ mo W a * mo W b := by
  refine pig (mo W a * mo W b) k (fun i => pth W a b s i / 3 * mo W b + pth W a b s i % 3) (fun i _ => ?_) (fun i j hi hj e => ?_)
  · obtain ⟨h1, h2⟩ := pth_st hA hB hs i
    have h3 : (pth W a b s i / 3 + 1) * mo W b ≤ mo W a * mo W b := Nat.mul_le_mul_right _ h1
    rw [Nat.add_mul, Nat.one_mul] at h3
    show pth W a b s i / 3 * mo W b + pth W a b s i % 3 < _
    omega
  · obtain ⟨h1, h2⟩ := pth_st hA hB hs i
    obtain ⟨h3, h4⟩ := pth_st hA hB hs j
    obtain ⟨q1, q2⟩ := pos_inj hB.moK.2.1 h2 h4 e
    exact walk_inj h hk i j hi hj (by omega)
theorem N_walk {a b s p : Nat} {M : Mem} (ha : a ≤ 8) (hb : b ≤ 8) (hA : WOKW (M.1 95) a) (hB : WOKW (M.1 95) b) (hs : stW (M.1 95) a b s) (hp : p < 2) (h0 : ∀ t, t < 9 → M.1 103 t = -1) : wpO (iter (F_MO_worths_b57 (iI (a : Int)) (iI (b : Int)) (iI (s : Int)) (iI (p : Int))) FUEL (0, iI (s : Int), M)) (fun r => ∃ k c : Nat, (k ≤ 9 ∧ k ≤ mo (M.1 95) a * mo (M.1 95) b) ∧ c < k ∧ pth (M.1 95) a b s k = pth (M.1 95) a b s c ∧ r.1 = iI (k : Int) ∧ r.2.1 = iI (pth (M.1 95) a b s k : Int) ∧ walkOK (M.1 95) a b s p M k r.2.2) := by
  refine wp_iter (P := fun k z => z.1 = iI (k : Int) ∧ z.2.1 = iI (pth (M.1 95) a b s k : Int) ∧ walkOK (M.1 95) a b s p M k z.2.2) 9 ?_ _ _ ⟨rfl, rfl, fun j hj => absurd hj (Nat.not_lt_zero _), fun t ht _ => h0 t ht, fun j hj => absurd hj (Nat.not_lt_zero _), fun _ _ _ => rfl, rfl⟩ (FUEL_big (by decide))
  intro k z hk ⟨z1, z2, w⟩
  have wk := walk_le2 hA hB hs w (by omega)
  obtain ⟨w1, w2, w3, w4, w5⟩ := w
  have hst := pth_st hA hB hs k
  have hlt := st_lt hA hst
  have l0 : (0 : Int32) = iI 0 := rfl
  unfold F_MO_worths_b57
  rw [z1, z2]
  refine wp_t (inb_iI (by omega) (by omega) (by omega)) ?_
  simp only [clN (n := pth (M.1 95) a b s k) (by omega)]
  refine wp_if (fun c => wp_some ?_) (fun c => ?_)
  · have hex : ∃ j, j < k ∧ pth (M.1 95) a b s j = pth (M.1 95) a b s k := by
      rcases Classical.em (∃ j, j < k ∧ pth (M.1 95) a b s j = pth (M.1 95) a b s k) with h | h
      · exact h
      · exfalso
        rw [w2 _ hlt (fun j hj e => h ⟨j, hj, e⟩)] at c
        exact absurd c (by decide)
    obtain ⟨j, hj, e⟩ := hex
    exact ⟨k, j, ⟨hk, wk⟩, hj, e.symm, rfl, rfl, w1, w2, w3, w4, w5⟩
  · have hne : ∀ j, j < k → pth (M.1 95) a b s j ≠ pth (M.1 95) a b s k := fun j hj e => by
      apply c
      rw [← e, w1 j hj, l0, iI_le] <;> omega
    have e95 : ∀ v, (mSI z.2.2 103 (pth (M.1 95) a b s k) v).1 95 = M.1 95 := fun v => by
      funext j
      rw [mI_cell (by decide)]
      exact w4 95 j (by decide)
    refine wp_t (inb_iI (by omega) (by omega) (by omega)) ?_
    rw [N_getsOf (M := mSI z.2.2 103 (pth (M.1 95) a b s k) (iI (k : Int))) ha hb (by rw [e95]; exact hA) (by rw [e95]; exact hB) (by rw [e95]; exact hst) hp, bs, e95]
    refine wp_t (inb_iI (by omega) (by omega) (by omega)) ?_
    simp only [clN (n := k) (by omega)]
    have f95 : ∀ v u, (mSI (mSI z.2.2 103 (pth (M.1 95) a b s k) v) 102 k u).1 95 = M.1 95 := fun v u => by
      funext j
      rw [mI_cell (by decide), e95]
    rw [N_nextOf (M := mSI (mSI z.2.2 103 (pth (M.1 95) a b s k) (iI (k : Int))) 102 k (iI (getW (M.1 95) a b (pth (M.1 95) a b s k) p))) ha hb (by rw [f95]; exact hA) (by rw [f95]; exact hB) (by rw [f95]; exact hst), bs, f95]
    have wn : walkOK (M.1 95) a b s p M (k + 1) (mSI (mSI z.2.2 103 (pth (M.1 95) a b s k) (iI (k : Int))) 102 k (iI (getW (M.1 95) a b (pth (M.1 95) a b s k) p))) := by
      refine ⟨fun j hj => ?_, fun t ht hall => ?_, fun j hj => ?_, fun x j hx => ?_, w5⟩
      · rw [mI_cell (by decide)]
        by_cases q : j = k
        · rw [q, mI_hit]
        · rw [mI_ix (hne j (by omega))]
          exact w1 j (by omega)
      · rw [mI_cell (by decide), mI_ix (fun q => hall k (by omega) q.symm)]
        exact w2 t ht (fun j hj => hall j (by omega))
      · by_cases q : j = k
        · rw [q, mI_hit]
        · rw [mI_ix q, mI_cell (by decide)]
          exact w3 j (by omega)
      · rw [mI_cell (fun q => hx (Or.inl q)), mI_cell (fun q => hx (Or.inr q))]
        exact w4 x j hx
    have hk9 := walk_le hA hB hs wn (by omega)
    exact wp_some ⟨by omega, iI_succ k, rfl, wn⟩
/-- what stands for a pair of moods and a person behind the reference's worths -/
def wOK (W : Nat → Int32) (a b : Nat) (P q : Int) (M : Mem) (s p : Nat) : Prop :=
  ∃ days c : Nat, c < days ∧ (days ≤ 9 ∧ days ≤ mo W a * mo W b) ∧ pth W a b s days = pth W a b s c ∧ M.2 104 (2 * s + p) = lI (worthW (fun j => getW W a b (pth W a b s j) p) P q days c).1 ∧ M.2 105 (2 * s + p) = lI (worthW (fun j => getW W a b (pth W a b s j) p) P q days c).2 ∧ fb 99 q (worthW (fun j => getW W a b (pth W a b s j) p) P q days c) ∧ (worthW (fun j => getW W a b (pth W a b s j) p) P q days c).2 ≤ q ^ days
def frW (M M' : Mem) : Prop := (∀ c j, ¬ (c = 102 ∨ c = 103) → M'.1 c j = M.1 c j) ∧ ∀ c j, ¬ (c = 104 ∨ c = 105 ∨ (c = 94 ∧ (j = 15 ∨ j = 16))) → M'.2 c j = M.2 c j
theorem frW.rf {M : Mem} : frW M M := ⟨fun _ _ _ => rfl, fun _ _ _ => rfl⟩
theorem frW.tr {M M1 M2 : Mem} (h : frW M M1) (h2 : frW M1 M2) : frW M M2 := ⟨fun c j hc => (h2.1 c j hc).trans (h.1 c j hc), fun c j hc => (h2.2 c j hc).trans (h.2 c j hc)⟩
theorem frW.w95 {M M' : Mem} (h : frW M M') : M'.1 95 = M.1 95 := funext fun j => h.1 95 j (by decide)
theorem q_pow_le {q : Int} (h : 1 ≤ q) {m n : Nat} (hmn : m ≤ n) : q ^ m ≤ q ^ n := by
  induction n with
  | zero =>
    have : m = 0 := by omega
    rw [this]
    exact Int.le_refl _
  | succ n ih =>
    rcases Nat.lt_or_ge n m with hq | hq
    · have : m = n + 1 := by omega
      rw [this]
      exact Int.le_refl _
    · have h1 := ih hq
      have h2 := pow_pos_i h n
      have h3 : q ^ n * 1 ≤ q ^ n * q := Int.mul_le_mul_of_nonneg_left h (by omega)
      rw [Int.pow_succ]
      omega
/-- one pair of moods, one person -/
theorem N_worth1 {a b s p : Nat} {P q : Int} {M : Mem} (ha : a ≤ 8) (hb : b ≤ 8) (hA : WOKW (M.1 95) a) (hB : WOKW (M.1 95) b) (hbr : brOK (M.1 95)) (hP : M.1 94 19 = iI P) (hQ : M.1 94 20 = iI q) (p1 : 1 ≤ P) (p2 : P < q) (p3 : q ≤ 12) (hs : stW (M.1 95) a b s) (hp : p < 2) : wpO (F_MO_worths_l30 (iI (a : Int)) (iI (b : Int)) (iI (s : Int)) (iI (p : Int)) 0 M) (fun x => ∃ M' : Mem, x = .inl (iI ((p + 1 : Nat) : Int), M') ∧ frW M M' ∧ wOK (M.1 95) a b P q M' s p ∧ ∀ j, j ≠ 2 * s + p → M'.2 104 j = M.2 104 j ∧ M'.2 105 j = M.2 105 j) := by
  have hs9 := st_lt hA hs
  unfold F_MO_worths_l30
  refine wp_bind (Ψ := fun M1 => (∀ t, t < 9 → M1.1 103 t = -1) ∧ (∀ c j, c ≠ 103 → M1.1 c j = M.1 c j) ∧ M1.2 = M.2) ?_ ?_
  · refine wp_iter (P := fun k z => z.1 = iI (k : Int) ∧ (∀ t, t < k → z.2.1 103 t = -1) ∧ (∀ c j, c ≠ 103 → z.2.1 c j = M.1 c j) ∧ z.2.2 = M.2) 9 ?_ _ _ ⟨rfl, fun t ht => absurd ht (Nat.not_lt_zero _), fun _ _ _ => rfl, rfl⟩ (FUEL_big (by decide))
    intro k z hk ⟨z1, z2, z3, z4⟩
    unfold F_MO_worths_b30
    rw [z1]
    rcases Nat.lt_or_ge k 9 with hlt | hge
    · refine wp_f (by rw [l32_9, iI_le] <;> omega) (wp_t (inb_iI (by omega) (by omega) (by omega)) (wp_some ⟨hlt, iI_succ k, fun t ht => ?_, fun c j hc => ?_, z4⟩))
      · show (mSI z.2 103 _ _).1 103 t = -1
        simp only [clN (n := k) (by omega)]
        by_cases q : t = k
        · rw [q, mI_hit]
        · rw [mI_ix q]
          exact z2 t (by omega)
      · show (mSI z.2 103 _ _).1 c j = _
        rw [mI_cell hc]
        exact z3 c j hc
    · have : k = 9 := by omega
      subst this
      exact wp_t (by decide) (wp_some ⟨z2, z3, z4⟩)
  · intro M1 ⟨m1, m2, m3⟩
    have e95 : M1.1 95 = M.1 95 := funext fun j => m2 95 j (by decide)
    unfold F_MO_worths_l57
    refine wp_bind (N_walk (M := M1) ha hb (by rw [e95]; exact hA) (by rw [e95]; exact hB) (by rw [e95]; exact hs) hp m1) ?_
    rintro ⟨r1, r2, M2⟩ ⟨k, c, ⟨k9, kmo⟩, hck, hpp, h1, h2, h3⟩
    dsimp only at h1 h2 h3
    rw [e95] at hpp h2 h3 kmo
    subst h1
    subst h2
    obtain ⟨w1, w2, w3, w4, w5⟩ := h3
    unfold F_MO_worths_j109
    have hlt := st_lt hA (pth_st hA hB hs k)
    refine wp_t (inb_iI (by omega) (by omega) (by omega)) ?_
    simp only [clN (n := pth (M.1 95) a b s k) (by omega)]
    rw [hpp, w1 c hck]
    have hg : ∀ j, (-99 : Int) ≤ getW (M.1 95) a b (pth (M.1 95) a b s j) p ∧ getW (M.1 95) a b (pth (M.1 95) a b s j) p ≤ 99 := fun j => getW_le hbr hA hB (pth_st hA hB hs j) hp
    refine wp_bind (N_worthOf (g := fun j => getW (M.1 95) a b (pth (M.1 95) a b s j) p) (G := 99) (M := M2) p1 p2 p3 (by decide) (by decide) hg k9 hck (by rw [w4 94 19 (by decide), m2 94 19 (by decide), hP]) (by rw [w4 94 20 (by decide), m2 94 20 (by decide), hQ]) w3) ?_
    intro M3 ⟨n1, n2, n3, n4, n5, n6⟩
    have e : (2 * iI (s : Int)) + iI (p : Int) = iI ((2 * s + p : Nat) : Int) := by
      rw [l32_2, iI_mul, iI_add]
      rfl
    rw [e]
    refine wp_t (inb_iI (by omega) (by omega) (by omega)) (wp_t (inb_iI (by omega) (by omega) (by omega)) (wp_some ⟨_, by rw [iI_succ], ?_, ?_, ?_⟩))
    · refine ⟨fun x j hx => ?_, fun x j hx => ?_⟩
      · show M3.1 x j = _
        rw [n1, w4 x j hx, m2 x j (fun q => hx (Or.inr q))]
      · show (mSL (mSL M3 104 _ _) 105 _ _).2 x j = _
        rw [mL_cell (fun q => hx (Or.inr (Or.inl q))), mL_cell (fun q => hx (Or.inl q)), n2 x j (fun q => hx (Or.inr (Or.inr q))), w5, m3]
    · refine ⟨k, c, hck, ⟨k9, kmo⟩, hpp, ?_, ?_, n5, n6⟩
      · show (mSL (mSL M3 104 _ _) 105 _ _).2 104 _ = _
        rw [mL_cell (by decide), clamp_iI (by omega) (by omega)]
        exact mL_hit.trans n3
      · show (mSL (mSL M3 104 _ _) 105 _ _).2 105 _ = _
        rw [clamp_iI (by omega) (by omega)]
        refine mL_hit.trans ?_
        rw [mL_cell (by decide)]
        exact n4
    · intro j hj
      have ec : (iI ((2 * s + p : Nat) : Int)).toNatClampNeg = 2 * s + p := by rw [clamp_iI (by omega) (by omega)]; rfl
      refine ⟨?_, ?_⟩
      · show (mSL (mSL M3 104 _ _) 105 _ _).2 104 j = _
        rw [mL_cell (by decide), ec, mL_ix hj, n2 104 j (by omega), w5, m3]
      · show (mSL (mSL M3 104 _ _) 105 _ _).2 105 j = _
        rw [ec, mL_ix hj, mL_cell (by decide), n2 105 j (by omega), w5, m3]
theorem wOK.mv {W : Nat → Int32} {a b : Nat} {P q : Int} {M M' : Mem} {s p : Nat} (h : wOK W a b P q M s p) (h1 : M'.2 104 (2 * s + p) = M.2 104 (2 * s + p)) (h2 : M'.2 105 (2 * s + p) = M.2 105 (2 * s + p)) : wOK W a b P q M' s p := by
  obtain ⟨d, c, k1, k2, k3, k4, k5, k6⟩ := h
  exact ⟨d, c, k1, k2, k3, h1.trans k4, h2.trans k5, k6⟩
theorem N_worths {a b : Nat} {P q : Int} {M : Mem} (ha : a ≤ 8) (hb : b ≤ 8) (hA : WOKW (M.1 95) a) (hB : WOKW (M.1 95) b) (hbr : brOK (M.1 95)) (hP : M.1 94 19 = iI P) (hQ : M.1 94 20 = iI q) (p1 : 1 ≤ P) (p2 : P < q) (p3 : q ≤ 12) : wpO (F_MO_worths (iI (a : Int)) (iI (b : Int)) M) (fun M' => frW M M' ∧ ∀ s p, stW (M.1 95) a b s → p < 2 → wOK (M.1 95) a b P q M' s p) := by
  unfold F_MO_worths F_MO_worths_l2
  refine wp_bind (Ψ := fun M' => frW M M' ∧ ∀ s p, stW (M.1 95) a b s → p < 2 → wOK (M.1 95) a b P q M' s p) ?_ (fun r hr => wp_some hr)
  refine wp_iter (P := fun k z => z.1 = iI (k : Int) ∧ frW M z.2 ∧ ∀ s p, stW (M.1 95) a b s → p < 2 → s < k → wOK (M.1 95) a b P q z.2 s p) 9 ?_ _ _ ⟨rfl, frW.rf, fun s p _ _ h => absurd h (Nat.not_lt_zero _)⟩ (FUEL_big (by decide))
  intro k z hk ⟨z1, z2, z3⟩
  unfold F_MO_worths_b2
  rw [z1]
  rcases Nat.lt_or_ge k 9 with hlt | hge
  · refine wp_f (by rw [l32_9, iI_le] <;> omega) ?_
    unfold F_MO_worths_l11
    refine wp_bind (Ψ := fun M' => frW M M' ∧ ∀ s p, stW (M.1 95) a b s → p < 2 → s < k + 1 → wOK (M.1 95) a b P q M' s p) ?_ (fun r hr => wp_some ⟨hlt, iI_succ k, hr⟩)
    refine wp_iter (P := fun p y => y.1 = iI (p : Int) ∧ p ≤ 2 ∧ frW M y.2 ∧ ∀ s p', stW (M.1 95) a b s → p' < 2 → (s < k ∨ (s = k ∧ p' < p)) → wOK (M.1 95) a b P q y.2 s p') 2 ?_ _ _ ⟨rfl, by decide, z2, fun s p' h1 h2 h3 => z3 s p' h1 h2 (by omega)⟩ (FUEL_big (by decide))
    intro p y hp ⟨y1, yp, y2, y3⟩
    unfold F_MO_worths_b11
    rw [y1]
    rcases Nat.lt_or_ge p 2 with plt | pge
    · refine wp_f (by rw [l32_2, iI_le] <;> omega) ?_
      have e95 := y2.w95
      obtain ⟨r, hr, hst⟩ := N_isState (M := y.2) (s := k) ha hb (by rw [e95]; exact hA) (by rw [e95]; exact hB) hlt
      rw [hr, bs]
      rw [e95] at hst
      refine wp_if (fun c => ?_) (fun c => wp_some ⟨y2, fun s p' h1 h2 h3 => ?_⟩)
      · have hs := hst.mp c
        refine wp_mono (N_worth1 (M := y.2) (P := P) (q := q) (s := k) (p := p) ha hb (by rw [e95]; exact hA) (by rw [e95]; exact hB) (by rw [e95]; exact hbr) (by rw [y2.1 94 19 (by decide), hP]) (by rw [y2.1 94 20 (by decide), hQ]) p1 p2 p3 (by rw [e95]; exact hs) plt) ?_
        rintro x ⟨M', rfl, n1, n2, n3⟩
        rw [e95] at n2
        refine ⟨by omega, rfl, by omega, y2.tr n1, fun s p' h1 h2 h3 => ?_⟩
        by_cases hq : s = k ∧ p' = p
        · obtain ⟨rfl, rfl⟩ := hq
          exact n2
        · have hne : 2 * s + p' ≠ 2 * k + p := by omega
          exact (y3 s p' h1 h2 (by omega)).mv (n3 _ hne).1 (n3 _ hne).2
      · have : s ≠ k := fun q => c (hst.mpr (q ▸ h1))
        exact y3 s p' h1 h2 (by omega)
    · have : p = 2 := by omega
      subst this
      exact wp_t (by decide) (wp_some ⟨y2, fun s p' h1 h2 h3 => y3 s p' h1 h2 (by omega)⟩)
  · have : k = 9 := by omega
    subst this
    exact wp_t (by decide) (wp_some ⟨z2, fun s p h1 h2 => z3 s p h1 h2 (st_lt hA h1)⟩)
/-- a pair may be compared: bounds of what the reference reckons with -/
theorem wOK.val {W : Nat → Int32} {a b : Nat} {P q : Int} {M : Mem} {s p : Nat} (h : wOK W a b P q M s p) (hq : 2 ≤ q) (hq2 : q ≤ 12) : ∃ u d : Int, M.2 104 (2 * s + p) = lI u ∧ M.2 105 (2 * s + p) = lI d ∧ fb 99 q (u, d) ∧ d ≤ 5159780352 := by
  obtain ⟨d, c, k1, k2, k3, k4, k5, k6, k7⟩ := h
  have h1 := (pow_le_pow12 (show 0 ≤ q by omega) hq2 d).2
  have h2 := pow12_le d k2.1
  exact ⟨_, _, k4, k5, k6, by omega⟩
/-- of two moods each: the lower number is small -/
theorem wOK.val4 {W : Nat → Int32} {a b : Nat} {P q : Int} {M : Mem} {s p : Nat} (h : wOK W a b P q M s p) (hq : 2 ≤ q) (hq2 : q ≤ 9) (ha : mo W a ≤ 2) (hb : mo W b ≤ 2) : ∃ u d : Int, M.2 104 (2 * s + p) = lI u ∧ M.2 105 (2 * s + p) = lI d ∧ fb 99 q (u, d) ∧ d ≤ 6561 := by
  obtain ⟨d, c, k1, k2, k3, k4, k5, k6, k7⟩ := h
  have h4 : mo W a * mo W b ≤ 2 * 2 := Nat.mul_le_mul ha hb
  have h1 : q ^ d ≤ q ^ 4 := q_pow_le (by omega) (by omega)
  have h2 : ∀ n : Nat, 0 ≤ q ^ n ∧ q ^ n ≤ 9 ^ n := by
    intro n
    induction n with
    | zero => exact ⟨by simp, by simp⟩
    | succ n ih =>
      rw [Int.pow_succ, Int.pow_succ]
      exact ⟨Int.mul_nonneg ih.1 (by omega), Int.mul_le_mul ih.2 hq2 (by omega) (by omega)⟩
  have h3 := (h2 4).2
  have h5 : (9 : Int) ^ 4 = 6561 := by decide
  exact ⟨_, _, k4, k5, k6, by omega⟩
theorem fb_num {q u d : Int} (hq : 2 ≤ q) (hq2 : q ≤ 12) (h : fb 99 q (u, d)) (hd : d ≤ 61917364224) : -4611686018427387904 < u ∧ u < 4611686018427387904 ∧ 0 < d ∧ d < 4611686018427387904 := by
  obtain ⟨h1, h2, h3⟩ := h
  dsimp only at h1 h2 h3
  have := gq_bound (G := 99) (by decide) (by decide) (show 0 ≤ q by omega) hq2 (show 0 ≤ d by omega) hd
  exact ⟨by omega, by omega, h1, by omega⟩
theorem brx_le {W : Nat → Int32} (hbr : brOK W) {x y p : Nat} (hx : x < 3) (hy : y < 3) (hp : p < 2) : -99 ≤ br W x y p ∧ br W x y p ≤ 99 := hbr x y p hx hy hp
