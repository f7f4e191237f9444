/-! ===== the best answer: policies, their values over one denominator ===== -/
theorem argmax {d : Nat → Int} : ∀ n, 0 < n → ∃ m, m < n ∧ ∀ i, i < n → d i ≤ d m := by
  intro n
  induction n with
  | zero => exact fun h => absurd h (Nat.lt_irrefl 0)
  | succ n ih =>
    intro _
    by_cases c : n = 0
    · subst c
      refine ⟨0, by decide, fun i hi => ?_⟩
      rw [show i = 0 by omega]
      exact Int.le_refl _
    · obtain ⟨m, h1, h2⟩ := ih (by omega)
      by_cases c2 : d m ≤ d n
      · refine ⟨n, by omega, fun i hi => ?_⟩
        by_cases q : i = n
        · rw [q]
          exact Int.le_refl _
        · have := h2 i (by omega)
          omega
      · refine ⟨m, by omega, fun i hi => ?_⟩
        by_cases q : i = n
        · rw [q]
          omega
        · exact h2 i (by omega)
theorem contr {n : Nat} {nx : Nat → Nat} {d : Nat → Int} {p q : Int} (p1 : 1 ≤ p) (pq : p < q) (hn : ∀ m, m < n → nx m < n) (h : ∀ m, m < n → q * d m ≤ p * d (nx m)) : ∀ m, m < n → d m ≤ 0 := by
  intro i hi
  obtain ⟨m, hm, hmax⟩ := argmax (d := d) n (by omega)
  have h1 := h m hm
  have h2 : p * d (nx m) ≤ p * d m := Int.mul_le_mul_of_nonneg_left (hmax _ (hn m hm)) (by omega)
  have h3 := hmax i hi
  rcases Int.lt_or_le 0 (d m) with c | c
  · have h4 : q * d m = p * d m + (q - p) * d m := by grind
    have h5 := Int.mul_pos (show 0 < q - p by omega) c
    omega
  · omega
/-- the values of a policy's places, as parts of D -/
def PE (n : Nat) (nx : Nat → Nat → Nat) (g : Nat → Nat → Int) (p q D : Int) (f : Nat → Nat) (N : Nat → Int) : Prop := ∀ m, m < n → q * N m = g m (f m) * q * D + p * N (nx m (f m))
/-- what an act is worth above the place's value, q times -/
def adv (nx : Nat → Nat → Nat) (g : Nat → Nat → Int) (p q D : Int) (N : Nat → Int) (m e : Nat) : Int := g m e * q * D + p * N (nx m e) - q * N m
theorem PE.up {n : Nat} {nx : Nat → Nat → Nat} {g : Nat → Nat → Int} {p q D : Int} {f' : Nat → Nat} {N N' : Nat → Int} (p1 : 1 ≤ p) (pq : p < q) (hf : ∀ m, m < n → nx m (f' m) < n) (h' : PE n nx g p q D f' N') (ha : ∀ m, m < n → 0 ≤ adv nx g p q D N m (f' m)) : ∀ m, m < n → N m ≤ N' m := by
  intro m hm
  have := contr (nx := fun m => nx m (f' m)) (d := fun m => N m - N' m) p1 pq hf (fun m hm => by
    have h1 := h' m hm
    have h2 := ha m hm
    unfold adv at h2
    show q * (N m - N' m) ≤ p * (N (nx m (f' m)) - N' (nx m (f' m)))
    rw [Int.mul_sub, Int.mul_sub]
    omega) m hm
  omega
theorem PE.up1 {n : Nat} {nx : Nat → Nat → Nat} {g : Nat → Nat → Int} {p q D : Int} {f' : Nat → Nat} {N N' : Nat → Int} (p1 : 1 ≤ p) (pq : p < q) (hf : ∀ m, m < n → nx m (f' m) < n) (h' : PE n nx g p q D f' N') (ha : ∀ m, m < n → 0 ≤ adv nx g p q D N m (f' m)) {m : Nat} (hm : m < n) (h1 : 0 < adv nx g p q D N m (f' m)) : N m < N' m := by
  have h2 := PE.up p1 pq hf h' ha _ (hf m hm)
  have h3 := h' m hm
  have h4 : p * N (nx m (f' m)) ≤ p * N' (nx m (f' m)) := Int.mul_le_mul_of_nonneg_left h2 (by omega)
  unfold adv at h1
  exact Int.lt_of_mul_lt_mul_left (a := q) (by omega) (by omega)
theorem PE.best {n : Nat} {nx : Nat → Nat → Nat} {g : Nat → Nat → Int} {p q D : Int} {f' : Nat → Nat} {N N' : Nat → Int} (p1 : 1 ≤ p) (pq : p < q) (hf : ∀ m, m < n → nx m (f' m) < n) (h' : PE n nx g p q D f' N') (ha : ∀ m, m < n → adv nx g p q D N m (f' m) ≤ 0) : ∀ m, m < n → N' m ≤ N m := by
  intro m hm
  have := contr (nx := fun m => nx m (f' m)) (d := fun m => N' m - N m) p1 pq hf (fun m hm => by
    have h1 := h' m hm
    have h2 := ha m hm
    unfold adv at h2
    show q * (N' m - N m) ≤ p * (N' (nx m (f' m)) - N (nx m (f' m)))
    rw [Int.mul_sub, Int.mul_sub]
    omega) m hm
  omega
theorem PE.adv0 {n : Nat} {nx : Nat → Nat → Nat} {g : Nat → Nat → Int} {p q D : Int} {f : Nat → Nat} {N : Nat → Int} (h : PE n nx g p q D f N) {m : Nat} (hm : m < n) : adv nx g p q D N m (f m) = 0 := by
  have := h m hm
  unfold adv
  omega
theorem PE.uq {n : Nat} {nx : Nat → Nat → Nat} {g : Nat → Nat → Int} {p q D : Int} {f : Nat → Nat} {N N' : Nat → Int} (p1 : 1 ≤ p) (pq : p < q) (hf : ∀ m, m < n → nx m (f m) < n) (h : PE n nx g p q D f N) (h' : PE n nx g p q D f N') : ∀ m, m < n → N m = N' m := fun m hm => by
  have h1 := PE.best p1 pq hf h' (fun m hm => by rw [h.adv0 hm]; exact Int.le_refl _) m hm
  have h2 := PE.best p1 pq hf h (fun m hm => by rw [h'.adv0 hm]; exact Int.le_refl _) m hm
  omega
/-- one denominator for all chains of up to 3 places -/
def dAq (p q : Int) : Int := q ^ 3 * ((q ^ 1 - p ^ 1) * ((q ^ 2 - p ^ 2) * (q ^ 3 - p ^ 3)))
theorem dAq_pos {p q : Int} (p1 : 1 ≤ p) (pq : p < q) : 0 < dAq p q := by
  have h1 := pow_lt_q p1 pq 1 (by decide)
  have h2 := pow_lt_q p1 pq 2 (by decide)
  have h3 := pow_lt_q p1 pq 3 (by decide)
  have h4 := pow_pos_i (show 1 ≤ q by omega) 3
  unfold dAq
  exact Int.mul_pos (by omega) (Int.mul_pos (by omega) (Int.mul_pos (by omega) (by omega)))
theorem dAq_dv {p q : Int} {t n : Nat} (hn : 1 ≤ n) (h : t + n ≤ 3) : ∃ k, q ^ t * (q ^ n - p ^ n) * k = dAq p q := by
  have e3 : q ^ 3 = q ^ t * q ^ (3 - t) := by
    rw [← Int.pow_add, show t + (3 - t) = 3 by omega]
  have hn3 : n = 1 ∨ n = 2 ∨ n = 3 := by omega
  unfold dAq
  rcases hn3 with rfl | rfl | rfl
  · refine ⟨q ^ (3 - t) * ((q ^ 2 - p ^ 2) * (q ^ 3 - p ^ 3)), ?_⟩
    generalize q ^ 3 - p ^ 3 = Z3
    rw [e3]
    generalize q ^ t = X
    generalize q ^ (3 - t) = Y
    generalize q ^ 1 - p ^ 1 = Z1
    generalize q ^ 2 - p ^ 2 = Z2
    grind
  · refine ⟨q ^ (3 - t) * ((q ^ 1 - p ^ 1) * (q ^ 3 - p ^ 3)), ?_⟩
    generalize q ^ 3 - p ^ 3 = Z3
    rw [e3]
    generalize q ^ t = X
    generalize q ^ (3 - t) = Y
    generalize q ^ 1 - p ^ 1 = Z1
    generalize q ^ 2 - p ^ 2 = Z2
    grind
  · refine ⟨q ^ (3 - t) * ((q ^ 1 - p ^ 1) * (q ^ 2 - p ^ 2)), ?_⟩
    generalize q ^ 3 - p ^ 3 = Z3
    rw [e3]
    generalize q ^ t = X
    generalize q ^ (3 - t) = Y
    generalize q ^ 1 - p ^ 1 = Z1
    generalize q ^ 2 - p ^ 2 = Z2
    grind
/-- what stands in a chain of up to 3 places, as parts of the one denominator -/
def nA (b : Nat) (p q : Int) (M : Mem) (s : Nat) : Int := uM b M s 0 * (dAq p q / dM b M s)
theorem nA_k {b n : Nat} {nx : Nat → Nat} {g : Nat → Nat → Int} {p q : Int} {M : Mem} {s : Nat} (p1 : 1 ≤ p) (pq : p < q) (hn : n ≤ 3) (hx : ∀ s, s < n → nx s < n) (h : slv b (fun s => s < n) nx g p q M s) : 0 < dM b M s ∧ 0 < dAq p q / dM b M s ∧ dM b M s * (dAq p q / dM b M s) = dAq p q := by
  obtain ⟨hs, -, -, ⟨t, c, r, e⟩, h5, -⟩ := h
  have hs' : s < n := hs
  have hit : ∀ k, itN nx s k < n := fun k => by
    induction k with
    | zero => exact hs'
    | succ k ih => exact hx _ ih
  have hle := pig n (t + c) (itN nx s) (fun i _ => hit i) r.2.2
  obtain ⟨k, hk⟩ := dAq_dv (p := p) (q := q) r.1 (show t + c ≤ 3 by omega)
  rw [← e] at hk
  have ed : dAq p q / dM b M s = k := by
    rw [← hk]
    exact Int.mul_ediv_cancel_left _ (by omega)
  have hp := dAq_pos p1 pq
  rw [ed]
  refine ⟨h5, ?_, hk⟩
  rw [← hk] at hp
  rcases Int.lt_or_le 0 k with c0 | c0
  · exact c0
  · have h9 := Int.mul_le_mul_of_nonneg_left c0 (Int.le_of_lt h5)
    rw [Int.mul_zero] at h9
    exact absurd (Int.lt_of_lt_of_le hp h9) (by decide)
theorem nA_eq {b n : Nat} {nx : Nat → Nat} {g : Nat → Nat → Int} {p q : Int} {M : Mem} {s : Nat} (p1 : 1 ≤ p) (pq : p < q) (hn : n ≤ 3) (hx : ∀ s, s < n → nx s < n) (h : slv b (fun s => s < n) nx g p q M s) (h2 : slv b (fun s => s < n) nx g p q M (nx s)) : q * nA b p q M s = g s 0 * q * dAq p q + p * nA b p q M (nx s) := by
  obtain ⟨d1, k1, e1⟩ := nA_k p1 pq hn hx h
  obtain ⟨d2, k2, e2⟩ := nA_k p1 pq hn hx h2
  have e := h.2.2.1 0 (by decide)
  unfold nA
  generalize dAq p q = Z at *
  generalize Z / dM b M s = k at *
  generalize Z / dM b M (nx s) = k' at *
  generalize dM b M s = d at *
  generalize dM b M (nx s) = d' at *
  generalize uM b M s 0 = u at *
  generalize uM b M (nx s) 0 = u' at *
  generalize g s 0 = G at *
  refine Int.eq_of_mul_eq_mul_right (a := d') (by omega) ?_
  refine Int.eq_of_mul_eq_mul_right (a := d) (by omega) ?_
  have h1 : q * (u * k) * d' * d = q * u * d' * (d * k) := by grind
  rw [h1, e, e1]
  have h3 : (G * q * Z + p * (u' * k')) * d' * d = G * q * Z * d' * d + p * u' * (d' * k') * d := by grind
  rw [h3, e2]
  grind
/-- the sign that the class reckons is the sign of adv -/
theorem sgn_adv {b n s t : Nat} {nx : Nat → Nat} {g : Nat → Nat → Int} {p q G : Int} {M : Mem} (p1 : 1 ≤ p) (pq : p < q) (hn : n ≤ 3) (hx : ∀ s, s < n → nx s < n) (h : slv b (fun s => s < n) nx g p q M s) (h2 : slv b (fun s => s < n) nx g p q M t) : Int.sign ((G * (q * dM b M t) + p * uM b M t 0) * dM b M s - uM b M s 0 * (q * dM b M t)) = Int.sign (G * q * dAq p q + p * nA b p q M t - q * nA b p q M s) := by
  obtain ⟨d1, k1, e1⟩ := nA_k p1 pq hn hx h
  obtain ⟨d2, k2, e2⟩ := nA_k p1 pq hn hx h2
  have hp := dAq_pos p1 pq
  unfold nA
  generalize dAq p q = Z at *
  generalize Z / dM b M s = k at *
  generalize Z / dM b M t = k' at *
  generalize dM b M s = d at *
  generalize dM b M t = d' at *
  generalize uM b M s 0 = u at *
  generalize uM b M t 0 = u' at *
  have key : ((G * (q * d') + p * u') * d - u * (q * d')) * (k * k') = Z * (G * q * Z + p * (u' * k') - q * (u * k)) := by
    have h1 : ((G * (q * d') + p * u') * d - u * (q * d')) * (k * k') = G * q * (d' * k') * (d * k) + p * (u' * k') * (d * k) - q * (u * k) * (d' * k') := by grind
    rw [h1, e1, e2]
    grind
  have s1 : Int.sign (k * k') = 1 := Int.sign_eq_one_of_pos (Int.mul_pos k1 k2)
  have s2 : Int.sign Z = 1 := Int.sign_eq_one_of_pos hp
  have h3 := congrArg Int.sign key
  generalize k * k' = kk at h3 s1
  rw [Int.sign_mul, Int.sign_mul, s1, s2, Int.mul_one, Int.one_mul] at h3
  exact h3
/-- the same numbers without a common part -/
theorem nA_red {b n s : Nat} {nx : Nat → Nat} {g : Nat → Nat → Int} {p q : Int} {M : Mem} (p1 : 1 ≤ p) (pq : p < q) (hn : n ≤ 3) (hx : ∀ s, s < n → nx s < n) (h : slv b (fun s => s < n) nx g p q M s) : rU (uM b M s 0) (dM b M s) = rU (nA b p q M s) (dAq p q) ∧ rD (uM b M s 0) (dM b M s) = rD (nA b p q M s) (dAq p q) := by
  obtain ⟨d1, k1, e1⟩ := nA_k p1 pq hn hx h
  refine rU_one d1 (dAq_pos p1 pq) ?_
  unfold nA
  generalize dAq p q / dM b M s = k at *
  rw [← e1]
  generalize dM b M s = d
  generalize uM b M s 0 = u
  grind
theorem rU_inj {a c d : Int} (hd : 0 < d) (h1 : rU a d = rU c d) (h2 : rD a d = rD c d) : a = c := by
  obtain ⟨g1, g2, g3, g4, -, -⟩ := rUD (a := a) hd
  obtain ⟨k1, k2, k3, k4, -, -⟩ := rUD (a := c) hd
  have e : (Int.gcd a d : Int) = (Int.gcd c d : Int) := by
    refine Int.eq_of_mul_eq_mul_left (a := rD a d) (by omega) ?_
    rw [g3, h2, k3]
  rw [← g2, ← k2, h1, e]
/-- for every policy there are such values -/
theorem PE_ex {n : Nat} {nx : Nat → Nat} {g : Nat → Int} {p q : Int} (p1 : 1 ≤ p) (pq : p < q) (q12 : q ≤ 12) (hn : n ≤ 3) (hx : ∀ s, s < n → nx s < n) (hg : ∀ s, s < n → -99 ≤ g s ∧ g s ≤ 99) : ∃ N : Nat → Int, (∀ m, m < n → q * N m = g m * q * dAq p q + p * N (nx m)) := by
  have hC : chS (fun s => s < n) nx (fun s pe => if pe = 0 then g s else 0) p q := by
    refine ⟨fun s hs => ⟨by omega, hx s hs⟩, fun s pe hs _ => ?_, p1, pq, q12⟩
    dsimp only
    by_cases c : pe = 0
    · rw [if_pos c]
      exact hg s hs
    · rw [if_neg c]
      decide
  obtain ⟨M, -, h1, h2⟩ := C_reckon (b := 0) (M := (fun _ _ => 0, fun k j => if k = 2 then (if j < n then lI (nx j : Int) else lI (-1)) else lI (if j % 2 = 0 then g (j / 2) else 0))) hC (fun s _ hs => by
    show (if (0 + 2 = 2) then (if s < n then lI (nx s : Int) else lI (-1)) else lI (if s % 2 = 0 then g (s / 2) else 0)) = _
    rw [if_pos rfl, if_pos hs]) (fun s _ hs => by
    show (if (0 + 2 = 2) then (if s < n then lI (nx s : Int) else lI (-1)) else lI (if s % 2 = 0 then g (s / 2) else 0)) = _
    rw [if_pos rfl, if_neg hs]) (fun s pe hs _ hp => by
    show (if (0 + 4 = 2) then (if 2 * s + pe < n then lI (nx (2 * s + pe) : Int) else lI (-1)) else lI (if (2 * s + pe) % 2 = 0 then g ((2 * s + pe) / 2) else 0)) = _
    rw [if_neg (by decide), show (2 * s + pe) / 2 = s by omega]
    by_cases c : pe = 0
    · rw [if_pos c, if_pos (by omega)]
    · rw [if_neg c, if_neg (by omega)])
  refine ⟨nA 0 p q M, fun m hm => ?_⟩
  exact nA_eq p1 pq hn hx (h2 m hm) (h2 _ (hx m hm))
