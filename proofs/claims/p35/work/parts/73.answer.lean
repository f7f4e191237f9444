/-! ===== the best answer, the reference's side: of all policies the best value, the least act ===== -/
theorem itf_it {f : Nat → Nat} {s : Nat} : ∀ k, itf f s k = itN f s k := by
  intro k
  induction k with
  | zero => rfl
  | succ k ih =>
    show f (itf f s k) = f (itN f s k)
    rw [ih]
theorem code_ex {A n : Nat} {f : Nat → Nat} (hA : A = 2 ∨ A = 3) (h1 : 1 ≤ n) (hn : n ≤ 3) (hf : ∀ m, m < n → f m < A) : ∃ c, c < A ^ n ∧ ∀ m, m < n → c / A ^ m % A = f m := by
  have n3 : n = 1 ∨ n = 2 ∨ n = 3 := by omega
  have f0 := hf 0 (by omega)
  rcases n3 with rfl | rfl | rfl
  · refine ⟨f 0, by rw [Nat.pow_one]; exact f0, fun m hm => ?_⟩
    have : m = 0 := by omega
    subst this
    rw [Nat.pow_zero, Nat.div_one]
    exact Nat.mod_eq_of_lt f0
  · have f1 := hf 1 (by decide)
    refine ⟨f 0 + A * f 1, ?_, fun m hm => ?_⟩
    · rcases hA with rfl | rfl
      · show f 0 + 2 * f 1 < 4
        omega
      · show f 0 + 3 * f 1 < 9
        omega
    · have m2 : m = 0 ∨ m = 1 := by omega
      rcases m2 with rfl | rfl
      · rw [Nat.pow_zero, Nat.div_one]
        rcases hA with rfl | rfl <;> omega
      · rw [Nat.pow_one]
        rcases hA with rfl | rfl <;> omega
  · have f1 := hf 1 (by decide)
    have f2 := hf 2 (by decide)
    rcases hA with rfl | rfl
    · refine ⟨f 0 + 2 * f 1 + 4 * f 2, ?_, fun m hm => ?_⟩
      · show f 0 + 2 * f 1 + 4 * f 2 < 8
        omega
      · have m3 : m = 0 ∨ m = 1 ∨ m = 2 := by omega
        rcases m3 with rfl | rfl | rfl
        · rw [Nat.pow_zero, Nat.div_one]
          omega
        · rw [Nat.pow_one]
          omega
        · rw [show (2 : Nat) ^ 2 = 4 from rfl]
          omega
    · refine ⟨f 0 + 3 * f 1 + 9 * f 2, ?_, fun m hm => ?_⟩
      · show f 0 + 3 * f 1 + 9 * f 2 < 27
        omega
      · have m3 : m = 0 ∨ m = 1 ∨ m = 2 := by omega
        rcases m3 with rfl | rfl | rfl
        · rw [Nat.pow_zero, Nat.div_one]
          omega
        · rw [Nat.pow_one]
          omega
        · rw [show (3 : Nat) ^ 2 = 9 from rfl]
          omega
/-- how fractions with one denominator stand, when they have lost their common parts -/
theorem sg_red {a c d : Int} (hd : 0 < d) : 0 < rU a d * rD c d - rU c d * rD a d ↔ c < a := by
  obtain ⟨g1, g2, g3, g4, -, -⟩ := rUD (a := a) hd
  obtain ⟨k1, k2, k3, k4, -, -⟩ := rUD (a := c) hd
  have hm : 0 < (Int.gcd a d : Int) * (Int.gcd c d : Int) := Int.mul_pos g1 k1
  have e : (rU a d * rD c d - rU c d * rD a d) * ((Int.gcd a d : Int) * (Int.gcd c d : Int)) = (a - c) * d := by
    have e1 : ∀ x w z y m n : Int, (x * w - z * y) * (m * n) = (x * m) * (w * n) - (z * n) * (y * m) := fun x w z y m n => by grind
    rw [e1, g2, k3, k2, g3, Int.sub_mul]
  generalize rU a d * rD c d - rU c d * rD a d = X at *
  generalize (Int.gcd a d : Int) * (Int.gcd c d : Int) = Y at *
  refine ⟨fun h => ?_, fun h => ?_⟩
  · have h2 := Int.mul_pos h hm
    rw [e] at h2
    rcases Int.lt_or_le c a with q | q
    · exact q
    · have h3 : (a - c) * d ≤ 0 * d := Int.mul_le_mul_of_nonneg_right (by omega) (by omega)
      omega
  · have h2 : 0 < (a - c) * d := Int.mul_pos (by omega) hd
    rw [← e] at h2
    rcases Int.lt_or_le 0 X with q | q
    · exact q
    · have h3 : X * Y ≤ 0 * Y := Int.mul_le_mul_of_nonneg_right q (by omega)
      omega
/-- what an act is worth, from reduced worths, is the place's worth: just if it is no better and no worse -/
theorem red_act {g p q D a b : Int} (hq : 0 < q) (hD : 0 < D) : (rU (g * q * rD a D + p * rU a D) (q * rD a D) = rU b D ∧ rD (g * q * rD a D + p * rU a D) (q * rD a D) = rD b D) ↔ g * q * D + p * a - q * b = 0 := by
  obtain ⟨g1, g2, g3, g4, -, -⟩ := rUD (a := a) hD
  have hqD : 0 < q * D := Int.mul_pos hq hD
  have hqd : 0 < q * rD a D := Int.mul_pos hq g4
  have cross : rU a D * D = a * rD a D := by
    have e0 : ∀ x y m : Int, x * (y * m) = (x * m) * y := fun x y m => by grind
    have e1 := e0 (rU a D) (rD a D) (Int.gcd a D : Int)
    rw [g3, g2] at e1
    exact e1
  obtain ⟨r1, r2⟩ := rU_one (a := g * q * rD a D + p * rU a D) (b := q * rD a D) (c := g * q * D + p * a) (d := q * D) hqd hqD (by
    generalize rU a D = x at *
    generalize rD a D = y at *
    have h1 : (g * q * y + p * x) * (q * D) = q * (g * q * y * D + p * (x * D)) := by grind
    rw [h1, cross]
    grind)
  obtain ⟨s1, s2⟩ := rU_one (a := b) (b := D) (c := q * b) (d := q * D) hD hqD (by grind)
  rw [r1, r2, s1, s2]
  refine ⟨fun h => ?_, fun h => ?_⟩
  · have := rU_inj hqD h.1 h.2
    omega
  · have : g * q * D + p * a = q * b := by omega
    rw [this]
    exact ⟨rfl, rfl⟩
/-- the fraction that stands for a mood is X over D -/
def bsV (q D : Int) (M : Mem) (m : Nat) (X : Int) : Prop := M.2 106 m = lI (rU X D) ∧ M.2 107 m = lI (rD X D) ∧ fb 99 q (rU X D, rD X D) ∧ rD X D ≤ 5159780352
theorem bsV.of {q D : Int} {M N : Mem} {m : Nat} {X : Int} (h : bsV q D M m X) (h1 : N.2 106 m = M.2 106 m) (h2 : N.2 107 m = M.2 107 m) : bsV q D N m X := ⟨h1.trans h.1, h2.trans h.2.1, h.2.2⟩
/-- the best of the first K policies stands for a mood -/
def stV (q D : Int) (V : Nat → Nat → Int) (M : Mem) (m K : Nat) : Prop := 0 < K → ∃ X, bsV q D M m X ∧ (∃ c, c < K ∧ X = V c m) ∧ ∀ c, c < K → V c m ≤ X
theorem stV.of {q D : Int} {V : Nat → Nat → Int} {M N : Mem} {m K : Nat} (h : stV q D V M m K) (h1 : N.2 106 m = M.2 106 m) (h2 : N.2 107 m = M.2 107 m) : stV q D V N m K := fun hK => by
  obtain ⟨X, b, r⟩ := h hK
  exact ⟨X, b.of h1 h2, r⟩
theorem R_answers {p w : Nat} {fB : Nat → Nat} {VB : Nat → Int} {M : Mem} (h : RIW (M.1 95)) (hp : p < 2) (hw : (w : Int) < (M.1 95 5).toInt) (hfB : ∀ m, m < mo (M.1 95) w → fB m < aN (M.1 95)) (hVB : PEW (M.1 95) p w fB VB) (hopt : ∀ m e, m < mo (M.1 95) w → e < aN (M.1 95) → avW (M.1 95) p w VB m e ≤ 0) : wpO (F_MO_answers (iI (p : Int)) (iI (w : Int)) M) (fun M' => ∀ m, m < mo (M.1 95) w → bsV (M.1 95 2).toInt (dW (M.1 95)) M' m (VB m) ∧ ∀ e0, e0 < aN (M.1 95) → avW (M.1 95) p w VB m e0 = 0 → (∀ e, e < e0 → avW (M.1 95) p w VB m e ≠ 0) → M'.1 108 m = iI (e0 : Int)) := by
  have w8 := h.w8 hw
  have hA := h.way w hw
  obtain ⟨n1, n3, hn⟩ := hA.moK
  obtain ⟨A, hAc, A2, A3⟩ := h.actN
  have haN : aN (M.1 95) = A := by
    unfold aN
    rw [hAc, iI_toInt (by omega) (by omega)]
    omega
  obtain ⟨p1, p2, p3⟩ := h.pq
  have hDp : 0 < dW (M.1 95) := dAq_pos p1 p2
  have gzl : ∀ m e, m < mo (M.1 95) w → e < 3 → gz (M.1 95) w m e < mo (M.1 95) w := fun m e hm he => (hA.gzK hm he).1
  have gbl : ∀ m e, m < mo (M.1 95) w → e < 3 → -99 ≤ ownW (M.1 95) p e (dz (M.1 95) w m) ∧ ownW (M.1 95) p e (dz (M.1 95) w m) ≤ 99 := fun m e hm he => ownW_le h.br he (by have := (hA.dzK hm).1; omega)
  rw [haN] at hfB hopt ⊢
  have ml : ∀ x : Nat, x % A < 3 := fun x => by
    have := Nat.mod_lt x (show A > 0 by omega)
    omega
  obtain ⟨V, hV⟩ : ∃ V : Nat → Nat → Int, ∀ c, PEW (M.1 95) p w (fun m => c / A ^ m % A) (V c) := by
    have ex : ∀ c, ∃ N, PEW (M.1 95) p w (fun m => c / A ^ m % A) N := fun c => PE_ex (nx := fun m => nxB (M.1 95) w m (c / A ^ m % A)) (g := fun m => gB (M.1 95) p w m (c / A ^ m % A)) p1 p2 (by omega) n3 (fun s hs => gzl _ _ hs (ml _)) (fun s hs => gbl _ _ hs (ml _))
    exact ⟨fun c => Classical.choose (ex c), fun c => Classical.choose_spec (ex c)⟩
  have hVle : ∀ c m, m < mo (M.1 95) w → V c m ≤ VB m := fun c => PE.best p1 p2 (fun m hm => gzl _ _ hm (ml _)) (hV c) (fun m hm => hopt m (c / A ^ m % A) hm (Nat.mod_lt (c / A ^ m) (show A > 0 by omega)))
  obtain ⟨cB, hcB, hVeq⟩ : ∃ c, c < A ^ mo (M.1 95) w ∧ ∀ m, m < mo (M.1 95) w → V c m = VB m := by
    obtain ⟨c, hc, hd⟩ := code_ex (f := fB) (show A = 2 ∨ A = 3 by omega) n1 n3 hfB
    refine ⟨c, hc, PE.uq p1 p2 (fun m hm => gzl _ _ hm (ml _)) (hV c) (fun m hm => ?_)⟩
    have e := hVB m hm
    rw [← hd m hm] at e
    exact e
  have fin : ∀ (N : Mem) m, m < mo (M.1 95) w → stV (M.1 95 2).toInt (dW (M.1 95)) V N m (A ^ mo (M.1 95) w) → bsV (M.1 95 2).toInt (dW (M.1 95)) N m (VB m) := fun N m hm hs => by
    obtain ⟨X, b, ⟨c, hc, e⟩, hle⟩ := hs (by omega)
    have h1 := hle cB hcB
    have h2 := hVle c m hm
    rw [hVeq m hm] at h1
    have : X = VB m := by omega
    rw [← this]
    exact b
  have act0 : ∀ m e, avW (M.1 95) p w VB m e = ownW (M.1 95) p e (dz (M.1 95) w m) * (M.1 95 2).toInt * dW (M.1 95) + (M.1 95 1).toInt * VB (gz (M.1 95) w m e) - (M.1 95 2).toInt * VB m := fun _ _ => rfl
  generalize avW (M.1 95) p w VB = av at *
  have hVk : ∀ c m, m < mo (M.1 95) w → (M.1 95 2).toInt * V c m = ownW (M.1 95) p (c / A ^ m % A) (dz (M.1 95) w m) * (M.1 95 2).toInt * dW (M.1 95) + (M.1 95 1).toInt * V c (gz (M.1 95) w m (c / A ^ m % A)) := fun c m hm => hV c m hm
  clear hV hVle hVB hopt hVeq hcB
  generalize dW (M.1 95) = D at *
  unfold F_MO_answers
  rw [N_plain, bs]
  have i0 : ansI (M.1 95) (M.1 95 1).toInt (M.1 95 2).toInt (plM M) := ⟨rfl, plM_P M, plM_Q M⟩
  generalize plM M = N0 at i0
  generalize hPP : (M.1 95 1).toInt = P at *
  generalize hQQ : (M.1 95 2).toInt = q at *
  generalize hWW : M.1 95 = W at *
  generalize hnn : mo W w = n at *
  rw [N_moodsOf w8, i0.1, hn, bs]
  have hall : A ^ n ≤ 27 := by
    have b1 : A ^ n ≤ 3 ^ n := Nat.pow_le_pow_left A3 n
    have b2 : 3 ^ n ≤ 3 ^ 3 := Nat.pow_le_pow_right (by decide) n3
    have b3 : (3 : Nat) ^ 3 = 27 := by decide
    omega
  have acts : ∀ N : Mem, ansI W P q N → F_MO_actMany N = some (iI (A : Int)) := fun N i => by rw [S_actMany, i.1, hAc]
  unfold F_MO_answers_l16
  refine wp_bind (Ψ := fun r => r = iI ((A ^ n : Nat) : Int)) ?_ (fun r hr => ?_)
  · refine wp_iterS (P := fun k z => z.1 = iI ((A ^ k : Nat) : Int) ∧ z.2 = iI (k : Int)) n ?_ _ _ ⟨by rw [Nat.pow_zero]; rfl, rfl⟩ (FUEL_big (by omega))
    rintro k ⟨z1, z2⟩ hk ⟨e1, e2⟩
    dsimp only at e1 e2
    subst e1
    subst e2
    unfold F_MO_answers_b16
    dsimp only
    refine wp_if (fun c => wp_some ?_) (fun c => ?_)
    · rw [iI_le (by omega) (by omega) (by omega) (by omega)] at c
      have : k = n := by omega
      rw [this]
    · rw [iI_le (by omega) (by omega) (by omega) (by omega)] at c
      rw [acts N0 i0, bs]
      refine wp_some ⟨by omega, ?_, iI_succ k⟩
      show iI ((A ^ k : Nat) : Int) * iI (A : Int) = _
      rw [iI_mulN, Nat.pow_succ]
  subst hr
  -- the last loop: the acts themselves
  have last : ∀ N : Mem, ansI W P q N → (∀ m, m < n → bsV q D N m (VB m)) → wpO (F_MO_answers_l278 (iI (p : Int)) (iI (w : Int)) (iI (n : Int)) 0 N) (fun M' => ∀ m, m < n → bsV q D M' m (VB m) ∧ ∀ e0, e0 < A → av m e0 = 0 → (∀ e, e < e0 → av m e ≠ 0) → M'.1 108 m = iI (e0 : Int)) := by
    intro N iN bN
    unfold F_MO_answers_l278
    refine wp_bind (Ψ := fun M' => ∀ m, m < n → bsV q D M' m (VB m) ∧ ∀ e0, e0 < A → av m e0 = 0 → (∀ e, e < e0 → av m e ≠ 0) → M'.1 108 m = iI (e0 : Int)) ?_ (fun r hr => wp_some hr)
    refine wp_iterS (P := fun k z => z.1 = iI (k : Int) ∧ ansI W P q z.2 ∧ (∀ m, m < n → bsV q D z.2 m (VB m)) ∧ ∀ m, m < n → m < k → ∀ e0, e0 < A → av m e0 = 0 → (∀ e, e < e0 → av m e ≠ 0) → z.2.1 108 m = iI (e0 : Int)) n ?_ _ _ ⟨rfl, iN, bN, fun m _ q => absurd q (Nat.not_lt_zero m)⟩ (FUEL_big (by omega))
    rintro k ⟨z1, N1⟩ hk ⟨e1, i1, b1, d1⟩
    dsimp only at e1 i1 b1 d1
    subst e1
    unfold F_MO_answers_b278
    dsimp only
    refine wp_if (fun c => wp_some (fun m hm => ⟨b1 m hm, d1 m hm ?_⟩)) (fun c => ?_)
    · rw [iI_le (by omega) (by omega) (by omega) (by omega)] at c
      omega
    rw [iI_le (by omega) (by omega) (by omega) (by omega)] at c
    rw [acts N1 i1, bs]
    unfold F_MO_answers_l292
    refine wp_bind (Ψ := fun N => ansI W P q N ∧ (∀ m, m < n → bsV q D N m (VB m)) ∧ ∀ m, m < n → m < k + 1 → ∀ e0, e0 < A → av m e0 = 0 → (∀ e, e < e0 → av m e ≠ 0) → N.1 108 m = iI (e0 : Int)) ?_ (fun r hr => wp_some ⟨by omega, iI_succ k, hr⟩)
    have eA : iI (A : Int) - 1 = iI ((A : Int) - 1) := by rw [l32_1, iI_sub]
    rw [eA]
    refine wp_iterS (P := fun j z => z.1 = iI ((A : Int) - 1 - j) ∧ j ≤ A ∧ ansI W P q z.2 ∧ (∀ m, m < n → bsV q D z.2 m (VB m)) ∧ (∀ m, m < n → m < k → ∀ e0, e0 < A → av m e0 = 0 → (∀ e, e < e0 → av m e ≠ 0) → z.2.1 108 m = iI (e0 : Int)) ∧ ∀ e0, A - j ≤ e0 → e0 < A → av k e0 = 0 → (∀ e, A - j ≤ e → e < e0 → av k e ≠ 0) → z.2.1 108 k = iI (e0 : Int)) A ?_ _ _ ⟨by rw [Int.natCast_zero, Int.sub_zero], Nat.zero_le _, i1, b1, d1, fun e0 q1 q2 => absurd q2 (by omega)⟩ (FUEL_big (by omega))
    rintro j ⟨y1, N2⟩ hj ⟨e1, -, i2, b2, d2, s2⟩
    dsimp only at e1 i2 b2 d2 s2
    subst e1
    unfold F_MO_answers_b292
    dsimp only
    have l0 : (0 : Int32) = iI 0 := rfl
    refine wp_if (fun c => wp_some ⟨i2, b2, fun m hm hmk e0 h1 h2 h3 => ?_⟩) (fun c => ?_)
    · rw [l0, iI_lt (by omega) (by omega) (by omega) (by omega)] at c
      by_cases q1 : m = k
      · rw [q1] at h2 h3 ⊢
        exact s2 e0 (by omega) h1 h2 (fun e _ he => h3 e he)
      · exact d2 m hm (by omega) e0 h1 h2 h3
    rw [l0, iI_lt (by omega) (by omega) (by omega) (by omega)] at c
    have ex : (A : Int) - 1 - j = ((A - 1 - j : Nat) : Int) := by omega
    rw [ex]
    have hA2 : WOKW (N2.1 95) w := by rw [i2.1]; exact hA
    have hk2 : k < mo (N2.1 95) w := by rw [i2.1, hnn]; omega
    have aeq := act0 k (A - 1 - j)
    rw [N_goesW w8 hA2 hk2 (by omega), bs, N_getsBy hp w8 hA2 hk2 (by omega), bs]
    have hto := (hA2.gzK (s := A - 1 - j) hk2 (by omega)).1
    rw [i2.1, hnn] at hto
    rw [i2.1]
    generalize gz W w k (A - 1 - j) = to at *
    have ow := gbl k (A - 1 - j) (by omega) (by omega)
    generalize ownW W p (A - 1 - j) (dz W w k) = gt at *
    refine wp_t (inb_iI (by omega) (by omega) (by omega)) (wp_t (inb_iI (by omega) (by omega) (by omega)) (wp_t (inb_iI (by omega) (by omega) (by omega)) ?_))
    obtain ⟨v1, v2, v3, v4⟩ := b2 to hto
    obtain ⟨y1, y2, y3, y4⟩ := b2 k (by omega)
    have key := red_act (g := gt) (p := P) (q := q) (D := D) (a := VB to) (b := VB k) (by omega) hDp
    rw [← aeq] at key
    have rk := (rUD (a := VB k) hDp).2.2.2
    simp only [clN (n := to) (by omega)]
    rw [v1, v2, i2.2.1, i2.2.2, iI_l (by omega) (by omega), iI_l (by omega) (by omega), iI_l (by omega) (by omega), lI_mul, lI_mul, lI_mul, lI_add, lI_mul]
    obtain ⟨c1, c2, c3⟩ := fb_back (gk := gt) p1 p2 (by decide) ow v3
    dsimp only at c1 c2 c3
    generalize rU (VB to) D = u at *
    generalize rD (VB to) D = d at *
    have hqd : q * d ≤ 12 * 5159780352 := Int.mul_le_mul p3 v4 (by have := v3.1; dsimp only at this; omega) (by omega)
    have gbd := gq_bound (G := 99) (by decide) (by decide) (show 0 ≤ q by omega) p3 (show 0 ≤ q * d by omega) (by omega)
    rw [N_tells (by omega) (by omega) c1 (by omega), bs]
    obtain ⟨t1, t2, t3, t4, t5, -⟩ := rUD (a := gt * q * d + P * u) (b := q * d) c1
    have tU : -4611686018427387904 < rU (gt * q * d + P * u) (q * d) ∧ rU (gt * q * d + P * u) (q * d) < 4611686018427387904 := by
      have hge : (rU (gt * q * d + P * u) (q * d)).natAbs ≤ (gt * q * d + P * u).natAbs := Int.natAbs_ediv_le_natAbs _ _
      omega
    obtain ⟨f1, f2, f3, f4⟩ := fb_num (by omega) p3 y3 (by omega)
    have keep : ∀ (N3 : Mem), N3.1 95 = N2.1 95 → N3.1 94 = N2.1 94 → (∀ m, N3.2 106 m = N2.2 106 m) → (∀ m, N3.2 107 m = N2.2 107 m) → (∀ m, m ≠ k → N3.1 108 m = N2.1 108 m) → ((av k (A - 1 - j) = 0 ∧ N3.1 108 k = iI ((A - 1 - j : Nat) : Int)) ∨ (av k (A - 1 - j) ≠ 0 ∧ N3.1 108 k = N2.1 108 k)) → wpO (some (Sum.inl (iI ((A - 1 - j : Nat) : Int) + (-1), N3)) : Option ((Int32 × Mem) ⊕ Mem)) (sumP (fun s' => j < A ∧ (s'.1 = iI ((A : Int) - 1 - ((j + 1 : Nat) : Int)) ∧ j + 1 ≤ A ∧ ansI W P q s'.2 ∧ (∀ m, m < n → bsV q D s'.2 m (VB m)) ∧ (∀ m, m < n → m < k → ∀ e0, e0 < A → av m e0 = 0 → (∀ e, e < e0 → av m e ≠ 0) → s'.2.1 108 m = iI (e0 : Int)) ∧ ∀ e0, A - (j + 1) ≤ e0 → e0 < A → av k e0 = 0 → (∀ e, A - (j + 1) ≤ e → e < e0 → av k e ≠ 0) → s'.2.1 108 k = iI (e0 : Int))) (fun N => ansI W P q N ∧ (∀ m, m < n → bsV q D N m (VB m)) ∧ ∀ m, m < n → m < k + 1 → ∀ e0, e0 < A → av m e0 = 0 → (∀ e, e < e0 → av m e ≠ 0) → N.1 108 m = iI (e0 : Int))) := by
      intro N3 k1 k2 k3 k4 k5 k6
      refine wp_some ⟨by omega, ?_, by omega, ⟨k1.trans i2.1, by rw [k2]; exact i2.2.1, by rw [k2]; exact i2.2.2⟩, fun m hm => (b2 m hm).of (k3 m) (k4 m), fun m hm hmk e0 h1 h2 h3 => ?_, fun e0 h0 h1 h2 h3 => ?_⟩
      · show iI ((A - 1 - j : Nat) : Int) + (-1) = _
        have l1 : (-1 : Int32) = iI (-1) := rfl
        rw [l1, iI_add]
        congr 1
        omega
      · show N3.1 108 m = _
        rw [k5 m (by omega)]
        exact d2 m hm hmk e0 h1 h2 h3
      · show N3.1 108 k = _
        rcases k6 with ⟨z1, z2⟩ | ⟨z1, z2⟩
        · by_cases q1 : e0 = A - 1 - j
          · rw [q1]
            exact z2
          · exact absurd z1 (h3 (A - 1 - j) (by omega) (by omega))
        · rw [z2]
          have q1 : e0 ≠ A - 1 - j := fun q1 => z1 (by rw [← q1]; exact h2)
          exact s2 e0 (by omega) h1 h2 (fun e he1 he2 => h3 e (by omega) he2)
    have t106 : ∀ (x y : Int64) (m : Nat), (mSL (mSL N2 94 15 x) 94 16 y).2 106 m = N2.2 106 m := fun x y m => by rw [mL_cell (by decide), mL_cell (by decide)]
    have t107 : ∀ (x y : Int64) (m : Nat), (mSL (mSL N2 94 15 x) 94 16 y).2 107 m = N2.2 107 m := fun x y m => by rw [mL_cell (by decide), mL_cell (by decide)]
    have t15 : ∀ (x y : Int64), (mSL (mSL N2 94 15 x) 94 16 y).2 94 15 = x := fun x y => by rw [mL_ix (by decide), mL_hit]
    have t16 : ∀ (x y : Int64), (mSL (mSL N2 94 15 x) 94 16 y).2 94 16 = y := fun x y => mL_hit
    simp only [clN (n := k) (by omega), t15, t16, t106, t107, y1, y2]
    refine wp_t (inb_iI (by omega) (by omega) (by omega)) (wp_if (fun h1 => ?_) (fun h1 => keep _ rfl rfl (t106 _ _) (t107 _ _) (fun _ _ => rfl) (Or.inr ⟨fun w => h1 (by rw [(key.mpr w).1]), rfl⟩)))
    refine wp_t (inb_iI (by omega) (by omega) (by omega)) (wp_if (fun h2 => ?_) (fun h2 => keep _ rfl rfl (t106 _ _) (t107 _ _) (fun _ _ => rfl) (Or.inr ⟨fun w => h2 (by rw [(key.mpr w).2]), rfl⟩)))
    rw [lI_eq (by omega) (by omega) (by omega) (by omega)] at h1 h2
    refine wp_t (inb_iI (by omega) (by omega) (by omega)) (keep _ ?_ ?_ (t106 (lI (rU (gt * q * d + P * u) (q * d))) (lI (rD (gt * q * d + P * u) (q * d)))) (t107 (lI (rU (gt * q * d + P * u) (q * d))) (lI (rD (gt * q * d + P * u) (q * d)))) (fun m hm => mI_ix hm) (Or.inl ⟨key.mp ⟨h1, h2⟩, mI_hit⟩))
    · funext i
      exact mI_cell (by decide)
    · funext i
      exact mI_cell (by decide)
  unfold F_MO_answers_l40
  refine wp_bind (Ψ := fun N => ansI W P q N ∧ ∀ m, m < n → bsV q D N m (VB m)) ?_ (fun r hr => last r hr.1 hr.2)
  refine wp_iterS (P := fun k z => z.1 = iI (k : Int) ∧ k ≤ A ^ n ∧ ansI W P q z.2 ∧ ∀ m, m < n → stV q D V z.2 m k) (A ^ n) ?_ _ _ ⟨rfl, Nat.zero_le _, i0, fun m hm q => absurd q (Nat.lt_irrefl 0)⟩ (FUEL_big (by omega))
  rintro k ⟨z1, N⟩ hk ⟨e1, -, iN, bN⟩
  dsimp only at e1 iN bN
  subst e1
  have hpos : 0 < A ^ n := Nat.pow_pos (by omega)
  unfold F_MO_answers_b40
  dsimp only
  refine wp_if (fun c => wp_some ⟨iN, fun m hm => fin N m hm ?_⟩) (fun c => ?_)
  · rw [iI_le (by omega) (by omega) (by omega) (by omega)] at c
    have ek : k = A ^ n := by omega
    rw [← ek]
    exact bN m hm
  rw [iI_le (by omega) (by omega) (by omega) (by omega)] at c
  -- the policy
  unfold F_MO_answers_l54
  refine wp_bind (Ψ := fun N1 => ansI W P q N1 ∧ N1.2 = N.2 ∧ ∀ m, m < n → N1.1 109 m = iI ((k / A ^ m % A : Nat) : Int)) ?_ (fun N1 h1 => ?_)
  · refine wp_iterS (P := fun j z => z.2.1 = iI (j : Int) ∧ z.1 = iI ((k / A ^ j : Nat) : Int) ∧ ansI W P q z.2.2 ∧ z.2.2.2 = N.2 ∧ ∀ m, m < j → z.2.2.1 109 m = iI ((k / A ^ m % A : Nat) : Int)) n ?_ _ _ ⟨rfl, by rw [Nat.pow_zero, Nat.div_one], iN, rfl, fun m hm => absurd hm (Nat.not_lt_zero _)⟩ (FUEL_big (by omega))
    rintro j ⟨y1, y2, N2⟩ hj ⟨e2, e1, i2, o2, pl⟩
    dsimp only at e1 e2 i2 o2 pl
    subst e1
    subst e2
    unfold F_MO_answers_b54
    dsimp only
    refine wp_if (fun c2 => wp_some ⟨i2, o2, fun m hm => pl m ?_⟩) (fun c2 => ?_)
    · rw [iI_le (by omega) (by omega) (by omega) (by omega)] at c2
      omega
    rw [iI_le (by omega) (by omega) (by omega) (by omega)] at c2
    rw [acts N2 i2, bs]
    have l0 : (0 : Int32) = iI 0 := rfl
    have hne : ¬ iI (A : Int) = 0 := by rw [l0, iI_eq] <;> omega
    have ht : k / A ^ j ≤ 27 := Nat.le_trans (Nat.div_le_self _ _) (by omega)
    refine wp_t hne (wp_t (inb_iI (by omega) (by omega) (by omega)) ?_)
    rw [irmN (by omega) (by omega), clamp_iI (by omega) (by omega), show ((j : Nat) : Int).toNat = j from rfl]
    have i3 : ansI W P q (mSI N2 109 j (iI ((k / A ^ j % A : Nat) : Int))) := ⟨(funext fun i => mI_cell (by decide)).trans i2.1, (mI_cell (by decide)).trans i2.2.1, (mI_cell (by decide)).trans i2.2.2⟩
    rw [acts _ i3, bs]
    refine wp_t hne (wp_some ⟨by omega, iI_succ j, ?_, i3, o2, fun m hm => ?_⟩)
    · show iI ((k / A ^ j : Nat) : Int) / iI (A : Int) = _
      rw [idivN (by omega) (by omega), Nat.div_div_eq_div_mul, Nat.pow_succ]
    · show (mSI N2 109 j _).1 109 m = _
      by_cases qm : m = j
      · rw [qm, mI_hit]
      · rw [mI_ix qm]
        exact pl m (by omega)
  obtain ⟨i1, o1, pl⟩ := h1
  have hpol3 : ∀ m, k / A ^ m % A < 3 := fun m => by
    have := Nat.mod_lt (k / A ^ m) (show A > 0 by omega)
    omega
  have hVk2 := hVk k
  obtain ⟨pol, epol⟩ : ∃ pol : Nat → Nat, pol = fun m => k / A ^ m % A := ⟨_, rfl⟩
  have hpol : ∀ m, m < n → pol m < 3 ∧ N1.1 109 m = iI (pol m : Int) := fun m hm => by
    rw [epol]
    exact ⟨hpol3 m, pl m hm⟩
  have hVp : ∀ m, m < n → q * V k m = ownW W p (pol m) (dz W w m) * q * D + P * V k (gz W w m (pol m)) := fun m hm => by
    rw [epol]
    exact hVk2 m hm
  clear epol pl hVk2
  have b1 : ∀ m, m < n → stV q D V N1 m k := fun m hm => (bN m hm).of (by rw [o1]) (by rw [o1])
  unfold F_MO_answers_l92
  refine wp_bind (Ψ := fun N2 => ansI W P q N2 ∧ ∀ m, m < n → stV q D V N2 m (k + 1)) ?_ (fun r hr => wp_some ⟨by omega, iI_succ k, by omega, hr⟩)
  refine wp_iterS (P := fun j z => z.1 = iI (j : Int) ∧ ansI W P q z.2 ∧ (∀ m, m < n → z.2.1 109 m = iI (pol m : Int)) ∧ ∀ m, m < n → (m < j → stV q D V z.2 m (k + 1)) ∧ (¬ m < j → stV q D V z.2 m k)) n ?_ _ _ ⟨rfl, i1, fun m hm => (hpol m hm).2, fun m hm => ⟨fun q => absurd q (Nat.not_lt_zero m), fun _ => b1 m hm⟩⟩ (FUEL_big (by omega))
  rintro j ⟨y1, N2⟩ hj ⟨e1, i2, pl2, b2⟩
  dsimp only at e1 i2 pl2 b2
  subst e1
  unfold F_MO_answers_b92
  dsimp only
  refine wp_if (fun c2 => wp_some ⟨i2, fun m hm => (b2 m hm).1 ?_⟩) (fun c2 => ?_)
  · rw [iI_le (by omega) (by omega) (by omega) (by omega)] at c2
    omega
  rw [iI_le (by omega) (by omega) (by omega) (by omega)] at c2
  have hjn : j < n := by omega
  unfold F_MO_answers_l101
  refine wp_bind (Ψ := fun N3 => (∀ t, t < 9 → N3.1 103 t = -1) ∧ (∀ c i, c ≠ 103 → N3.1 c i = N2.1 c i) ∧ N3.2 = N2.2) ?_ (fun N3 h3 => ?_)
  · refine wp_iterS (P := fun i z => z.1 = iI (i : Int) ∧ (∀ t, t < i → z.2.1 103 t = -1) ∧ (∀ c i, c ≠ 103 → z.2.1 c i = N2.1 c i) ∧ z.2.2 = N2.2) 9 ?_ _ _ ⟨rfl, fun t ht => absurd ht (Nat.not_lt_zero _), fun _ _ _ => rfl, rfl⟩ (FUEL_big (by decide))
    rintro i ⟨x1, N3⟩ hi ⟨e1, m1, m2, m3⟩
    dsimp only at e1 m1 m2 m3
    subst e1
    unfold F_MO_answers_b101
    dsimp only
    rcases Nat.lt_or_ge i 9 with hlt | hge
    · refine wp_f (by rw [l32_9, iI_le] <;> omega) (wp_t (inb_iI (by omega) (by omega) (by omega)) (wp_some ⟨hlt, iI_succ i, fun t ht => ?_, fun c i2 hc => ?_, m3⟩))
      · show (mSI N3 103 _ _).1 103 t = -1
        simp only [clN (n := i) (by omega)]
        by_cases q : t = i
        · rw [q, mI_hit]
        · rw [mI_ix q]
          exact m1 t (by omega)
      · show (mSI N3 103 _ _).1 c i2 = _
        rw [mI_cell hc]
        exact m2 c i2 hc
    · have : i = 9 := by omega
      subst this
      exact wp_t (by decide) (wp_some ⟨m1, m2, m3⟩)
  obtain ⟨t1, t2, t3⟩ := h3
  have i3 : ansI W P q N3 := ⟨(funext fun i => t2 95 i (by decide)).trans i2.1, (t2 94 19 (by decide)).trans i2.2.1, (t2 94 20 (by decide)).trans i2.2.2⟩
  unfold F_MO_answers_l129
  refine wp_bind (N_walkF (p := p) (w := w) (s := j) (pol := pol) (M := N3) hp w8 (by rw [i3.1]; exact hA) (by rw [i3.1, hnn]; omega) (by
    intro m hm
    rw [i3.1, hnn] at hm
    exact ⟨(hpol m hm).1, (t2 109 m (by decide)).trans (pl2 m hm)⟩) t1) ?_
  rintro ⟨r1, r2, N4⟩ ⟨days, c0, k9, hck, hpp, g1, g2, g3⟩
  dsimp only at g1 g2 g3
  rw [i3.1] at k9 hpp g2 g3
  rw [hnn] at k9
  subst g1
  subst g2
  obtain ⟨f1, f2, f3, f4, f5⟩ := g3
  have fm : ∀ m, m < n → gz W w m (pol m) < n := fun m hm => gzl m (pol m) hm (hpol m hm).1
  have hlt := itf_lt (f := fun m => gz W w m (pol m)) (s := j) (n := n) (by omega) fm
  -- the worth of the walk is the policy's value
  have ev : worthW (fun i => ownW W p (pol (itf (fun m => gz W w m (pol m)) j i)) (dz W w (itf (fun m => gz W w m (pol m)) j i))) P q days c0 = (rU (V k j) D, rD (V k j) D) := by
    have hq : eqnW (fun s => s < n) (fun m => gz W w m (pol m)) (fun m => ownW W p (pol m) (dz W w m)) P q (V k) (fun _ => D) := fun s hs => by
      refine ⟨hDp, fm s hs, ?_⟩
      show q * V k s * D = D * (ownW W p (pol s) (dz W w s) * q * D + P * V k (gz W w s (pol s)))
      rw [hVp s hs, Int.mul_comm]
    have e := hq.val (s := j) p1 p2 (fun i => by rw [← itf_it]; exact hlt i) hck (by rw [← itf_it, ← itf_it]; exact hpp)
    have ef : (fun i => ownW W p (pol (itf (fun m => gz W w m (pol m)) j i)) (dz W w (itf (fun m => gz W w m (pol m)) j i))) = (fun k => (fun m => ownW W p (pol m) (dz W w m)) (itN (fun m => gz W w m (pol m)) j k)) := funext fun i => by
      show ownW W p (pol (itf (fun m => gz W w m (pol m)) j i)) (dz W w (itf (fun m => gz W w m (pol m)) j i)) = ownW W p (pol (itN (fun m => gz W w m (pol m)) j i)) (dz W w (itN (fun m => gz W w m (pol m)) j i))
      rw [itf_it]
    rw [ef]
    exact e
  unfold F_MO_answers_j192
  have hl2 := hlt days
  refine wp_t (inb_iI (by omega) (by omega) (by omega)) ?_
  simp only [clN (n := itf (fun m => gz W w m (pol m)) j days) (by omega)]
  rw [hpp, f1 c0 hck]
  have hg : ∀ i, (-99 : Int) ≤ ownW W p (pol (itf (fun m => gz W w m (pol m)) j i)) (dz W w (itf (fun m => gz W w m (pol m)) j i)) ∧ ownW W p (pol (itf (fun m => gz W w m (pol m)) j i)) (dz W w (itf (fun m => gz W w m (pol m)) j i)) ≤ 99 := fun i => by
    have hi := hlt i
    exact gbl _ _ hi (hpol _ hi).1
  refine wp_bind (N_worthOf (g := fun i => ownW W p (pol (itf (fun m => gz W w m (pol m)) j i)) (dz W w (itf (fun m => gz W w m (pol m)) j i))) (G := 99) (M := N4) p1 p2 p3 (by decide) (by decide) hg (by omega) hck (by rw [f4 94 19 (by decide)]; exact i3.2.1) (by rw [f4 94 20 (by decide)]; exact i3.2.2) f3) ?_
  intro N5 ⟨s1, s2, s3, s4, s5, s6⟩
  have qd : q ^ days ≤ 5159780352 := by
    have a1 := (pow_le_pow12 (show 0 ≤ q by omega) p3 days).2
    have a2 := pow12_le days (by omega)
    omega
  rw [ev] at s3 s4 s5 s6
  dsimp only at s3 s4 s5 s6
  have i5 : ansI W P q N5 := ⟨by rw [s1]; exact (funext fun i => f4 95 i (by decide)).trans i3.1, by rw [s1, f4 94 19 (by decide)]; exact i3.2.1, by rw [s1, f4 94 20 (by decide)]; exact i3.2.2⟩
  have p5 : ∀ m, m < n → N5.1 109 m = iI (pol m : Int) := fun m hm => by rw [s1, f4 109 m (by decide), t2 109 m (by decide), pl2 m hm]
  have o106 : ∀ m, N5.2 106 m = N2.2 106 m := fun m => by rw [s2 106 m (by omega), f5, t3]
  have o107 : ∀ m, N5.2 107 m = N2.2 107 m := fun m => by rw [s2 107 m (by omega), f5, t3]
  have b5 : ∀ m, m < n → (m < j → stV q D V N5 m (k + 1)) ∧ (¬ m < j → stV q D V N5 m k) := fun m hm => ⟨fun c => ((b2 m hm).1 c).of (o106 m) (o107 m), fun c => ((b2 m hm).2 c).of (o106 m) (o107 m)⟩
  have set : (∀ c, c < k → V c j ≤ V k j) → wpO (F_MO_answers_j241 (iI (p : Int)) (iI (w : Int)) (iI (n : Int)) (iI ((A ^ n : Nat) : Int)) (iI (k : Int)) (iI (j : Int)) N5) (sumP (fun s' => j < n ∧ (s'.1 = iI ((j + 1 : Nat) : Int) ∧ ansI W P q s'.2 ∧ (∀ m, m < n → s'.2.1 109 m = iI (pol m : Int)) ∧ ∀ m, m < n → (m < j + 1 → stV q D V s'.2 m (k + 1)) ∧ (¬ m < j + 1 → stV q D V s'.2 m k))) (fun N2 => ansI W P q N2 ∧ ∀ m, m < n → stV q D V N2 m (k + 1))) := by
    intro hbest
    unfold F_MO_answers_j241
    simp only [clN (n := j) (by omega)]
    have m106 : ∀ m, m ≠ j → (mSL (mSL N5 106 j (N5.2 94 15)) 107 j ((mSL N5 106 j (N5.2 94 15)).2 94 16)).2 106 m = N5.2 106 m := fun m hm => by rw [mL_cell (by decide), mL_ix hm]
    have m107 : ∀ m, m ≠ j → (mSL (mSL N5 106 j (N5.2 94 15)) 107 j ((mSL N5 106 j (N5.2 94 15)).2 94 16)).2 107 m = N5.2 107 m := fun m hm => by rw [mL_ix hm, mL_cell (by decide)]
    refine wp_t (inb_iI (by omega) (by omega) (by omega)) (wp_t (inb_iI (by omega) (by omega) (by omega)) (wp_some ⟨by omega, iI_succ j, i5, p5, fun m hm => ⟨fun c => ?_, fun c => ((b5 m hm).2 (by omega)).of (m106 m (by omega)) (m107 m (by omega))⟩⟩))
    by_cases qm : m = j
    · rw [qm]
      refine fun _ => ⟨V k j, ⟨?_, ?_, s5, by omega⟩, ⟨k, by omega, rfl⟩, fun c hc => ?_⟩
      · rw [mL_cell (by decide), mL_hit, s3]
      · rw [mL_hit, mL_cell (by decide), s4]
      · by_cases qc : c = k
        · rw [qc]
          exact Int.le_refl _
        · exact hbest c (by omega)
    · exact ((b5 m hm).1 (by omega)).of (m106 m qm) (m107 m qm)
  have l0 : (0 : Int32) = iI 0 := rfl
  refine wp_if (fun ck => set (fun c hc => ?_)) (fun ck => ?_)
  · rw [l0, iI_le (by omega) (by omega) (by omega) (by omega)] at ck
    omega
  rw [l0, iI_le (by omega) (by omega) (by omega) (by omega)] at ck
  refine wp_t (inb_iI (by omega) (by omega) (by omega)) (wp_t (inb_iI (by omega) (by omega) (by omega)) ?_)
  obtain ⟨X, ⟨v1, v2, v3, v4⟩, ⟨cx, hcx, ecx⟩, hle⟩ := (b5 j hjn).2 (Nat.lt_irrefl j) (by omega)
  simp only [clN (n := j) (by omega)]
  rw [v1, v2, s3, s4]
  obtain ⟨a1, a2, a3, a4⟩ := fb_num (by omega) p3 s5 (by omega)
  obtain ⟨c1, c2, c3, c4⟩ := fb_num (by omega) p3 v3 (by omega)
  rw [N_compared a1 a2 a3 a4 c1 c2 c3 c4, bs]
  have sgt : (0 : Int32) < iI (Int.sign (rU (V k j) D * rD X D - rU X D * rD (V k j) D)) ↔ X < V k j := by
    rw [← sg_red hDp]
    have := sgn_le (X := rU (V k j) D * rD X D - rU X D * rD (V k j) D)
    rw [← Int32.not_le, this, Decidable.not_not]
  refine wp_if (fun h1 => set (fun c hc => ?_)) (fun h1 => wp_some ⟨by omega, iI_succ j, i5, p5, fun m hm => ⟨fun c => ?_, fun c => (b5 m hm).2 (by omega)⟩⟩)
  · have h2 := sgt.mp h1
    have h3 := hle c hc
    omega
  · by_cases qm : m = j
    · rw [qm]
      refine fun _ => ⟨X, ⟨v1, v2, v3, v4⟩, ⟨cx, by omega, ecx⟩, fun c hc => ?_⟩
      by_cases qc : c = k
      · rw [qc]
        exact Int.not_lt.mp (fun w => h1 (sgt.mpr w))
      · exact hle c (by omega)
    · exact (b5 m hm).1 (by omega)
