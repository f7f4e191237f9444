/-! ===== a pair on the class's side: look, worth; the same as the reference's ===== -/
theorem rU_one {a b c d : Int} (hb : 0 < b) (hd : 0 < d) (h : a * d = c * b) : rU a b = rU c d ∧ rD a b = rD c d := by
  obtain ⟨g1, g2, g3, g4, -, g6⟩ := rUD (a := a) hb
  obtain ⟨k1, k2, k3, k4, -, k6⟩ := rUD (a := c) hd
  have e1 : ∀ x w m n : Int, (x * w) * (m * n) = (x * m) * (w * n) := fun x w m n => by grind
  have e2 : ∀ y z m n : Int, (y * z) * (m * n) = (y * n) * (z * m) := fun y z m n => by grind
  have key : rU a b * rD c d = rU c d * rD a b := by
    have hz : (rU a b * rD c d) * ((Int.gcd a b : Int) * (Int.gcd c d : Int)) = (rU c d * rD a b) * ((Int.gcd a b : Int) * (Int.gcd c d : Int)) := by
      rw [e1, e2 (rU c d) (rD a b), g2, k3, k2, g3]
      exact h
    exact Int.eq_of_mul_eq_mul_right (Int.ne_of_gt (Int.mul_pos g1 k1)) hz
  generalize rU a b = x at *
  generalize rU c d = y at *
  generalize rD a b = z at *
  generalize rD c d = w at *
  have d1 : z.natAbs ∣ w.natAbs := by
    have e : z.natAbs ∣ x.natAbs * w.natAbs := by
      rw [← Int.natAbs_mul, key, Int.natAbs_mul]
      exact Nat.dvd_mul_left _ _
    exact Nat.Coprime.dvd_of_dvd_mul_left (by rw [Nat.Coprime, Nat.gcd_comm]; exact g6) e
  have d2 : w.natAbs ∣ z.natAbs := by
    have e : w.natAbs ∣ y.natAbs * z.natAbs := by
      rw [← Int.natAbs_mul, ← key, Int.natAbs_mul]
      exact Nat.dvd_mul_left _ _
    exact Nat.Coprime.dvd_of_dvd_mul_left (by rw [Nat.Coprime, Nat.gcd_comm]; exact k6) e
  have e := Nat.dvd_antisymm d1 d2
  have e2 : z = w := by omega
  refine ⟨?_, e2⟩
  rw [e2] at key
  exact Int.eq_of_mul_eq_mul_right (by omega) key
theorem rU_self {a b : Int} (hb : 0 < b) (h : Int.gcd a b = 1) : rU a b = a ∧ rD a b = b := by
  unfold rU rD
  rw [h]
  exact ⟨Int.ediv_one a, Int.ediv_one b⟩
/-! n days on from a place -/
/-- worths that keep the equation: of each place, for one person -/
def eqnW (S : Nat → Prop) (nx : Nat → Nat) (G : Nat → Int) (p q : Int) (U D : Nat → Int) : Prop := ∀ s, S s → 0 < D s ∧ S (nx s) ∧ q * U s * D (nx s) = D s * (G s * q * D (nx s) + p * U (nx s))
theorem eqnW.ring {S : Nat → Prop} {nx : Nat → Nat} {G : Nat → Int} {p q : Int} {U D : Nat → Int} (h : eqnW S nx G p q U D) {s c : Nat} (hq : 0 < q) (hs : ∀ k, S (itN nx s k)) : ∀ n, q ^ n * U (itN nx s c) * D (itN nx s (c + n)) = D (itN nx s c) * (q * ringA (fun k => G (itN nx s k)) p q c n * D (itN nx s (c + n)) + p ^ n * U (itN nx s (c + n))) := by
  intro n
  induction n with
  | zero =>
    show q ^ 0 * U (itN nx s c) * D (itN nx s c) = D (itN nx s c) * (q * 0 * D (itN nx s c) + p ^ 0 * U (itN nx s c))
    rw [Int.pow_zero, Int.pow_zero, Int.mul_zero, Int.zero_mul, Int.zero_add, Int.one_mul, Int.mul_comm]
  | succ n ih =>
    obtain ⟨d0, -, e⟩ := h _ (hs (c + n))
    obtain ⟨d1, -, -⟩ := h _ (hs (c + n + 1))
    rw [← itN_s (nx := nx)] at e
    have es : ringA (fun k => G (itN nx s k)) p q c (n + 1) = ringA (fun k => G (itN nx s k)) p q c n * q + G (itN nx s (c + n)) * p ^ n := rfl
    rw [es, show c + (n + 1) = c + n + 1 by omega, Int.pow_succ, Int.pow_succ]
    refine Int.eq_of_mul_eq_mul_left (a := D (itN nx s (c + n))) (by omega) ?_
    generalize D (itN nx s (c + n + 1)) = d' at *
    generalize U (itN nx s (c + n + 1)) = u' at *
    generalize D (itN nx s (c + n)) = dn at *
    generalize U (itN nx s (c + n)) = un at *
    generalize D (itN nx s c) = dc at *
    generalize U (itN nx s c) = uc at *
    generalize G (itN nx s (c + n)) = gn at *
    generalize ringA (fun k => G (itN nx s k)) p q c n = A at *
    generalize q ^ n = Q at *
    generalize p ^ n = P at *
    have h1 : dn * (Q * q * uc * d') = q * d' * (Q * uc * dn) := by grind
    rw [h1, ih]
    have h2 : q * d' * (dc * (q * A * dn + P * un)) = dc * (q * d' * (q * A * dn)) + dc * P * (q * un * d') := by grind
    rw [h2, e]
    grind
/-- what stands behind the reference's worths is the worth -/
theorem eqnW.val {S : Nat → Prop} {nx : Nat → Nat} {G : Nat → Int} {p q : Int} {U D : Nat → Int} (h : eqnW S nx G p q U D) {s days c : Nat} (p1 : 1 ≤ p) (pq : p < q) (hs : ∀ k, S (itN nx s k)) (hc : c < days) (hr : itN nx s days = itN nx s c) : worthW (fun k => G (itN nx s k)) p q days c = (rU (U s) (D s), rD (U s) (D s)) := by
  have hn : 0 < days - c := by omega
  have hpw := pow_lt_q p1 pq (days - c) hn
  have ring : ringW (fun k => G (itN nx s k)) p q c (days - c) = (rU (U (itN nx s c)) (D (itN nx s c)), rD (U (itN nx s c)) (D (itN nx s c))) := by
    have e := h.ring (c := c) (by omega) hs (days - c)
    rw [show c + (days - c) = days by omega, hr] at e
    obtain ⟨d0, -, -⟩ := h _ (hs c)
    have key : (ringA (fun k => G (itN nx s k)) p q c (days - c) * q) * D (itN nx s c) = U (itN nx s c) * (q ^ (days - c) - p ^ (days - c)) := by
      refine Int.eq_of_mul_eq_mul_left (a := D (itN nx s c)) (by omega) ?_
      generalize D (itN nx s c) = dc at *
      generalize U (itN nx s c) = uc at *
      generalize ringA (fun k => G (itN nx s k)) p q c (days - c) = A at *
      generalize q ^ (days - c) = Q at *
      generalize p ^ (days - c) = P at *
      grind
    obtain ⟨r1, r2⟩ := rU_one (by omega) d0 key
    unfold ringW
    rw [r1, r2]
  have back : ∀ k, k ≤ c → backW (fun k => G (itN nx s k)) p q k (rU (U (itN nx s k)) (D (itN nx s k)), rD (U (itN nx s k)) (D (itN nx s k))) = (rU (U s) (D s), rD (U s) (D s)) := by
    intro k
    induction k with
    | zero => exact fun _ => rfl
    | succ k ih =>
      intro hk
      obtain ⟨d0, -, e⟩ := h _ (hs k)
      obtain ⟨d1, -, -⟩ := h _ (hs (k + 1))
      rw [← itN_s (nx := nx)] at e
      show backW (fun k => G (itN nx s k)) p q k (rU (G (itN nx s k) * q * rD (U (itN nx s (k + 1))) (D (itN nx s (k + 1))) + p * rU (U (itN nx s (k + 1))) (D (itN nx s (k + 1)))) (q * rD (U (itN nx s (k + 1))) (D (itN nx s (k + 1)))), rD (G (itN nx s k) * q * rD (U (itN nx s (k + 1))) (D (itN nx s (k + 1))) + p * rU (U (itN nx s (k + 1))) (D (itN nx s (k + 1)))) (q * rD (U (itN nx s (k + 1))) (D (itN nx s (k + 1))))) = _
      obtain ⟨g1, g2, g3, g4, -, -⟩ := rUD (a := U (itN nx s (k + 1))) d1
      have cross : rU (U (itN nx s (k + 1))) (D (itN nx s (k + 1))) * D (itN nx s (k + 1)) = U (itN nx s (k + 1)) * rD (U (itN nx s (k + 1))) (D (itN nx s (k + 1))) := by
        have e0 : ∀ x y m : Int, x * (y * m) = (x * m) * y := fun x y m => by grind
        have e1 := e0 (rU (U (itN nx s (k + 1))) (D (itN nx s (k + 1)))) (rD (U (itN nx s (k + 1))) (D (itN nx s (k + 1)))) (Int.gcd (U (itN nx s (k + 1))) (D (itN nx s (k + 1))) : Int)
        rw [g3, g2] at e1
        exact e1
      have r := rU_one (a := G (itN nx s k) * q * rD (U (itN nx s (k + 1))) (D (itN nx s (k + 1))) + p * rU (U (itN nx s (k + 1))) (D (itN nx s (k + 1)))) (b := q * rD (U (itN nx s (k + 1))) (D (itN nx s (k + 1)))) (c := U (itN nx s k)) (d := D (itN nx s k)) (Int.mul_pos (by omega) g4) d0 (by
        refine Int.eq_of_mul_eq_mul_left (a := D (itN nx s (k + 1))) (by omega) ?_
        generalize rU (U (itN nx s (k + 1))) (D (itN nx s (k + 1))) = x at *
        generalize rD (U (itN nx s (k + 1))) (D (itN nx s (k + 1))) = y at *
        generalize U (itN nx s (k + 1)) = u' at *
        generalize D (itN nx s (k + 1)) = d' at *
        generalize U (itN nx s k) = u at *
        generalize D (itN nx s k) = d at *
        generalize G (itN nx s k) = gk at *
        have h1 : d' * ((gk * q * y + p * x) * d) = d * (gk * q * d' * y + p * (x * d')) := by grind
        rw [h1, cross]
        have h2 : d' * (u * (q * y)) = (q * u * d') * y := by grind
        rw [h2, e]
        grind)
      rw [r.1, r.2]
      exact ih (by omega)
  unfold worthW
  rw [ring]
  exact back c (Nat.le_refl c)
/-! look -/
theorem pth_it {W : Nat → Int32} {a b s : Nat} : ∀ k, pth W a b s k = itN (nxW W a b) s k := by
  intro k
  induction k with
  | zero => rfl
  | succ k ih =>
    show nxW W a b (pth W a b s k) = nxW W a b (itN (nxW W a b) s k)
    rw [ih]
theorem pairS {W : Nat → Int32} {a b : Nat} {p q : Int} (h : RIW W) (hA : WOKW W a) (hB : WOKW W b) (p1 : 1 ≤ p) (pq : p < q) (q12 : q ≤ 12) : chS (stW W a b) (nxW W a b) (getW W a b) p q :=
  ⟨fun s hs => ⟨st_lt hA hs, nx_st hA hB hs⟩, fun s pe hs hp => getW_le h.br hA hB hs hp, p1, pq, q12⟩
/-- a pair that was looked at -/
def PRS (W : Nat → Int32) (a b : Nat) (p q : Int) (M : Mem) : Prop := CW W M ∧ (M.1 34 2 = iI (a : Int) ∧ M.1 34 3 = iI (b : Int) ∧ M.1 34 4 = iI (mo W a : Int) ∧ M.1 34 5 = iI (mo W b : Int)) ∧ chI 35 (stW W a b) (nxW W a b) (getW W a b) p q M ∧ ∀ s, stW W a b s → slv 35 (stW W a b) (nxW W a b) (getW W a b) p q M s
theorem C_placeAfter {W : Nat → Int32} {a b x y u v : Nat} {M : Mem} (h : CW W M) (h2 : M.1 34 2 = iI (a : Int)) (h3 : M.1 34 3 = iI (b : Int)) (ha : (a : Int) < (W 5).toInt) (hb : (b : Int) < (W 5).toInt) (hx : x < mo W a) (hy : y < mo W b) (hu : u < 3) (hv : v < 3) : F_Pair_placeAfter (iI (x : Int)) (iI (y : Int)) (iI (u : Int)) (iI (v : Int)) M = some (iI ((3 * gz W a x v + gz W b y u : Nat) : Int)) := by
  unfold F_Pair_placeAfter
  rw [h2, h3, C_nextOf h ha hx hv, bs, C_nextOf h hb hy hu, bs, l32n_3, iI_pm, iI_pa]
theorem C_look {W : Nat → Int32} {a b : Nat} {p q : Int} {M : Mem} (h : CW W M) (ha : (a : Int) < (W 5).toInt) (hb : (b : Int) < (W 5).toInt) (p1 : 1 ≤ p) (pq : p < q) (q12 : q ≤ 12) : wpO (F_Pair_look (iI (a : Int)) (iI (b : Int)) (lI p) (lI q) M) (fun N => PRS W a b p q N) := by
  have hA := h.wk ha
  have hB := h.wk hb
  have mA := hA.moK
  have mB := hB.moK
  have hC := pairS h.2.1 hA hB p1 pq q12
  have i0 : (0 : Int32) = iI ((0 : Nat) : Int) := rfl
  have i1 : (1 : Int32) = iI ((1 : Nat) : Int) := rfl
  unfold F_Pair_look
  have s2 : Same (fun k => k = 34) M (mSI (mSI M 34 2 (iI (a : Int))) 34 3 (iI (b : Int))) := Same.trans (M1 := mSI M 34 2 (iI (a : Int))) (Same.sI (S := fun k => k = 34) Same.rfl' rfl) (Same.sI (S := fun k => k = 34) Same.rfl' rfl)
  have e2 : (mSI (mSI M 34 2 (iI (a : Int))) 34 3 (iI (b : Int))).1 34 2 = iI (a : Int) := by rw [mI_ix (by decide), mI_hit]
  have e3 : (mSI (mSI M 34 2 (iI (a : Int))) 34 3 (iI (b : Int))).1 34 3 = iI (b : Int) := mI_hit
  generalize mSI (mSI M 34 2 (iI (a : Int))) 34 3 (iI (b : Int)) = M2 at *
  have cw2 := h.sm s2 (fun k q => by omega)
  rw [e2, C_moodsOf cw2 ha, bs, C_min3 mA.2.1, bs]
  have s4 : Same (fun k => k = 34) M (mSI M2 34 4 (iI (mo W a : Int))) := s2.trans (Same.sI (S := fun k => k = 34) Same.rfl' rfl)
  have e34 : (mSI M2 34 4 (iI (mo W a : Int))).1 34 3 = iI (b : Int) := (mI_ix (by decide)).trans e3
  have e24 : (mSI M2 34 4 (iI (mo W a : Int))).1 34 2 = iI (a : Int) := (mI_ix (by decide)).trans e2
  have e44 : (mSI M2 34 4 (iI (mo W a : Int))).1 34 4 = iI (mo W a : Int) := mI_hit
  generalize mSI M2 34 4 (iI (mo W a : Int)) = M4 at *
  have cw4 := h.sm s4 (fun k q => by omega)
  rw [e34, C_moodsOf cw4 hb, bs, C_min3 mB.2.1, bs]
  have s5 : Same (fun k => k = 34) M (mSI M4 34 5 (iI (mo W b : Int))) := s4.trans (Same.sI (S := fun k => k = 34) Same.rfl' rfl)
  have g2 : (mSI M4 34 5 (iI (mo W b : Int))).1 34 2 = iI (a : Int) := (mI_ix (by decide)).trans e24
  have g3 : (mSI M4 34 5 (iI (mo W b : Int))).1 34 3 = iI (b : Int) := (mI_ix (by decide)).trans e34
  have g4 : (mSI M4 34 5 (iI (mo W b : Int))).1 34 4 = iI (mo W a : Int) := (mI_ix (by decide)).trans e44
  have g5 : (mSI M4 34 5 (iI (mo W b : Int))).1 34 5 = iI (mo W b : Int) := mI_hit
  generalize mSI M4 34 5 (iI (mo W b : Int)) = M5 at *
  clear e2 e3 e24 e34 e44 s2 s4 cw2 cw4
  unfold F_Chain_clear
  refine wp_bind (Ψ := fun N => Same (fun k => k = 37) M5 N ∧ ∀ j, j < 9 → N.2 37 j = -1) ?_ (fun r5 hr5 => ?_)
  · refine wp_bind (T_Row_setAllQ 37 9 (-1) M5) (fun r hr => wp_some ⟨hr.1, fun j hj => hr.2 j hj (by decide)⟩)
  obtain ⟨f5, c5⟩ := hr5
  have cw5 : CW W r5 := (h.sm s5 (fun k q => by omega)).sm f5 (fun k q => by omega)
  have k2 : r5.1 34 2 = iI (a : Int) := ((f5 34 (by decide)).1 2).trans g2
  have k3 : r5.1 34 3 = iI (b : Int) := ((f5 34 (by decide)).1 3).trans g3
  have k4 : r5.1 34 4 = iI (mo W a : Int) := ((f5 34 (by decide)).1 4).trans g4
  have k5 : r5.1 34 5 = iI (mo W b : Int) := ((f5 34 (by decide)).1 5).trans g5
  clear g2 g3 g4 g5 s5 f5
  unfold F_Pair_look_l58
  refine wp_bind (Ψ := fun N => Same (fun k => k = 37 ∨ k = 39) r5 N ∧ (∀ s, stW W a b s → N.2 37 s = lI (nxW W a b s : Int) ∧ ∀ pe, pe < 2 → N.2 39 (2 * s + pe) = lI (getW W a b s pe)) ∧ ∀ s, s < 9 → ¬ stW W a b s → N.2 37 s = lI (-1)) ?_ (fun N hN => ?_)
  · refine wp_iterS (P := fun (k : Nat) (z : Int32 × Mem) => z.1 = iI (k : Int) ∧ k ≤ mo W a ∧ Same (fun k => k = 37 ∨ k = 39) r5 z.2 ∧ (∀ s, stW W a b s → s / 3 < k → z.2.2 37 s = lI (nxW W a b s : Int) ∧ ∀ pe, pe < 2 → z.2.2 39 (2 * s + pe) = lI (getW W a b s pe)) ∧ ∀ s, s < 9 → ¬ (stW W a b s ∧ s / 3 < k) → z.2.2 37 s = lI (-1)) (mo W a) ?_ FUEL (0, r5) ⟨rfl, by omega, Same.rfl', fun s _ q => absurd q (Nat.not_lt_zero _), fun s h9 _ => by rw [← tm1l]; exact c5 s h9⟩ (FUEL_big (by omega))
    rintro x ⟨z1, N⟩ hx ⟨e1, -, fN, nv, nu⟩
    dsimp only at e1 fN nv nu
    subst e1
    unfold F_Pair_look_b58
    dsimp only
    rw [(fN 34 (by omega)).1 4, k4]
    refine wp_if (fun c => wp_some ⟨fN, fun s hs => nv s hs ?_, fun s h9 hns => nu s h9 (fun w => hns w.1)⟩) (fun c => ?_)
    · rw [iI_le (by omega) (by omega) (by omega) (by omega)] at c
      have := hs.1
      omega
    rw [iI_le (by omega) (by omega) (by omega) (by omega)] at c
    have hxa : x < mo W a := by omega
    unfold F_Pair_look_l70
    refine wp_bind (Ψ := fun O => Same (fun k => k = 37 ∨ k = 39) r5 O ∧ (∀ s, stW W a b s → s / 3 < x + 1 → O.2 37 s = lI (nxW W a b s : Int) ∧ ∀ pe, pe < 2 → O.2 39 (2 * s + pe) = lI (getW W a b s pe)) ∧ ∀ s, s < 9 → ¬ (stW W a b s ∧ s / 3 < x + 1) → O.2 37 s = lI (-1)) ?_ (fun O hO => wp_some ⟨by omega, iI_succ x, by omega, hO.1, hO.2.1, hO.2.2⟩)
    refine wp_iterS (P := fun (k : Nat) (z : Int32 × Mem) => z.1 = iI (k : Int) ∧ k ≤ mo W b ∧ Same (fun k => k = 37 ∨ k = 39) r5 z.2 ∧ (∀ s, stW W a b s → (s / 3 < x ∨ (s / 3 = x ∧ s % 3 < k)) → z.2.2 37 s = lI (nxW W a b s : Int) ∧ ∀ pe, pe < 2 → z.2.2 39 (2 * s + pe) = lI (getW W a b s pe)) ∧ ∀ s, s < 9 → ¬ (stW W a b s ∧ (s / 3 < x ∨ (s / 3 = x ∧ s % 3 < k))) → z.2.2 37 s = lI (-1)) (mo W b) ?_ FUEL (0, N) ⟨rfl, by omega, fN, fun s hs q => nv s hs (by omega), fun s h9 hns => nu s h9 (fun w => hns ⟨w.1, by omega⟩)⟩ (FUEL_big (by omega))
    rintro y ⟨z1, O⟩ hy ⟨e1, -, fO, ov, ou⟩
    dsimp only at e1 fO ov ou
    subst e1
    unfold F_Pair_look_b70
    dsimp only
    rw [(fO 34 (by omega)).1 5, k5]
    refine wp_if (fun c2 => wp_some ⟨fO, fun s hs q => ov s hs ?_, fun s h9 hns => ou s h9 (fun w => hns ⟨w.1, by omega⟩)⟩) (fun c2 => ?_)
    · rw [iI_le (by omega) (by omega) (by omega) (by omega)] at c2
      have := hs.2
      omega
    rw [iI_le (by omega) (by omega) (by omega) (by omega)] at c2
    have hyb : y < mo W b := by omega
    have cwO := cw5.sm fO (fun k q => by omega)
    have q2 : O.1 34 2 = iI (a : Int) := ((fO 34 (by omega)).1 2).trans k2
    have q3 : O.1 34 3 = iI (b : Int) := ((fO 34 (by omega)).1 3).trans k3
    have d1 := hA.dzK hxa
    have d2 := hB.dzK hyb
    have gA := (hA.gzK hxa (s := dz W b y) (by omega)).1
    have gB := (hB.gzK hyb (s := dz W a x) (by omega)).1
    have hs0 : (3 * x + y) / 3 = x ∧ (3 * x + y) % 3 = y := by omega
    have en : nxW W a b (3 * x + y) = 3 * gz W a x (dz W b y) + gz W b y (dz W a x) := by
      unfold nxW
      rw [hs0.1, hs0.2]
    have eg : ∀ pe, getW W a b (3 * x + y) pe = br W (dz W a x) (dz W b y) pe := fun pe => by
      unfold getW
      rw [hs0.1, hs0.2]
    have hst : stW W a b (3 * x + y) := ⟨by rw [hs0.1]; exact hxa, by rw [hs0.2]; exact hyb⟩
    have bb : ∀ pe, pe < 2 → -99 ≤ br W (dz W a x) (dz W b y) pe ∧ br W (dz W a x) (dz W b y) pe ≤ 99 := fun pe hp => h.2.1.br _ _ _ (by omega) (by omega) hp
    have b0 := bb 0 (by decide)
    have b1 := bb 1 (by decide)
    rw [q2, q3, C_actOf cwO ha hxa, bs, C_actOf cwO hb hyb, bs, C_placeAfter cwO q2 q3 ha hb hxa hyb (by omega) (by omega), bs, i0, C_brW cwO (by omega) (by omega) (by decide), bs, i1, C_brW cwO (by omega) (by omega) (by decide), bs, ← en, ← eg 0, ← eg 1]
    rw [← eg 0] at b0
    rw [← eg 1] at b1
    have hlt := st_lt hA hst
    have nlt := st_lt hA (nx_st hA hB hst)
    have e35 : 3 * iI (x : Int) + iI (y : Int) = iI ((3 * x + y : Nat) : Int) := by rw [l32n_3, iI_pm, iI_pa]
    rw [e35]
    generalize hsd : 3 * x + y = s0 at *
    unfold F_Chain_put
    have i20 : 2 * iI (s0 : Int) = iI ((2 * s0 : Nat) : Int) := by rw [l32n_2, iI_pm]
    have i21 : iI ((2 * s0 : Nat) : Int) + 1 = iI ((2 * s0 + 1 : Nat) : Int) := iI_succ _
    rw [i20, i21, l64n _ (by omega), iI_l (by omega) (by omega), iI_l (by omega) (by omega), V_Row_put (by omega) (by omega) (by decide), bs, V_Row_put (by omega) (by omega) (by decide), bs, V_Row_put (by omega) (by omega) (by decide), bs, bs, show ((s0 : Nat) : Int).toNat = s0 from rfl, show ((2 * s0 : Nat) : Int).toNat = 2 * s0 from rfl, show ((2 * s0 + 1 : Nat) : Int).toNat = 2 * s0 + 1 from rfl]
    have fP : Same (fun k => k = 37 ∨ k = 39) r5 (mSL (mSL (mSL O 37 s0 (lI (nxW W a b s0 : Int))) 39 (2 * s0) (lI (getW W a b s0 0))) 39 (2 * s0 + 1) (lI (getW W a b s0 1))) := ((fO.sL (Or.inl rfl)).sL (Or.inr rfl)).sL (Or.inr rfl)
    have v37 : ∀ j, (mSL (mSL (mSL O 37 s0 (lI (nxW W a b s0 : Int))) 39 (2 * s0) (lI (getW W a b s0 0))) 39 (2 * s0 + 1) (lI (getW W a b s0 1))).2 37 j = if j = s0 then lI (nxW W a b s0 : Int) else O.2 37 j := fun j => by
      rw [mL_cell (by decide), mL_cell (by decide), mSL_2]
      by_cases q : j = s0
      · rw [if_pos ⟨rfl, q⟩, if_pos q]
      · rw [if_neg (fun w => q w.2), if_neg q]
    have v39 : ∀ j, (mSL (mSL (mSL O 37 s0 (lI (nxW W a b s0 : Int))) 39 (2 * s0) (lI (getW W a b s0 0))) 39 (2 * s0 + 1) (lI (getW W a b s0 1))).2 39 j = if j = 2 * s0 + 1 then lI (getW W a b s0 1) else if j = 2 * s0 then lI (getW W a b s0 0) else O.2 39 j := fun j => by
      rw [mSL_2]
      by_cases q : j = 2 * s0 + 1
      · rw [if_pos ⟨rfl, q⟩, if_pos q]
      · rw [if_neg (fun w => q w.2), if_neg q, mSL_2]
        by_cases q2 : j = 2 * s0
        · rw [if_pos ⟨rfl, q2⟩, if_pos q2]
        · rw [if_neg (fun w => q2 w.2), if_neg q2, mL_cell (by decide)]
    generalize mSL (mSL (mSL O 37 s0 (lI (nxW W a b s0 : Int))) 39 (2 * s0) (lI (getW W a b s0 0))) 39 (2 * s0 + 1) (lI (getW W a b s0 1)) = P at *
    refine wp_some ⟨by omega, iI_succ y, by omega, fP, fun s hs q => ?_, fun s h9 hns => ?_⟩
    · show P.2 37 s = _ ∧ ∀ pe, pe < 2 → P.2 39 (2 * s + pe) = _
      by_cases qs : s = s0
      · rw [qs]
        refine ⟨by rw [v37, if_pos rfl], fun pe hp => ?_⟩
        have hp2 : pe = 0 ∨ pe = 1 := by omega
        rcases hp2 with rfl | rfl
        · rw [v39, if_neg (by omega), if_pos (by omega)]
        · rw [v39, if_pos rfl]
      · obtain ⟨o1, o2⟩ := ov s hs (by omega)
        refine ⟨by rw [v37, if_neg qs, o1], fun pe hp => by rw [v39, if_neg (by omega), if_neg (by omega), o2 pe hp]⟩
    · show P.2 37 s = _
      have qs : s ≠ s0 := fun w => hns ⟨by rw [w]; exact hst, by omega⟩
      rw [v37, if_neg qs]
      exact ou s h9 (fun w => hns ⟨w.1, by omega⟩)
  · obtain ⟨fN, nv, nu⟩ := hN
    unfold F_Pair_look_j171
    refine wp_bind (wp_q (Ψ := fun r => Same (fun k => 35 ≤ k ∧ k ≤ 47) N r) (C_reckon (b := 35) (p := p) (q := q) hC (fun s _ hs => (nv s hs).1) nu (fun s pe hs _ hp => (nv s hs).2 pe hp)) (fun a ha => (wpO_of (T_Chain_reckon 35 _ _ _) ha).mono (fun k hk => by omega))) (fun r6 h6 => wp_some ?_)
    obtain ⟨⟨cI, cs⟩, f6⟩ := h6
    have fT : ∀ j, r6.1 34 j = r5.1 34 j := fun j => ((f6 34 (by omega)).1 j).trans ((fN 34 (by omega)).1 j)
    exact ⟨(cw5.sm fN (fun k q => by omega)).sm f6 (fun k q => by omega), ⟨(fT 2).trans k2, (fT 3).trans k3, (fT 4).trans k4, (fT 5).trans k5⟩, cI, cs⟩
theorem PRS.eqn {W : Nat → Int32} {a b pe : Nat} {p q : Int} {M : Mem} (hA : WOKW W a) (hB : WOKW W b) (h : PRS W a b p q M) (hp : pe < 2) : eqnW (stW W a b) (nxW W a b) (fun s => getW W a b s pe) p q (fun s => uM 35 M s pe) (fun s => dM 35 M s) := fun s hs => by
  obtain ⟨h1, h2, h3, h4, h5, h6⟩ := h.2.2.2 s hs
  exact ⟨h5, nx_st hA hB hs, h3 pe hp⟩
/-- the class's numbers of a pair of moods, without a common part, are the reference's -/
theorem PRS.same {W : Nat → Int32} {a b s pe : Nat} {p q : Int} {M N : Mem} (hA : WOKW W a) (hB : WOKW W b) (p1 : 1 ≤ p) (pq : p < q) (h : PRS W a b p q M) (hs : stW W a b s) (hp : pe < 2) (hw : wOK W a b p q N s pe) : N.2 104 (2 * s + pe) = lI (rU (uM 35 M s pe) (dM 35 M s)) ∧ N.2 105 (2 * s + pe) = lI (rD (uM 35 M s pe) (dM 35 M s)) := by
  obtain ⟨days, c, h1, -, h3, h4, h5, -, -⟩ := hw
  have e := (h.eqn hA hB hp).val (s := s) p1 pq (fun k => by rw [← pth_it]; exact pth_st hA hB hs k) h1 (by rw [← pth_it, ← pth_it]; exact h3)
  have ef : (fun j => getW W a b (pth W a b s j) pe) = (fun k => (fun s => getW W a b s pe) (itN (nxW W a b) s k)) := funext fun k => by
    show getW W a b (pth W a b s k) pe = getW W a b (itN (nxW W a b) s k) pe
    rw [pth_it]
  rw [ef, e] at h4 h5
  exact ⟨h4, h5⟩
theorem C_tell {W : Nat → Int32} {a b x y pe o : Nat} {p q : Int} {M : Mem} (hA : WOKW W a) (hB : WOKW W b) (q2 : 2 ≤ q) (q12 : q ≤ 12) (h : PRS W a b p q M) (hC : chS (stW W a b) (nxW W a b) (getW W a b) p q) (hs : stW W a b (3 * x + y)) (hp : pe < 2) : F_Pair_tellWorth o (iI (x : Int)) (iI (y : Int)) (iI (pe : Int)) M = some (mSL (mSL M o 0 (lI (rU (uM 35 M (3 * x + y) pe) (dM 35 M (3 * x + y))))) o 1 (lI (rD (uM 35 M (3 * x + y) pe) (dM 35 M (3 * x + y))))) := by
  have hs9 := st_lt hA hs
  obtain ⟨h1, h2, h3, h4, h5, h6⟩ := h.2.2.2 _ hs
  have hd := (h.2.2.2 _ hs).d9 hC
  have hb := fb_num q2 q12 (h6 pe hp) (by omega)
  have e35 : 3 * iI (x : Int) + iI (y : Int) = iI ((3 * x + y : Nat) : Int) := by rw [l32n_3, iI_pm, iI_pa]
  unfold F_Pair_tellWorth F_Chain_tellWorth
  rw [e35]
  generalize 3 * x + y = s at *
  have eu : M.2 41 (2 * s + pe) = lI (uM 35 M s pe) := (lI_of _).symm
  have ed : M.2 43 s = lI (dM 35 M s) := (lI_of _).symm
  rw [ix2, V_Row_at (by omega) (by omega) (by decide), bs, V_Row_at (by omega) (by omega) (by decide), bs]
  show ((F_Fraction_be o (M.2 41 (2 * s + pe)) (M.2 43 s) M).bind fun r3 => some r3).bind (fun r1 => some r1) = _
  rw [eu, ed, C_be (by omega) (by omega) h5 (by omega), bs, bs]
