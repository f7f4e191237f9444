/-! ===== lots: the class's walk over the trials, and both sides ===== -/
theorem C_tryTwo {A i j : Nat} {g : Nat → Nat → Int} {X Y : Nat → Int} {v e : Int} {b : Prop} {M : Mem} (a2 : 2 ≤ A) (a3 : A ≤ 3) (hg : ∀ i m, i < 3 → m < 3 → -99 ≤ g i m ∧ g i m ≤ 99) (hT : lTgt A g X Y v e) (hG : lGm A g M) (hij : i < j) (hj : j < A) (hJ : lJ (e * v) (e * l3 X) b M) : wpO (F_Day_tryMixesOfTwo (iI (i : Int)) (iI (j : Int)) M) (fun N => lJ (e * v) (e * l3 X) (b ∨ ∃ m l, m < l ∧ l < A ∧ X = x2F g i j m l) N ∧ Same (fun k => k = 68 ∨ k = 72) M N) := by
  unfold F_Day_tryMixesOfTwo F_Day_tryMixesOfTwo_l2
  refine wp_bind (Ψ := fun N => lJ (e * v) (e * l3 X) (b ∨ ∃ m l, m < l ∧ l < A ∧ X = x2F g i j m l) N ∧ Same (fun k => k = 68 ∨ k = 72) M N) ?_ (fun r hr => wp_some hr)
  refine wp_iterS (P := fun k z => k ≤ A ∧ z.1 = iI (k : Int) ∧ Same (fun k => k = 68 ∨ k = 72) M z.2 ∧ lJ (e * v) (e * l3 X) (b ∨ ∃ m l, m < l ∧ l < A ∧ m < k ∧ X = x2F g i j m l) z.2) A ?_ _ _ ⟨Nat.zero_le _, rfl, Same.rfl', hJ.mono (fun q => q.elim id (fun ⟨m, l, _, _, w, _⟩ => absurd w (Nat.not_lt_zero _)))⟩ (FUEL_big (by omega))
  rintro k ⟨z1, N⟩ hk ⟨kA, e1, f1, j1⟩
  dsimp only at e1 f1 j1
  subst e1
  unfold F_Day_tryMixesOfTwo_b2
  dsimp only
  rw [(hG.sm f1).1]
  refine wp_if (fun c => wp_some ⟨j1.mono ?_, f1⟩) (fun c => ?_)
  · rw [iI_le (by omega) (by omega) (by omega) (by omega)] at c
    rintro (q | ⟨m, l, h1, h2, h3⟩)
    · exact Or.inl q
    · exact Or.inr ⟨m, l, h1, h2, by omega, h3⟩
  rw [iI_le (by omega) (by omega) (by omega) (by omega)] at c
  unfold F_Day_tryMixesOfTwo_l18
  refine wp_bind (Ψ := fun N => Same (fun k => k = 68 ∨ k = 72) M N ∧ lJ (e * v) (e * l3 X) (b ∨ ∃ m l, m < l ∧ l < A ∧ m < k + 1 ∧ X = x2F g i j m l) N) ?_ (fun r hr => wp_some ⟨by omega, by omega, iI_succ k, hr⟩)
  rw [iI_succ]
  refine wp_iterS (P := fun n z => k + 1 + n ≤ A ∧ z.1 = iI ((k + 1 + n : Nat) : Int) ∧ Same (fun k => k = 68 ∨ k = 72) M z.2 ∧ lJ (e * v) (e * l3 X) (b ∨ (∃ m l, m < l ∧ l < A ∧ m < k ∧ X = x2F g i j m l) ∨ ∃ l, k < l ∧ l < k + 1 + n ∧ X = x2F g i j k l) z.2) A ?_ _ _ ⟨by omega, rfl, f1, j1.mono (fun q => by
    rcases q with q | q | ⟨l, h1, h2, -⟩
    · exact Or.inl q
    · exact Or.inr q
    · omega)⟩ (FUEL_big (by omega))
  rintro n ⟨y1, N2⟩ hn ⟨nA, e1, f2, j2⟩
  dsimp only at e1 f2 j2
  subst e1
  have G2 := hG.sm f2
  unfold F_Day_tryMixesOfTwo_b18
  dsimp only
  rw [G2.1]
  refine wp_if (fun c2 => wp_some ⟨f2, j2.mono ?_⟩) (fun c2 => ?_)
  · rw [iI_le (by omega) (by omega) (by omega) (by omega)] at c2
    rintro (q | ⟨m, l, h1, h2, h3, h4⟩)
    · exact Or.inl q
    · by_cases q : m = k
      · subst q
        exact Or.inr (Or.inr ⟨l, h1, by omega, h4⟩)
      · exact Or.inr (Or.inl ⟨m, l, h1, h2, by omega, h4⟩)
  rw [iI_le (by omega) (by omega) (by omega) (by omega)] at c2
  rw [C_game G2 (by omega) (by omega), bs, C_game G2 (by omega) (by omega), bs, C_game G2 (by omega) (by omega), bs, C_game G2 (by omega) (by omega), bs, lI_sub, lI_sub]
  refine wp_bind (C_setW (by omega) (by omega)) (fun N3 h3 => ?_)
  obtain ⟨f3, w3⟩ := h3
  have f3' : Same (fun k => k = 68 ∨ k = 72) M N3 := f2.trans (f3.mono (fun k q => Or.inr q))
  have j3 := j2.cg (funext (f3 68 (by omega)).2)
  have g0 := hg i k (by omega) (by omega)
  have g1 := hg i (k + 1 + n) (by omega) (by omega)
  have g2 := hg j k (by omega) (by omega)
  have g3 := hg j (k + 1 + n) (by omega) (by omega)
  refine wp_bind (C_tryMix (w := x2F g i j k (k + 1 + n)) a2 a3 hg hT (hG.sm f3') (fun t ht => ?_) (fun t ht => ?_) (fun t ht h => ?_) j3) (fun N4 h4 => ?_)
  · rw [w3 t ht]
    unfold x2F
    by_cases q : t = j
    · rw [if_pos q, if_pos q, if_neg (by omega)]
      congr 1
      omega
    · rw [if_neg q, if_neg q, Int.add_zero]
  · unfold x2F
    by_cases q : t = j
    · rw [if_pos q]
      omega
    · rw [if_neg q]
      by_cases q2 : t = i
      · rw [if_pos q2]
        omega
      · rw [if_neg q2]
        omega
  · unfold x2F
    rw [if_neg (by omega), if_neg (by omega)]
  · obtain ⟨j4, f4⟩ := h4
    refine wp_some ⟨by omega, by omega, ?_, f3'.trans (f4.mono (fun k q => Or.inl q)), j4.mono ?_⟩
    · exact iI_succ (k + 1 + n)
    · rintro (q | q | ⟨l, h1, h2, h3⟩)
      · exact Or.inl (Or.inl q)
      · exact Or.inl (Or.inr (Or.inl q))
      · by_cases q : l = k + 1 + n
        · refine Or.inr (fun t _ => ?_)
          rw [h3, q]
        · exact Or.inl (Or.inr (Or.inr ⟨l, h1, by omega, h3⟩))
/-- a cofactor of the class, and their sum -/
def tC (g : Nat → Nat → Int) (a b o : Nat) : Int := g a ((o + 1) % 3) * g b ((o + 2) % 3) - g a ((o + 2) % 3) * g b ((o + 1) % 3)
def tW (g : Nat → Nat → Int) (a b : Nat) : Nat → Int
  | 0 => 0
  | o + 1 => tW g a b o + tC g a b o
theorem tW3 {g : Nat → Nat → Int} {k : Nat} (hk : k < 3) : tW g ((k + 1) % 3) ((k + 2) % 3) 3 = x3F g k := by
  rcases m3c hk with rfl | rfl | rfl
  · show 0 + (g 1 1 * g 2 2 - g 1 2 * g 2 1) + (g 1 2 * g 2 0 - g 1 0 * g 2 2) + (g 1 0 * g 2 1 - g 1 1 * g 2 0) = (g 1 1 * g 2 2 - g 1 2 * g 2 1) - (g 1 0 * g 2 2 - g 1 2 * g 2 0) + (g 1 0 * g 2 1 - g 1 1 * g 2 0)
    grind
  · show 0 + (g 2 1 * g 0 2 - g 2 2 * g 0 1) + (g 2 2 * g 0 0 - g 2 0 * g 0 2) + (g 2 0 * g 0 1 - g 2 1 * g 0 0) = g 0 0 * (g 2 2 - g 2 1) - g 0 1 * (g 2 2 - g 2 0) + g 0 2 * (g 2 1 - g 2 0)
    grind
  · show 0 + (g 0 1 * g 1 2 - g 0 2 * g 1 1) + (g 0 2 * g 1 0 - g 0 0 * g 1 2) + (g 0 0 * g 1 1 - g 0 1 * g 1 0) = (g 0 0 * g 1 1 - g 0 1 * g 1 0) - (g 0 0 * g 1 2 - g 0 2 * g 1 0) + (g 0 1 * g 1 2 - g 0 2 * g 1 1)
    grind
theorem irm3L {k c : Nat} (h : k + c < 100) : irm (iI (k : Int) + iI (c : Int)) 3 = iI (((k + c) % 3 : Nat) : Int) := by
  rw [iI_add, l32_3, irm_iI (by omega) (by omega) (by omega) (by omega)]
  congr 1
theorem C_three {g : Nat → Nat → Int} {M : Mem} (hG : lGm 3 g M) : ∀ {Φ : Mem → Prop}, (∀ N, Same (fun k => k = 72) M N → (∀ k, k < 3 → N.2 72 k = lI (x3F g k)) → wpO (F_Day_tryMix N) Φ) → wpO (F_Day_tryMixOfThree M) Φ := by
  intro Φ K
  unfold F_Day_tryMixOfThree F_Day_tryMixOfThree_l2
  refine wp_bind (Ψ := fun N => Same (fun k => k = 72) M N ∧ ∀ k, k < 3 → N.2 72 k = lI (x3F g k)) ?_ (fun N hN => ?_)
  · refine wp_iterS (P := fun k z => k ≤ 3 ∧ z.1 = iI (k : Int) ∧ Same (fun k => k = 72) M z.2 ∧ ∀ t, t < k → z.2.2 72 t = lI (x3F g t)) 3 ?_ _ _ ⟨Nat.zero_le _, rfl, Same.rfl', fun t ht => absurd ht (Nat.not_lt_zero _)⟩ (FUEL_big (by decide))
    rintro k ⟨z1, N⟩ hk ⟨k3, e1, f1, w1⟩
    dsimp only at e1 f1 w1
    subst e1
    have G1 : lGm 3 g N := hG.sm (f1.mono (fun k q => Or.inr q))
    unfold F_Day_tryMixOfThree_b2
    dsimp only
    refine wp_if (fun c => wp_some ⟨f1, fun t ht => w1 t ?_⟩) (fun c => ?_)
    · rw [l32_3, iI_le (by omega) (by omega) (by omega) (by omega)] at c
      omega
    rw [l32_3, iI_le (by omega) (by omega) (by omega) (by omega)] at c
    have x1 : 3 * irm (iI (k : Int) + 1) 3 = 3 * iI (((k + 1) % 3 : Nat) : Int) := by
      rw [← irm3L (k := k) (c := 1) (by omega)]
      rfl
    have x2 : 3 * irm (iI (k : Int) + 2) 3 = 3 * iI (((k + 2) % 3 : Nat) : Int) := by
      rw [← irm3L (k := k) (c := 2) (by omega)]
      rfl
    rw [x1, x2]
    have k1 : (k + 1) % 3 < 3 := Nat.mod_lt _ (by decide)
    have k2 : (k + 2) % 3 < 3 := Nat.mod_lt _ (by decide)
    unfold F_Day_tryMixOfThree_l29
    refine wp_bind (Ψ := fun r => r = lI (x3F g k)) ?_ (fun r hr => ?_)
    · rw [← tW3 (g := g) (show k < 3 by omega)]
      generalize (k + 1) % 3 = a at *
      generalize (k + 2) % 3 = b at *
      refine wp_iterS (P := fun o z => o ≤ 3 ∧ z.2 = iI (o : Int) ∧ z.1 = lI (tW g a b o)) 3 ?_ _ _ ⟨Nat.zero_le _, rfl, rfl⟩ (FUEL_big (by decide))
      rintro o ⟨y1, y2⟩ ho ⟨o3, e2, e1⟩
      dsimp only at e1 e2
      subst e1
      subst e2
      unfold F_Day_tryMixOfThree_b29
      dsimp only
      refine wp_if (fun c2 => wp_some ?_) (fun c2 => ?_)
      · rw [l32_3, iI_le (by omega) (by omega) (by omega) (by omega)] at c2
        rw [show o = 3 by omega]
      rw [l32_3, iI_le (by omega) (by omega) (by omega) (by omega)] at c2
      have y1 : irm (iI (o : Int) + 1) 3 = iI (((o + 1) % 3 : Nat) : Int) := irm3L (k := o) (c := 1) (by omega)
      have y2 : irm (iI (o : Int) + 2) 3 = iI (((o + 2) % 3 : Nat) : Int) := irm3L (k := o) (c := 2) (by omega)
      have o1 : (o + 1) % 3 < 3 := Nat.mod_lt _ (by decide)
      have o2 : (o + 2) % 3 < 3 := Nat.mod_lt _ (by decide)
      rw [y1, y2, C_game G1 k1 o1, bs, C_game G1 k2 o2, bs, C_game G1 k1 o2, bs, C_game G1 k2 o1, bs, lI_mul, lI_mul, lI_sub, lI_add]
      exact wp_some ⟨by omega, by omega, iI_succ o, rfl⟩
    · unfold F_Day_tryMixOfThree_j109
      rw [hr, V_Row_put (by omega) (by omega) (by decide), bs, show ((k : Nat) : Int).toNat = k from rfl]
      refine wp_some ⟨by omega, by omega, iI_succ k, f1.sL rfl, fun t ht => ?_⟩
      show (mSL N 72 k (lI (x3F g k))).2 72 t = _
      by_cases q : t = k
      · rw [q, mL_hit]
      · rw [mL_ix q]
        exact w1 t (by omega)
  · unfold F_Day_tryMixOfThree_j125
    exact wp_bind (K N hN.1 hN.2) (fun r hr => wp_some hr)
theorem x3_le {g : Nat → Nat → Int} (hg : ∀ i m, i < 3 → m < 3 → -99 ≤ g i m ∧ g i m ≤ 99) : ∀ k, k < 3 → -58806 ≤ x3F g k ∧ x3F g k ≤ 58806 := fun k hk => by
  have m : ∀ a b c d, a < 3 → b < 3 → c < 3 → d < 3 → -(99 * 99) ≤ g a b * g c d ∧ g a b * g c d ≤ 99 * 99 := fun a b c d h1 h2 h3 h4 => mulb (hg a b h1 h2).1 (hg a b h1 h2).2 (hg c d h3 h4).1 (hg c d h3 h4).2
  have t : ∀ a b o, a < 3 → b < 3 → -19602 ≤ tC g a b o ∧ tC g a b o ≤ 19602 := fun a b o ha hb => by
    have o1 : (o + 1) % 3 < 3 := Nat.mod_lt _ (by decide)
    have o2 : (o + 2) % 3 < 3 := Nat.mod_lt _ (by decide)
    have m1 := m a _ b _ ha o1 hb o2
    have m2 := m a _ b _ ha o2 hb o1
    unfold tC
    omega
  have k1 : (k + 1) % 3 < 3 := Nat.mod_lt _ (by decide)
  have k2 : (k + 2) % 3 < 3 := Nat.mod_lt _ (by decide)
  rw [← tW3 hk]
  have t0 := t _ _ 0 k1 k2
  have t1 := t _ _ 1 k1 k2
  have t2 := t _ _ 2 k1 k2
  show -58806 ≤ 0 + tC g ((k + 1) % 3) ((k + 2) % 3) 0 + tC g ((k + 1) % 3) ((k + 2) % 3) 1 + tC g ((k + 1) % 3) ((k + 2) % 3) 2 ∧ 0 + tC g ((k + 1) % 3) ((k + 2) % 3) 0 + tC g ((k + 1) % 3) ((k + 2) % 3) 1 + tC g ((k + 1) % 3) ((k + 2) % 3) 2 ≤ 58806
  omega
theorem rU_oneL {a b c d : Int} (hb : 0 < b) (hd : 0 < d) (h : a * d = c * b) : rU a b = rU c d ∧ rD a b = rD c d := by
  obtain ⟨g1, g2, g3, g4, -, g6⟩ := rUD (a := a) hb
  obtain ⟨k1, k2, k3, k4, -, k6⟩ := rUD (a := c) hd
  have e1 : ∀ x w m n : Int, (x * w) * (m * n) = (x * m) * (w * n) := fun x w m n => by grind
  have e2 : ∀ y z m n : Int, (y * z) * (m * n) = (y * n) * (z * m) := fun y z m n => by grind
  have key : rU a b * rD c d = rU c d * rD a b := by
    have hz : (rU a b * rD c d) * ((Int.gcd a b : Int) * (Int.gcd c d : Int)) = (rU c d * rD a b) * ((Int.gcd a b : Int) * (Int.gcd c d : Int)) := by
      rw [e1, e2 (rU c d) (rD a b), g2, k3, k2, g3]
      exact h
    exact Int.eq_of_mul_eq_mul_right (Int.ne_of_gt (Int.mul_pos g1 k1)) hz
  generalize rU a b = x at *
  generalize rU c d = y at *
  generalize rD a b = z at *
  generalize rD c d = w at *
  have d1 : z.natAbs ∣ w.natAbs := by
    have e : z.natAbs ∣ x.natAbs * w.natAbs := by
      rw [← Int.natAbs_mul, key, Int.natAbs_mul]
      exact Nat.dvd_mul_left _ _
    exact Nat.Coprime.dvd_of_dvd_mul_left (by rw [Nat.Coprime, Nat.gcd_comm]; exact g6) e
  have d2 : w.natAbs ∣ z.natAbs := by
    have e : w.natAbs ∣ y.natAbs * z.natAbs := by
      rw [← Int.natAbs_mul, ← key, Int.natAbs_mul]
      exact Nat.dvd_mul_left _ _
    exact Nat.Coprime.dvd_of_dvd_mul_left (by rw [Nat.Coprime, Nat.gcd_comm]; exact k6) e
  have e := Nat.dvd_antisymm d1 d2
  have e2 : z = w := by omega
  refine ⟨?_, e2⟩
  rw [e2] at key
  exact Int.eq_of_mul_eq_mul_right (by omega) key
theorem C_tellLots {o2 p A : Nat} {u0 d0 : Int} {M : Mem} (hr : relB M) (h : RIW (M.1 95)) (hA : M.1 95 0 = iI (A : Int)) (a2 : 2 ≤ A) (a3 : A ≤ 3) (hp : p < 2) (ht : lTold A (ownW (M.1 95) p) u0 d0) : wpO (F_Day_tellLots o2 (iI (p : Int)) M) (fun N => N.2 o2 0 = lI (rU u0 d0) ∧ N.2 o2 1 = lI (rD u0 d0)) := by
  have f0 : M.1 1 0 = iI (A : Int) := hr.1.trans hA
  have z0 : (0 : Int64) = lI 0 := rfl
  have l1 : (1 : Int64) = lI 1 := rfl
  have hg : ∀ i m, i < 3 → m < 3 → -99 ≤ ownW (M.1 95) p i m ∧ ownW (M.1 95) p i m ≤ 99 := fun i m hi hm => ownW_le h.br hi hm
  obtain ⟨g, eg⟩ : ∃ g, g = ownW (M.1 95) p := ⟨_, rfl⟩
  have ent : ∀ N : Mem, Same (fun k => k = 70) M N → ∀ x y : Nat, x < 3 → y < 3 → F_Well_bringsOwn (iI (p : Int)) (iI (x : Int)) (iI (y : Int)) N = some (iI (g x y)) := fun N f x y hx hy => by
    have e95 : N.1 95 = M.1 95 := funext (f 95 (by omega)).1
    have rb : relB N := ⟨by rw [(f 1 (by omega)).1 0, e95]; exact hr.1, fun j hj => by rw [(f 3 (by omega)).2 j, e95]; exact hr.2 j hj⟩
    rw [C_bringsOwn rb hp hx hy, e95, eg]
  rw [← eg] at ht hg
  clear eg
  unfold F_Day_tellLots F_Day_tellLots_l2
  refine wp_bind (Ψ := fun N => lGm A g N) ?_ (fun N hN => ?_)
  · refine wp_iterS (P := fun k z => k ≤ 9 ∧ z.1 = iI (k : Int) ∧ Same (fun k => k = 70) M z.2 ∧ ∀ t, t < k → z.2.2 70 t = lI (g (t / 3) (t % 3))) 9 ?_ _ _ ⟨Nat.zero_le _, rfl, Same.rfl', fun t ht => absurd ht (Nat.not_lt_zero _)⟩ (FUEL_big (by decide))
    rintro k ⟨z1, N⟩ hk ⟨k9, e1, f1, w1⟩
    dsimp only at e1 f1 w1
    subst e1
    unfold F_Day_tellLots_b2
    dsimp only
    refine wp_if (fun c => wp_some ⟨((f1 1 (by omega)).1 0).trans f0, fun a x ha hx => ?_⟩) (fun c => ?_)
    · rw [show (9 : Int32) = iI 9 from rfl, iI_le (by omega) (by omega) (by omega) (by omega)] at c
      rw [w1 _ (by omega), show (3 * a + x) / 3 = a by omega, show (3 * a + x) % 3 = x by omega]
    rw [show (9 : Int32) = iI 9 from rfl, iI_le (by omega) (by omega) (by omega) (by omega)] at c
    have e1 : iI (k : Int) / 3 = iI ((k / 3 : Nat) : Int) := by
      rw [l32_3, idiv_iI (by omega) (by omega) (by omega) (by omega)]
      congr 1
    have e2 : irm (iI (k : Int)) 3 = iI ((k % 3 : Nat) : Int) := by
      rw [l32_3, irm_iI (by omega) (by omega) (by omega) (by omega)]
      congr 1
    have hb := hg (k / 3) (k % 3) (by omega) (by omega)
    rw [e1, e2, ent N f1 _ _ (by omega) (by omega), bs, iI_l (by omega) (by omega), V_Row_put (by omega) (by omega) (by decide), bs, show ((k : Nat) : Int).toNat = k from rfl]
    refine wp_some ⟨by omega, by omega, iI_succ k, f1.sL rfl, fun t ht => ?_⟩
    show (mSL N 70 k _).2 70 t = _
    by_cases q : t = k
    · rw [q, mL_hit]
    · rw [mL_ix q]
      exact w1 t (by omega)
  obtain ⟨X, Y, v, way, e, he, hpos, hc, rfl, rfl⟩ := ht
  obtain ⟨sXY, sz⟩ := way.sum a3
  have hT : lTgt A g X Y v e := ⟨he, hpos, sXY, sz, hc⟩
  have hG0 : lGm A g (mSL N 68 4 0) := ⟨hN.1, fun k x hk hx => (mL_cell (by decide)).trans (hN.2 k x hk hx)⟩
  have J0 : lJ (e * v) (e * l3 X) False (mSL N 68 4 0) := ⟨(N.2 68 3).toInt, 0, by rw [mL_ix (by decide), lI_of], mL_hit, by decide, fun q => absurd rfl q, fun q => q.elim⟩
  generalize mSL N 68 4 0 = N0 at *
  unfold F_Day_tellLots_l44
  refine wp_bind (Ψ := fun N => Same (fun k => k = 68 ∨ k = 72) N0 N ∧ lJ (e * v) (e * l3 X) ((∃ i, i < A ∧ X = x1F i) ∨ ∃ i j m l, i < j ∧ j < A ∧ m < l ∧ l < A ∧ X = x2F g i j m l) N) ?_ (fun N hN => ?_)
  · refine wp_iterS (P := fun k z => k ≤ A ∧ z.1 = iI (k : Int) ∧ Same (fun k => k = 68 ∨ k = 72) N0 z.2 ∧ lJ (e * v) (e * l3 X) ((∃ i, i < k ∧ X = x1F i) ∨ ∃ i j m l, i < k ∧ i < j ∧ j < A ∧ m < l ∧ l < A ∧ X = x2F g i j m l) z.2) A ?_ _ _ ⟨Nat.zero_le _, rfl, Same.rfl', J0.mono (fun q => by
      rcases q with ⟨i, h, -⟩ | ⟨i, j, m, l, h, -⟩
      · exact absurd h (Nat.not_lt_zero _)
      · exact absurd h (Nat.not_lt_zero _))⟩ (FUEL_big (by omega))
    rintro k ⟨z1, N1⟩ hk ⟨kA, e1, f1, j1⟩
    dsimp only at e1 f1 j1
    subst e1
    unfold F_Day_tellLots_b44
    dsimp only
    rw [(hG0.sm f1).1]
    refine wp_if (fun c => wp_some ⟨f1, j1.mono ?_⟩) (fun c => ?_)
    · rw [iI_le (by omega) (by omega) (by omega) (by omega)] at c
      rintro (⟨i, h1, h2⟩ | ⟨i, j, m, l, h1, h2⟩)
      · exact Or.inl ⟨i, by omega, h2⟩
      · exact Or.inr ⟨i, j, m, l, by omega, h1, h2⟩
    rw [iI_le (by omega) (by omega) (by omega) (by omega)] at c
    rw [l1, z0]
    refine wp_bind (C_setW (by omega) (by omega)) (fun N2 h2 => ?_)
    obtain ⟨f2, w2⟩ := h2
    have f2' : Same (fun k => k = 68 ∨ k = 72) N0 N2 := f1.trans (f2.mono (fun k q => Or.inr q))
    have j2 := j1.cg (funext (f2 68 (by omega)).2)
    refine wp_bind (C_tryMix (w := x1F k) a2 a3 hg hT (hG0.sm f2') (fun t ht => ?_) (fun t ht => ?_) (fun t ht h => ?_) j2) (fun N3 h3 => ?_)
    · rw [w2 t ht]
      unfold x1F
      by_cases q : t = k
      · rw [if_pos q, if_pos q] <;> rfl
      · rw [if_neg q, if_neg q] <;> rfl
    · unfold x1F
      by_cases q : t = k
      · rw [if_pos q]
        decide
      · rw [if_neg q]
        decide
    · unfold x1F
      rw [if_neg (by omega)]
    obtain ⟨j3, f3⟩ := h3
    have f3' := f2'.trans (f3.mono (fun k q => Or.inl q))
    unfold F_Day_tellLots_l72
    refine wp_bind (Ψ := fun N => Same (fun k => k = 68 ∨ k = 72) N0 N ∧ lJ (e * v) (e * l3 X) ((∃ i, i < k + 1 ∧ X = x1F i) ∨ ∃ i j m l, i < k + 1 ∧ i < j ∧ j < A ∧ m < l ∧ l < A ∧ X = x2F g i j m l) N) ?_ (fun r hr => wp_some ⟨by omega, by omega, iI_succ k, hr⟩)
    rw [iI_succ]
    refine wp_iterS (P := fun n z => k + 1 + n ≤ A ∧ z.1 = iI ((k + 1 + n : Nat) : Int) ∧ Same (fun k => k = 68 ∨ k = 72) N0 z.2 ∧ lJ (e * v) (e * l3 X) (((∃ i, i < k ∧ X = x1F i) ∨ ∃ i j m l, i < k ∧ i < j ∧ j < A ∧ m < l ∧ l < A ∧ X = x2F g i j m l) ∨ X = x1F k ∨ ∃ j m l, k < j ∧ j < k + 1 + n ∧ m < l ∧ l < A ∧ X = x2F g k j m l) z.2) A ?_ _ _ ⟨by omega, rfl, f3', j3.mono (fun q => by
      rcases q with q | q | ⟨j, m, l, h1, h2, -⟩
      · exact Or.inl q
      · refine Or.inr (fun t _ => ?_)
        rw [q]
      · omega)⟩ (FUEL_big (by omega))
    rintro n ⟨y1, N4⟩ hn ⟨nA, e1, f4, j4⟩
    dsimp only at e1 f4 j4
    subst e1
    unfold F_Day_tellLots_b72
    dsimp only
    rw [(hG0.sm f4).1]
    refine wp_if (fun c2 => wp_some ⟨f4, j4.mono ?_⟩) (fun c2 => ?_)
    · rw [iI_le (by omega) (by omega) (by omega) (by omega)] at c2
      rintro (⟨i, h1, h2⟩ | ⟨i, j, m, l, h1, h2, h3, h4, h5, h6⟩)
      · by_cases q : i = k
        · exact Or.inr (Or.inl (by rw [h2, q]))
        · exact Or.inl (Or.inl ⟨i, by omega, h2⟩)
      · by_cases q : i = k
        · subst q
          exact Or.inr (Or.inr ⟨j, m, l, h2, by omega, h4, h5, h6⟩)
        · exact Or.inl (Or.inr ⟨i, j, m, l, by omega, h2, h3, h4, h5, h6⟩)
    rw [iI_le (by omega) (by omega) (by omega) (by omega)] at c2
    refine wp_bind (C_tryTwo a2 a3 hg hT (hG0.sm f4) (show k < k + 1 + n by omega) (by omega) j4) (fun N5 h5 => ?_)
    obtain ⟨j5, f5⟩ := h5
    refine wp_some ⟨by omega, by omega, iI_succ (k + 1 + n), f4.trans f5, j5.mono ?_⟩
    rintro (q | q | ⟨j, m, l, h1, h2, h3, h4, h5⟩)
    · exact Or.inl (Or.inl q)
    · exact Or.inl (Or.inr (Or.inl q))
    · by_cases q : j = k + 1 + n
      · subst q
        exact Or.inr ⟨m, l, h3, h4, h5⟩
      · exact Or.inl (Or.inr (Or.inr ⟨j, m, l, h1, by omega, h3, h4, h5⟩))
  obtain ⟨fN, jN⟩ := hN
  have fin : ∀ L : Mem, lJ (e * v) (e * l3 X) True L → wpO (F_Day_tellLots_j118 o2 L) (fun N => N.2 o2 0 = lI (rU (e * v) (e * l3 X)) ∧ N.2 o2 1 = lI (rD (e * v) (e * l3 X))) := by
    rintro L ⟨u, d, h1, h2, h3, h4, h5⟩
    obtain ⟨h6, h7⟩ := h5 trivial
    obtain ⟨h8, h9⟩ := h4 (by omega)
    unfold F_Day_tellLots_j118
    rw [h1, h2, C_be (by omega) (by omega) h6 (by omega), bs]
    obtain ⟨t1, t2⟩ := rU_oneL (a := u) (b := d) (c := e * v) (d := e * l3 X) h6 hpos (by omega)
    rw [t1, t2]
    refine wp_some ⟨?_, mL_hit⟩
    rw [mL_ix (by decide), mL_hit]
  unfold F_Day_tellLots_j103
  rw [(hG0.sm fN).1]
  refine wp_if (fun c => ?_) (fun c => fin N (jN.mono (fun _ => ?_)))
  · rw [l32_3, iI_eq (by omega) (by omega) (by omega) (by omega)] at c
    have A3 : A = 3 := by omega
    subst A3
    refine wp_bind (Ψ := fun L => lJ (e * v) (e * l3 X) True L) (C_three (hG0.sm fN) (fun L fL wL => ?_)) (fun L hL => fin L hL)
    have jL := jN.cg (funext (fL 68 (by omega)).2)
    refine wp_mono (C_tryMix (w := x3F g) a2 a3 hg hT ((hG0.sm fN).sm (fL.mono (fun k q => Or.inr q))) wL (x3_le hg) (fun t ht h => absurd h (by omega)) jL) (fun L2 h2 => h2.1.mono (fun _ => ?_))
    rcases way with ⟨i, m, h1, -, h2, -⟩ | ⟨i, j, m, l, h1, h2, h3, h4, h5, -⟩ | ⟨-, h2, -⟩
    · exact Or.inl (Or.inl ⟨i, h1, h2⟩)
    · exact Or.inl (Or.inr ⟨i, j, m, l, h1, h2, h3, h4, h5⟩)
    · refine Or.inr (fun k _ => ?_)
      rw [h2]
  · rw [l32_3, iI_eq (by omega) (by omega) (by omega) (by omega)] at c
    rcases way with ⟨i, m, h1, -, h2, -⟩ | ⟨i, j, m, l, h1, h2, h3, h4, h5, -⟩ | ⟨h1, -⟩
    · exact Or.inl ⟨i, h1, h2⟩
    · exact Or.inr ⟨i, j, m, l, h1, h2, h3, h4, h5⟩
    · omega
theorem V_lots {x1 x2 : Int32} {M : Mem} (h : RS M) : wpO (F_LAW_lots x1 x2 M) (fun r1 => wpO (F_MO_lots x1 x2 r1.2) (fun r2 => RS r2.2 ∧ r2.2.1 94 0 = r1.1 ∧ (r1.1 = 0 → r2.2.2 121 0 = r2.1))) := by
  obtain ⟨r1, e1, r2, e2, rs⟩ := G_lots (x1 := x1) (x2 := x2) h
  refine ⟨r1, e1, r2, e2, rs, ?_⟩
  obtain ⟨A, hA, a2, a3⟩ := h.1.1.actN
  have t := wpO_of (T_LAW_lots x1 x2 M) e1
  have q := Q_MO_lots x1 x2 r1.2 r2 e2
  have w : r1.2.1 95 = M.1 95 := funext (t 95 (by omega)).1
  have n := wpO_of (N_lotsV (x1 := x1) (x2 := x2) (M := r1.2) (by rw [w]; exact h.1.1) (by rw [w]; exact hA) a2 a3) e2
  have o := (q 121 0 (by omega)).2
  rw [w] at n
  unfold F_LAW_lots F_KW_lots at e1
  by_cases c : 0 ≤ x1 ∧ x1 ≤ 1
  · rcases n with ⟨b1, b2, b3⟩ | ⟨b1, b2⟩
    · have c2 := c
      rw [le_i, le_i, li0, li1] at c2
      obtain ⟨p, rfl, hp⟩ := iI_of_le (n := 1) c.1 c2.2
      obtain ⟨u, d, k1, k2⟩ := b3 p rfl (by omega)
      rw [S_person_ok c, xb_inr] at e1
      obtain ⟨N, eN, k3, k4⟩ := C_tellLots (o2 := 93) h.2.1.1.relB h.1.1 hA a2 a3 (show p < 2 by omega) k1
      rw [eN, bs] at e1
      unfold F_Fraction_part at e1
      by_cases cx : x2 = 0
      · rw [if_pos cx, bs, hb_inr, if_pos ib01] at e1
        cases e1
        refine ⟨b2, fun _ => ?_⟩
        rw [o, k2, if_pos cx]
        show (mSL N 121 _ _).2 121 0 = _
        rw [tn0, mL_hit]
        exact k3
      · rw [if_neg cx, bs, hb_inr, if_pos ib01] at e1
        cases e1
        refine ⟨b2, fun _ => ?_⟩
        rw [o, k2, if_neg cx]
        show (mSL N 121 _ _).2 121 0 = _
        rw [tn0, mL_hit]
        exact k4
    · exact absurd c b1
  · rcases n with ⟨b1, -⟩ | ⟨b1, b2⟩
    · exact absurd b1 c
    · rw [S_person_no c, xb_inl, hb_inl, if_pos rfl] at e1
      cases e1
      exact ⟨b2, fun z => absurd (show (1 : Int32) = 0 from z) (by decide)⟩
