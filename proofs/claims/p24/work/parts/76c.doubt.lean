/-! ===== doubt: the class's four equations, their determinants ===== -/
theorem C_fillDoubts {W : Nat → Int32} {a b : Nat} {p q f e : Int} {M : Mem} (cw : CW W M) (h2 : M.1 34 2 = iI (a : Int)) (h3 : M.1 34 3 = iI (b : Int)) (h4 : M.1 34 4 = iI (mo W a : Int)) (h5 : M.1 34 5 = iI (mo W b : Int)) (ha : (a : Int) < (W 5).toInt) (hb : (b : Int) < (W 5).toInt) (ma : mo W a ≤ 2) (mb : mo W b ≤ 2) (da : ∀ m, m < mo W a → dz W a m ≤ 1) (db : ∀ m, m < mo W b → dz W b m ≤ 1) (hP : M.1 1 1 = iI p) (hQ : M.1 1 2 = iI q) (hE : M.1 1 3 = iI e) (hF : M.1 1 4 = iI f) (p0 : 0 ≤ p) (p9 : p ≤ 9) (q0 : 0 ≤ q) (q9 : q ≤ 9) (e1 : 0 ≤ e) (e2 : e < f) (f9 : f ≤ 9) : wpO (F_Pair_fillDoubts M) (fun N => Same (fun k => k = 49 ∨ k = 51) M N ∧ (∀ s k, s < 4 → k < 4 → N.2 49 (4 * s + k) = lI (CMt W a b p q f e s k)) ∧ ∀ s pe, s < 4 → pe < 2 → N.2 51 (2 * s + pe) = lI (BMt W a b q f s pe)) := by
  have kA := cw.wk ha
  have kB := cw.wk hb
  have mA := kA.moK
  have mB := kB.moK
  have l2 : (2 : Int32) = iI 2 := rfl
  have l4 : (4 : Int32) = iI 4 := rfl
  have z0 : (0 : Int64) = lI 0 := rfl
  have z1 : (1 : Int64) = lI 1 := rfl
  unfold F_Pair_fillDoubts
  refine wp_bind (T_Row_setAllQ 49 16 0 M) (fun r1 h1 => ?_)
  obtain ⟨f1, c1⟩ := h1
  refine wp_bind (T_Row_setAllQ 51 8 0 r1) (fun r2 h2' => ?_)
  obtain ⟨f2, c2⟩ := h2'
  have sm2 : Same (fun k => k = 49 ∨ k = 51) M r2 := (f1.mono (fun k hk => Or.inl hk)).trans (f2.mono (fun k hk => Or.inr hk))
  have v49 : ∀ j, j < 16 → r2.2 49 j = lI 0 := fun j hj => by
    rw [(f2 49 (by decide)).2 j, c1 j hj (by decide)]
    rfl
  have v51 : ∀ j, j < 8 → r2.2 51 j = lI 0 := fun j hj => by
    rw [c2 j hj (by decide)]
    rfl
  unfold F_Pair_fillDoubts_l18
  refine wp_bind (Ψ := fun N => Same (fun k => k = 49 ∨ k = 51) M N ∧ (∀ s k, s < 4 → k < 4 → N.2 49 (4 * s + k) = lI (CMt W a b p q f e s k)) ∧ ∀ s pe, s < 4 → pe < 2 → N.2 51 (2 * s + pe) = lI (BMt W a b q f s pe)) ?_ (fun N hN => wp_some hN)
  refine wp_iterS (P := fun (t : Nat) (z : Int32 × Mem) => z.1 = iI (t : Int) ∧ t ≤ 4 ∧ Same (fun k => k = 49 ∨ k = 51) M z.2 ∧ (∀ s k, s < 4 → k < 4 → z.2.2 49 (4 * s + k) = lI (if s < t then CMt W a b p q f e s k else 0)) ∧ ∀ s pe, s < 4 → pe < 2 → z.2.2 51 (2 * s + pe) = lI (if s < t then BMt W a b q f s pe else 0)) 4 ?_ FUEL (0, r2) ⟨rfl, by decide, sm2, fun s k hs hk => by rw [v49 _ (by omega), if_neg (Nat.not_lt_zero s)], fun s pe hs hp => by rw [v51 _ (by omega), if_neg (Nat.not_lt_zero s)]⟩ (FUEL_big (by decide))
  rintro t ⟨y1, N⟩ ht ⟨i1, -, fN, n49, n51⟩
  dsimp only at i1 fN n49 n51
  subst i1
  have eN : ∀ k j, k < 40 → N.1 k j = M.1 k j := fun k j hk => (fN k (by omega)).1 j
  unfold F_Pair_fillDoubts_b18
  dsimp only
  rw [l4]
  refine wp_if (fun c => wp_some ⟨fN, fun s k hs hk => ?_, fun s pe hs hp => ?_⟩) (fun c => ?_)
  · rw [iI_le (by omega) (by omega) (by omega) (by omega)] at c
    rw [n49 s k hs hk, if_pos (by omega)]
  · rw [iI_le (by omega) (by omega) (by omega) (by omega)] at c
    rw [n51 s pe hs hp, if_pos (by omega)]
  rw [iI_le (by omega) (by omega) (by omega) (by omega)] at c
  have t4 : t < 4 := by omega
  have ed : iI (t : Int) / 2 = iI ((t / 2 : Nat) : Int) := idivN (A := 2) (by omega) (by decide)
  have em : irm (iI (t : Int)) 2 = iI ((t % 2 : Nat) : Int) := irmN (A := 2) (by omega) (by decide)
  have unreal : ¬ realP W a b t → wpO (F_Pair_fillDoubts_j57 (iI (t : Int)) N) (sumP (fun z => t < 4 ∧ z.1 = iI ((t + 1 : Nat) : Int) ∧ t + 1 ≤ 4 ∧ Same (fun k => k = 49 ∨ k = 51) M z.2 ∧ (∀ s k, s < 4 → k < 4 → z.2.2 49 (4 * s + k) = lI (if s < t + 1 then CMt W a b p q f e s k else 0)) ∧ ∀ s pe, s < 4 → pe < 2 → z.2.2 51 (2 * s + pe) = lI (if s < t + 1 then BMt W a b q f s pe else 0)) (fun N => Same (fun k => k = 49 ∨ k = 51) M N ∧ (∀ s k, s < 4 → k < 4 → N.2 49 (4 * s + k) = lI (CMt W a b p q f e s k)) ∧ ∀ s pe, s < 4 → pe < 2 → N.2 51 (2 * s + pe) = lI (BMt W a b q f s pe))) := by
    intro nr
    have E5 : 5 * iI (t : Int) = iI ((5 * t : Nat) : Int) := by rw [show (5 : Int32) = iI ((5 : Nat) : Int) from rfl, iI_pm]
    unfold F_Pair_fillDoubts_j57
    rw [E5, V_Row_put (by omega) (by omega) (by decide), bs, show ((5 * t : Nat) : Int).toNat = 5 * t from rfl, z1]
    refine wp_some ⟨t4, iI_succ t, by omega, fN.sL (Or.inl rfl), fun s k hs hk => ?_, fun s pe hs hp => ?_⟩
    · show (mSL N 49 (5 * t) (lI 1)).2 49 (4 * s + k) = _
      by_cases qs : s = t
      · rw [if_pos (by omega), qs, CMt_f nr]
        by_cases qk : t = k
        · rw [if_pos qk, ← qk, show 4 * t + t = 5 * t by omega, mL_hit]
        · rw [if_neg qk, mL_ix (by omega), n49 t k t4 hk, if_neg (Nat.lt_irrefl t)]
      · rw [mL_ix (by omega), n49 s k hs hk]
        by_cases q2 : s < t
        · rw [if_pos q2, if_pos (by omega)]
        · rw [if_neg q2, if_neg (by omega)]
    · show (mSL N 49 (5 * t) (lI 1)).2 51 (2 * s + pe) = _
      rw [mL_cell (by decide), n51 s pe hs hp]
      by_cases qs : s = t
      · rw [qs, if_neg (Nat.lt_irrefl t), if_pos (by omega), BMt_f nr]
      · by_cases q2 : s < t
        · rw [if_pos q2, if_pos (by omega)]
        · rw [if_neg q2, if_neg (by omega)]
  rw [eN 34 4 (by decide), h4, eN 34 5 (by decide), h5, ed, em]
  refine wp_if (fun c2 => unreal ?_) (fun c2 => wp_if (fun c3 => unreal ?_) (fun c3 => ?_))
  · rw [iI_le (by omega) (by omega) (by omega) (by omega)] at c2
    exact fun w => by
      have := w.1
      omega
  · rw [iI_le (by omega) (by omega) (by omega) (by omega)] at c3
    exact fun w => by
      have := w.2
      omega
  rw [iI_le (by omega) (by omega) (by omega) (by omega)] at c2 c3
  have rl : realP W a b t := ⟨by omega, by omega⟩
  refine wp_bind (C_fillDoubt (M := N) (x := t / 2) (y := t % 2) (cw.sm fN (fun k q => by omega)) ((eN 34 2 (by decide)).trans h2) ((eN 34 3 (by decide)).trans h3) ha hb rl.1 rl.2 (da _ rl.1) (db _ rl.2) (fun v hv => by have := (kA.gzK rl.1 (show v < 3 by omega)).1; omega) (fun u hu => by have := (kB.gzK rl.2 (show u < 3 by omega)).1; omega) t4 ((eN 1 1 (by decide)).trans hP) ((eN 1 2 (by decide)).trans hQ) ((eN 1 3 (by decide)).trans hE) ((eN 1 4 (by decide)).trans hF) p0 p9 q0 q9 e1 e2 f9 (fun k hk => by rw [n49 t k t4 hk, if_neg (Nat.lt_irrefl t)])) (fun O hO => ?_)
  obtain ⟨o1, oC, o51, oF⟩ := hO
  refine wp_some ⟨t4, iI_succ t, by omega, fN.trans (fun k hk => ⟨fun j => by rw [o1], fun j => oF k j (fun w => hk (Or.inl w.1)) (fun w => hk (Or.inr w.1))⟩), fun s k hs hk => ?_, fun s pe hs hp => ?_⟩
  · show O.2 49 (4 * s + k) = _
    by_cases qs : s = t
    · rw [if_pos (by omega), qs, CMt_t rl]
      exact oC k hk
    · rw [oF 49 _ (by omega) (by omega), n49 s k hs hk]
      by_cases q2 : s < t
      · rw [if_pos q2, if_pos (by omega)]
      · rw [if_neg q2, if_neg (by omega)]
  · show O.2 51 (2 * s + pe) = _
    by_cases qs : s = t
    · rw [if_pos (by omega), qs, BMt_t rl]
      exact o51 pe hp
    · rw [oF 51 _ (by omega) (by omega), n51 s pe hs hp]
      by_cases q2 : s < t
      · rw [if_pos q2, if_pos (by omega)]
      · rw [if_neg q2, if_neg (by omega)]
def m3C (C : Nat → Int) (x y z : Nat) : Int := C (x + 1) * (C (y + 2) * C (z + 3) - C (y + 3) * C (z + 2)) - C (x + 2) * (C (y + 1) * C (z + 3) - C (y + 3) * C (z + 1)) + C (x + 3) * (C (y + 1) * C (z + 2) - C (y + 2) * C (z + 1))
theorem C_j36 {C : Nat → Int} {x y z : Nat} {x1 x2 x3 s0 s1 : Int32} {M : Mem} (hC : ∀ t, t < 16 → M.2 49 t = lI (C t)) (hx : x ≤ 12) (hy : y ≤ 12) (hz : z ≤ 12) (ex : x2 = iI (x : Int)) (ey : x3 = iI (y : Int)) (ez : s0 * s1 = iI (z : Int)) : F_Pair_cofactorOf_j36 x1 x2 x3 s0 s1 M = some (if (irm x1 2) = 0 then lI (m3C C x y z) else lI (-(m3C C x y z))) := by
  have A1 : ∀ t : Nat, t ≤ 12 → F_Row_at 49 16 (iI (t : Int) + 1) M = some (lI (C (t + 1))) := fun t ht => by
    rw [iI_succ, V_Row_at (by omega) (by omega) (by decide), show ((t + 1 : Nat) : Int).toNat = t + 1 from rfl, hC _ (by omega)]
  have A2 : ∀ t : Nat, t ≤ 12 → F_Row_at 49 16 (iI (t : Int) + 2) M = some (lI (C (t + 2))) := fun t ht => by
    rw [l32n_2, iI_pa, V_Row_at (by omega) (by omega) (by decide), show ((t + 2 : Nat) : Int).toNat = t + 2 from rfl, hC _ (by omega)]
  have A3 : ∀ t : Nat, t ≤ 12 → F_Row_at 49 16 (iI (t : Int) + 3) M = some (lI (C (t + 3))) := fun t ht => by
    rw [l32n_3, iI_pa, V_Row_at (by omega) (by omega) (by decide), show ((t + 3 : Nat) : Int).toNat = t + 3 from rfl, hC _ (by omega)]
  unfold F_Pair_cofactorOf_j36
  rw [ex, ey, ez, A1 x hx, bs, A2 y hy, bs, A3 z hz, bs, A3 y hy, bs, A2 z hz, bs, A2 x hx, bs, A1 y hy, bs, bs, bs, A1 z hz, bs, A3 x hx, bs, bs, bs, bs, bs]
  have e : ((lI (C (x + 1)) * ((lI (C (y + 2)) * lI (C (z + 3))) - (lI (C (y + 3)) * lI (C (z + 2))))) - (lI (C (x + 2)) * ((lI (C (y + 1)) * lI (C (z + 3))) - (lI (C (y + 3)) * lI (C (z + 1)))))) + (lI (C (x + 3)) * ((lI (C (y + 1)) * lI (C (z + 2))) - (lI (C (y + 2)) * lI (C (z + 1))))) = lI (m3C C x y z) := by
    rw [lI_mul, lI_mul, lI_sub, lI_mul, lI_mul, lI_mul, lI_sub, lI_mul, lI_sub, lI_mul, lI_mul, lI_sub, lI_mul, lI_add]
    rfl
  rw [e]
  by_cases c : irm x1 2 = 0
  · rw [if_pos c, if_pos c]
  · rw [if_neg c, if_neg c, lI_neg]
def cofI (C : Nat → Int) (k : Nat) : Int := if k = 0 then m3C C 4 8 12 else if k = 1 then -(m3C C 0 8 12) else if k = 2 then m3C C 0 4 12 else -(m3C C 0 4 8)
theorem C_cof {C : Nat → Int} {k : Nat} {M : Mem} (hC : ∀ t, t < 16 → M.2 49 t = lI (C t)) (hk : k < 4) : F_Pair_cofactorOf (iI (k : Int)) M = some (lI (cofI C k)) := by
  have k4 : k = 0 ∨ k = 1 ∨ k = 2 ∨ k = 3 := by omega
  unfold F_Pair_cofactorOf
  rcases k4 with rfl | rfl | rfl | rfl
  · rw [if_pos (by decide)]
    unfold F_Pair_cofactorOf_j10
    rw [if_neg (by decide)]
    unfold F_Pair_cofactorOf_j23
    rw [if_neg (by decide), C_j36 (x := 4) (y := 8) (z := 12) hC (by decide) (by decide) (by decide) (by decide) (by decide) (by decide), if_pos (by decide)]
    rfl
  · rw [if_neg (by decide)]
    unfold F_Pair_cofactorOf_j10
    rw [if_neg (by decide)]
    unfold F_Pair_cofactorOf_j23
    rw [if_neg (by decide), C_j36 (x := 0) (y := 8) (z := 12) hC (by decide) (by decide) (by decide) (by decide) (by decide) (by decide), if_neg (by decide)]
    rfl
  · rw [if_neg (by decide)]
    unfold F_Pair_cofactorOf_j10
    rw [if_pos (by decide)]
    unfold F_Pair_cofactorOf_j23
    rw [if_neg (by decide), C_j36 (x := 0) (y := 4) (z := 12) hC (by decide) (by decide) (by decide) (by decide) (by decide) (by decide), if_pos (by decide)]
    rfl
  · rw [if_neg (by decide)]
    unfold F_Pair_cofactorOf_j10
    rw [if_pos (by decide)]
    unfold F_Pair_cofactorOf_j23
    rw [if_pos (by decide), C_j36 (x := 0) (y := 4) (z := 8) hC (by decide) (by decide) (by decide) (by decide) (by decide) (by decide), if_neg (by decide)]
    rfl
/-- the sums over the first column -/
theorem C_sum13 {C : Nat → Int} {B : Nat → Int} {pe o : Nat} {x2 : Int32} {M : Mem} (hC : ∀ t, t < 16 → M.2 49 t = lI (C t)) (hp : pe < 2) (hB : ∀ s, s < 4 → M.2 51 (2 * s + pe) = lI (B s)) : wpO (iter (F_Pair_tellDoubted_b13 o (iI (pe : Int)) x2 M) FUEL (0, 0, 0)) (fun r => r.1 = lI (sumN (fun i => B i * cofI C i) 4) ∧ r.2 = lI (sumN (fun i => C (4 * i) * cofI C i) 4)) := by
  refine wp_iterS (P := fun (k : Nat) (z : Int64 × Int64 × Int32) => z.1 = lI (sumN (fun i => B i * cofI C i) k) ∧ z.2.1 = lI (sumN (fun i => C (4 * i) * cofI C i) k) ∧ z.2.2 = iI (k : Int) ∧ k ≤ 4) 4 ?_ FUEL (0, 0, 0) ⟨rfl, rfl, rfl, by decide⟩ (FUEL_big (by decide))
  rintro k ⟨z1, z2, z3⟩ hk ⟨e1, e2, e3, k4⟩
  dsimp only at e1 e2 e3
  subst e1
  subst e2
  subst e3
  unfold F_Pair_tellDoubted_b13
  dsimp only
  have l4 : (4 : Int32) = iI 4 := rfl
  rw [l4]
  refine wp_if (fun c => ?_) (fun c => ?_)
  · rw [iI_le (by omega) (by omega) (by omega) (by omega)] at c
    have ek : k = 4 := by omega
    subst ek
    exact wp_some ⟨rfl, rfl⟩
  rw [iI_le (by omega) (by omega) (by omega) (by omega)] at c
  have E4 : iI 4 * iI (k : Int) = iI ((4 * k : Nat) : Int) := by rw [← l4, l32n_4, iI_pm]
  rw [C_cof hC (by omega), bs, ix2, V_Row_at (by omega) (by omega) (by decide), bs, show ((2 * k + pe : Nat) : Int).toNat = 2 * k + pe from rfl, hB k (by omega), E4, V_Row_at (by omega) (by omega) (by decide), bs, show ((4 * k : Nat) : Int).toNat = 4 * k from rfl, hC _ (by omega), lI_mul, lI_add, lI_mul, lI_add]
  exact wp_some ⟨by omega, rfl, rfl, iI_succ k, by omega⟩
theorem sum_D4 {C : Nat → Int} : sumN (fun i => C (4 * i) * cofI C i) 4 = D4 C := by
  show 0 + C 0 * (m3C C 4 8 12) + C 4 * -(m3C C 0 8 12) + C 8 * (m3C C 0 4 12) + C 12 * -(m3C C 0 4 8) = D4 C
  unfold D4
  show 0 + C 0 * (m3C C 4 8 12) + C 4 * -(m3C C 0 8 12) + C 8 * (m3C C 0 4 12) + C 12 * -(m3C C 0 4 8) = C 0 * (m3C C 4 8 12) - C 4 * (m3C C 0 8 12) + C 8 * (m3C C 0 4 12) - C 12 * (m3C C 0 4 8)
  rw [Int.mul_neg, Int.mul_neg]
  omega
/-- the first column put in place of another -/
def colB (C B : Nat → Int) (t : Nat) : Int := if t % 4 = 0 then B (t / 4) else C t
theorem sum_D4B {C B : Nat → Int} : sumN (fun i => B i * cofI C i) 4 = D4 (colB C B) := by
  rw [← sum_D4]
  rfl
