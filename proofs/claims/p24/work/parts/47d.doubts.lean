/-! ===== the reference's doubted worth, walked ===== -/
theorem lrm_any (x : Int64) {y : Int64} (hy : 0 < y.toInt) : (lrm x y).toInt = x.toInt.tmod y.toInt := by
  have hx := l_lo x
  have hx2 := l_hi x
  have hy2 := l_hi y
  have hne : y ≠ -1 := by
    intro q
    rw [q] at hy
    exact absurd hy (by decide)
  have h5 : (x.toInt.tdiv y.toInt).natAbs ≤ x.toInt.natAbs := by
    rw [Int.natAbs_tdiv]
    exact Nat.div_le_self _ _
  have e : x / y = lI (x.toInt.tdiv y.toInt) := by
    rw [← lI_of (x / y), Int64.toInt_div_of_ne_right _ _ hne]
  have hm := Int.mul_tdiv_add_tmod x.toInt y.toInt
  have e2 : lrm x y = lI (x.toInt.tmod y.toInt) := by
    unfold lrm
    rw [e]
    have e3 : x - lI (x.toInt.tdiv y.toInt) * y = lI x.toInt - lI (x.toInt.tdiv y.toInt) * lI y.toInt := by rw [lI_of, lI_of]
    rw [e3, lI_mul, lI_sub]
    congr 1
    rw [Int.mul_comm]
    omega
  have h6 : (x.toInt.tmod y.toInt).natAbs < y.toInt.natAbs := by
    rw [Int.natAbs_tmod]
    exact Nat.mod_lt _ (by omega)
  rw [e2, lI_toInt (by omega) (by omega)]
theorem N_commonAny {x y : Int64} (h0 : ¬ y.toInt = 0) (h1 : ¬ y.toInt = -9223372036854775808) (M : Mem) : wpO (F_MO_common x y M) (fun r => ¬ r = 0) := by
  have hlo := l_lo y
  have hhi := l_hi y
  have z0 : (0 : Int64).toInt = 0 := by decide
  have ay : F_Math_abs y M = some (lI (y.toInt.natAbs : Int)) := by
    have h := N_abs (a := y.toInt) (by omega) (by omega) M
    rw [lI_of] at h
    exact h
  unfold F_MO_common
  refine wp_bind (T_Math_abs x M) (fun r1 _ => ?_)
  rw [ay, bs]
  unfold F_MO_common_l12
  refine wp_bind (Ψ := fun r => ¬ r = 0) ?_ (fun r hr => wp_some hr)
  refine wp_while (P := fun z => z.2.toInt ≤ 0 → ¬ z.1 = 0) (μ := fun z => z.2.toInt.toNat) ?_ FUEL _ (fun q => ?_) (FUEL_big (by
    have := l_hi (lI (y.toInt.natAbs : Int))
    dsimp only
    omega))
  · rintro ⟨z1, z2⟩ hz
    dsimp only at hz
    unfold F_MO_common_b12
    dsimp only
    refine wp_if (fun c => wp_some (hz ?_)) (fun c => ?_)
    · rw [le_l, z0] at c
      exact c
    · rw [le_l, z0] at c
      have hne : ¬ z2 = 0 := by
        intro q
        rw [q, z0] at c
        omega
      refine wp_t hne (wp_some ⟨fun _ => hne, ?_⟩)
      show (lrm z1 z2).toInt.toNat < z2.toInt.toNat
      rw [lrm_any z1 (by omega)]
      have := Int.tmod_lt_of_pos z1.toInt (b := z2.toInt) (by omega)
      omega
  · exfalso
    rw [lI_toInt (by omega) (by omega)] at q
    omega
theorem N_tellsAny {x : Int64} {b : Int} (h0 : 0 < b) (h1 : b < 9223372036854775808) (M : Mem) : wpO (F_MO_tells x (lI b) M) (fun _ => True) := by
  have l0 : (0 : Int64) = lI 0 := rfl
  have l1 : (1 : Int64) = lI 1 := rfl
  have eb : (lI b).toInt = b := lI_toInt (by omega) (by omega)
  unfold F_MO_tells
  rw [if_pos (by rw [l0, lI_le] <;> omega)]
  unfold F_MO_tells_j13
  refine wp_bind (N_commonAny (y := lI b) (by omega) (by omega) M) (fun r hr => ?_)
  have e : r * 1 = r := by rw [← lI_of r, l1, lI_mul, Int.mul_one]
  rw [e]
  exact wp_t hr (wp_t hr (wp_some trivial))
def rowT (N : Mem) (all s : Nat) (P q f W : Int) : Prop := ∃ T : Nat → Int, (∀ k, 0 ≤ T k) ∧ (∀ k, all ≤ k → T k = 0) ∧ T 0 + T 1 + T 2 + T 3 = W ∧ ∀ k, k < all → N.2 110 (4 * s + k) = lI ((if s = k then q * f * f else 0) - P * T k)
theorem rowT.add {N : Mem} {all s to : Nat} {P q f W w : Int} (h : rowT N all s P q f W) (hto : to < all) (h4 : all ≤ 4) (hw : 0 ≤ w) : rowT (mSL N 110 (4 * s + to) (N.2 110 (4 * s + to) - lI (P * w))) all s P q f (W + w) := by
  obtain ⟨T, t1, t2, t3, t4⟩ := h
  refine ⟨fun k => if k = to then T k + w else T k, fun k => ?_, fun k hk => ?_, ?_, fun k hk => ?_⟩
  · dsimp only
    have := t1 k
    by_cases q : k = to
    · rw [if_pos q]
      omega
    · rw [if_neg q]
      omega
  · dsimp only
    rw [if_neg (by omega)]
    exact t2 k hk
  · dsimp only
    have ht : to = 0 ∨ to = 1 ∨ to = 2 ∨ to = 3 := by omega
    rcases ht with rfl | rfl | rfl | rfl
    · rw [if_pos rfl, if_neg (by decide), if_neg (by decide), if_neg (by decide)]
      omega
    · rw [if_neg (by decide), if_pos rfl, if_neg (by decide), if_neg (by decide)]
      omega
    · rw [if_neg (by decide), if_neg (by decide), if_pos rfl, if_neg (by decide)]
      omega
    · rw [if_neg (by decide), if_neg (by decide), if_neg (by decide), if_pos rfl]
      omega
  · dsimp only
    by_cases q : k = to
    · rw [if_pos q, q, mL_hit, t4 to hto, lI_sub, Int.mul_add]
      congr 1
      omega
    · rw [if_neg q, mL_ix (by omega)]
      exact t4 k hk
theorem rowT.off {N : Mem} {all s s2 i : Nat} {P q f W : Int} {v : Int64} (h : rowT N all s2 P q f W) (h4 : all ≤ 4) (hs : s2 < s) (hi : 4 * s ≤ i) : rowT (mSL N 110 i v) all s2 P q f W := by
  obtain ⟨T, t1, t2, t3, t4⟩ := h
  refine ⟨T, t1, t2, t3, fun k hk => ?_⟩
  rw [mL_ix (by omega)]
  exact t4 k hk
theorem rowT.w {N : Mem} {all s : Nat} {P q f W W2 : Int} (h : rowT N all s P q f W) (e : W = W2) : rowT N all s P q f W2 := e ▸ h
theorem one_sub {d : Nat} (h : d ≤ 1) : 1 - iI (d : Int) = iI ((1 - d : Nat) : Int) := by
  rw [l32_1, iI_sub]
  congr 1
  omega
theorem N_doubts {a b : Nat} {P q f e : Int} {M : Mem} (ha : a ≤ 8) (hb : b ≤ 8) (hA : WOKW (M.1 95) a) (hB : WOKW (M.1 95) b) (a2 : mo (M.1 95) a ≤ 2) (b2 : mo (M.1 95) b ≤ 2) (hd1 : ∀ m, m < mo (M.1 95) a → dz (M.1 95) a m ≤ 1) (hd2 : ∀ m, m < mo (M.1 95) b → dz (M.1 95) b m ≤ 1) (hF : M.1 95 4 = iI f) (hE : M.1 95 3 = iI e) (hP : M.1 94 19 = iI P) (hQ : M.1 94 20 = iI q) (e1 : 0 ≤ e) (e2 : e < f) (f9 : f ≤ 9) (p1 : 1 ≤ P) (p2 : P < q) (q9 : q ≤ 9) : wpO (F_MO_doubts (iI (a : Int)) (iI (b : Int)) M) (fun N => N.1 = M.1 ∧ ∀ s, s < mo (M.1 95) a * mo (M.1 95) b → rowT N (mo (M.1 95) a * mo (M.1 95) b) s P q f (f * f)) := by
  have n1 := hB.moK.1
  have h4 : mo (M.1 95) a * mo (M.1 95) b ≤ 2 * 2 := Nat.mul_le_mul a2 b2
  have nA : F_MO_moodsOf (iI (a : Int)) M = some (iI (mo (M.1 95) a : Int)) := N_moods ha hA
  have nB : F_MO_moodsOf (iI (b : Int)) M = some (iI (mo (M.1 95) b : Int)) := N_moods hb hB
  unfold F_MO_doubts
  refine wp_t ib4 (wp_t ib3 ?_)
  simp only [tn3, tn4]
  rw [nB, bs, nA, bs, hF, hE, iI_l (by omega) (by omega), iI_l (by omega) (by omega), iI_mulN]
  have hdiv : ∀ s, s < mo (M.1 95) a * mo (M.1 95) b → s / mo (M.1 95) b < mo (M.1 95) a ∧ s % mo (M.1 95) b < mo (M.1 95) b := fun s hs => ⟨Nat.div_lt_of_lt_mul (by rw [Nat.mul_comm]; exact hs), Nat.mod_lt _ (by omega)⟩
  generalize hall : mo (M.1 95) a * mo (M.1 95) b = all at *
  generalize hnb : mo (M.1 95) b = n at *
  have l0 : (0 : Int32) = iI 0 := rfl
  have z0 : (0 : Int64) = lI 0 := rfl
  have hne : ¬ iI (n : Int) = 0 := by rw [l0, iI_eq] <;> omega
  unfold F_MO_doubts_l37
  refine wp_bind (Ψ := fun N => N.1 = M.1 ∧ ∀ s, s < all → rowT N all s P q f (f * f)) ?_ (fun r hr => wp_some hr)
  refine wp_iterS (P := fun s z => z.1 = iI (s : Int) ∧ z.2.1 = M.1 ∧ ∀ s2, s2 < s → rowT z.2 all s2 P q f (f * f)) all ?_ _ _ ⟨rfl, rfl, fun s2 h => absurd h (Nat.not_lt_zero _)⟩ (FUEL_big (by omega))
  rintro s ⟨z1, N⟩ hs ⟨i1, m1, m2⟩
  dsimp only at i1 m1 m2
  subst i1
  unfold F_MO_doubts_b37
  dsimp only
  refine wp_if (fun c => wp_some ⟨m1, fun s2 h => m2 s2 ?_⟩) (fun c => ?_)
  · rw [iI_le (by omega) (by omega) (by omega) (by omega)] at c
    omega
  rw [iI_le (by omega) (by omega) (by omega) (by omega)] at c
  have e4 : ∀ k : Nat, (4 * iI (s : Int)) + iI (k : Int) = iI ((4 * s + k : Nat) : Int) := fun k => by
    rw [l32_4, iI_mul, iI_add]
    rfl
  unfold F_MO_doubts_l47
  refine wp_bind (Ψ := fun N => N.1 = M.1 ∧ (∀ s2, s2 < s → rowT N all s2 P q f (f * f)) ∧ rowT N all s P q f 0) ?_ (fun N2 h2 => ?_)
  · refine wp_iterS (P := fun k z => z.1 = iI (k : Int) ∧ z.2.1 = M.1 ∧ (∀ s2, s2 < s → rowT z.2 all s2 P q f (f * f)) ∧ ∀ j, j < k → z.2.2 110 (4 * s + j) = lI (if s = j then q * f * f else 0)) all ?_ _ _ ⟨rfl, m1, m2, fun j h => absurd h (Nat.not_lt_zero _)⟩ (FUEL_big (by omega))
    rintro k ⟨z1, N2⟩ hk ⟨i1, o1, o2, o3⟩
    dsimp only at i1 o1 o2 o3
    subst i1
    unfold F_MO_doubts_b47
    dsimp only
    refine wp_if (fun c2 => wp_some ⟨o1, o2, fun _ => 0, fun _ => Int.le_refl _, fun _ _ => rfl, rfl, fun j hj => ?_⟩) (fun c2 => ?_)
    · rw [iI_le (by omega) (by omega) (by omega) (by omega)] at c2
      rw [o3 j (by omega), Int.mul_zero, Int.sub_zero]
    rw [iI_le (by omega) (by omega) (by omega) (by omega)] at c2
    rw [e4]
    have i16 : inb (iI ((4 * s + k : Nat) : Int)) 16 := inb_iI (by omega) (by omega) (by omega)
    have put : ∀ v : Int, v = (if s = k then q * f * f else 0) → wpO (some (Sum.inl (iI (k : Int) + 1, mSL N2 110 (iI ((4 * s + k : Nat) : Int)).toNatClampNeg (lI v))) : Option ((Int32 × Mem) ⊕ Mem)) (sumP (fun s' => k < all ∧ s'.1 = iI ((k + 1 : Nat) : Int) ∧ s'.2.1 = M.1 ∧ (∀ s2, s2 < s → rowT s'.2 all s2 P q f (f * f)) ∧ ∀ j, j < k + 1 → s'.2.2 110 (4 * s + j) = lI (if s = j then q * f * f else 0)) (fun N => N.1 = M.1 ∧ (∀ s2, s2 < s → rowT N all s2 P q f (f * f)) ∧ rowT N all s P q f 0)) := by
      intro v hv
      rw [clN (by omega)]
      refine wp_some ⟨by omega, iI_succ k, o1, fun s2 h => (o2 s2 h).off (by omega) h (by omega), fun j hj => ?_⟩
      show (mSL N2 110 (4 * s + k) (lI v)).2 110 (4 * s + j) = _
      by_cases qj : j = k
      · rw [qj, mL_hit, hv]
      · rw [mL_ix (by omega)]
        exact o3 j (by omega)
    refine wp_if (fun c3 => wp_t i16 ?_) (fun c3 => wp_t i16 ?_)
    · rw [iI_eq (by omega) (by omega) (by omega) (by omega)] at c3
      rw [o1, hQ, iI_l (by omega) (by omega), lI_mul, lI_mul]
      exact put _ (by rw [if_pos (by omega)])
    · rw [iI_eq (by omega) (by omega) (by omega) (by omega)] at c3
      rw [z0]
      exact put _ (by rw [if_neg (by omega)])
  obtain ⟨o1, o2, o3⟩ := h2
  obtain ⟨d1, d2⟩ := hdiv s (by omega)
  have o95 : N2.1 95 = M.1 95 := by rw [o1]
  unfold F_MO_doubts_j92
  rw [idivN (by omega) (by omega), irmN (by omega) (by omega)]
  refine wp_t hne ?_
  rw [N_doesW (M := N2) ha (by rw [o95]; exact hA) (by rw [o95]; exact d1), bs]
  refine wp_t hne ?_
  rw [N_doesW (M := N2) hb (by rw [o95]; exact hB) (by rw [o95, hnb]; exact d2), bs, o95]
  have x1 := hd1 _ d1
  have y1 := hd2 _ d2
  generalize hx : dz (M.1 95) a (s / n) = x at *
  generalize hy : dz (M.1 95) b (s % n) = y at *
  unfold F_MO_doubts_l119
  refine wp_bind (Ψ := fun N => N.1 = M.1 ∧ (∀ s2, s2 < s → rowT N all s2 P q f (f * f)) ∧ rowT N all s P q f (f * f)) ?_ (fun N3 h3 => wp_some ⟨by omega, iI_succ s, h3.1, fun s2 h => ?_⟩)
  · -- one step: where it goes, its weight
    have go : ∀ (k : Nat) (N3 : Mem) (W u v : Int) (yy xx : Nat) (w1 w2 : Int64), N3.1 = M.1 → (∀ s2, s2 < s → rowT N3 all s2 P q f (f * f)) → rowT N3 all s P q f W → yy ≤ 1 → xx ≤ 1 → 0 ≤ u → 0 ≤ v → w1 = lI u → w2 = lI v → ∃ to : Nat, to < all ∧ F_MO_goes (iI (a : Int)) (iI ((s / n : Nat) : Int)) (iI (yy : Int)) N3 = some (iI (gz (M.1 95) a (s / n) yy : Int)) ∧ F_MO_goes (iI (b : Int)) (iI ((s % n : Nat) : Int)) (iI (xx : Int)) N3 = some (iI (gz (M.1 95) b (s % n) xx : Int)) ∧ (4 * iI (s : Int)) + ((iI (n : Int) * iI (gz (M.1 95) a (s / n) yy : Int)) + iI (gz (M.1 95) b (s % n) xx : Int)) = iI ((4 * s + to : Nat) : Int) ∧ (mSL N3 110 (4 * s + to) (N3.2 110 (4 * s + to) - (((N3.1 94 19).toInt64 * w1) * w2))).1 = M.1 ∧ (∀ s2, s2 < s → rowT (mSL N3 110 (4 * s + to) (N3.2 110 (4 * s + to) - (((N3.1 94 19).toInt64 * w1) * w2))) all s2 P q f (f * f)) ∧ rowT (mSL N3 110 (4 * s + to) (N3.2 110 (4 * s + to) - (((N3.1 94 19).toInt64 * w1) * w2))) all s P q f (W + u * v) := by
      intro k N3 W u v yy xx w1 w2 r1 r2 r3 hyy hxx hu hv hw1 hw2
      have r95 : N3.1 95 = M.1 95 := by rw [r1]
      have ga := (hA.gzK (m := s / n) (s := yy) d1 (by omega)).1
      have gb := (hB.gzK (m := s % n) (s := xx) (by omega) (by omega)).1
      rw [hnb] at gb
      have hto : n * gz (M.1 95) a (s / n) yy + gz (M.1 95) b (s % n) xx < all := by
        have q1 : n * (gz (M.1 95) a (s / n) yy + 1) ≤ n * mo (M.1 95) a := Nat.mul_le_mul_left _ ga
        rw [Nat.mul_add, Nat.mul_one, Nat.mul_comm n (mo (M.1 95) a), hall] at q1
        omega
      refine ⟨n * gz (M.1 95) a (s / n) yy + gz (M.1 95) b (s % n) xx, hto, ?_, ?_, ?_, r1, fun s2 h => (r2 s2 h).off (by omega) h (by omega), ?_⟩
      · rw [N_goesW (M := N3) ha (by rw [r95]; exact hA) (by rw [r95]; exact d1) (by omega), r95]
      · rw [N_goesW (M := N3) hb (by rw [r95]; exact hB) (by rw [r95, hnb]; exact d2) (by omega), r95]
      · rw [iI_mulN, iI_add, l32_4, iI_mul, iI_add]
        rfl
      · rw [r1, hP, iI_l (by omega) (by omega), hw1, hw2, lI_mul, lI_mul, Int.mul_assoc]
        exact r3.add hto (by omega) (Int.mul_nonneg hu hv)
    have fe : lI f - lI e = lI (f - e) := lI_sub f e
    refine wp_iterS (P := fun k z => z.1 = iI (k : Int) ∧ z.2.1 = M.1 ∧ (∀ s2, s2 < s → rowT z.2 all s2 P q f (f * f)) ∧ rowT z.2 all s P q f (if k = 0 then 0 else if k = 1 then (f - e) * (f - e) else if k = 2 then (f - e) * (f - e) + e * (f - e) else if k = 3 then (f - e) * (f - e) + e * (f - e) + (f - e) * e else (f - e) * (f - e) + e * (f - e) + (f - e) * e + e * e)) 4 ?_ _ _ ⟨rfl, o1, o2, o3⟩ (FUEL_big (by decide))
    rintro k ⟨z1, N3⟩ hk ⟨i1, r1, r2, r3⟩
    dsimp only at i1 r1 r2 r3
    subst i1
    unfold F_MO_doubts_b119
    dsimp only
    have hk5 : k = 0 ∨ k = 1 ∨ k = 2 ∨ k = 3 ∨ k = 4 := by omega
    rcases hk5 with rfl | rfl | rfl | rfl | rfl
    · obtain ⟨to, g1, g2, g3, g4, g5, g6, g7⟩ := go 0 N3 _ (f - e) (f - e) y x (lI f - lI e) (lI f - lI e) r1 r2 r3 (by omega) (by omega) (by omega) (by omega) fe fe
      have i16 : inb (iI ((4 * s + to : Nat) : Int)) 16 := inb_iI (by omega) (by omega) (by omega)
      refine wp_f (by decide) (wp_t hne (wp_f (by decide) ?_))
      unfold F_MO_doubts_j151
      rw [idivN (by omega) (by omega), g2, bs]
      refine wp_t hne (wp_f (by decide) ?_)
      unfold F_MO_doubts_j179
      rw [irmN (by omega) (by omega), g3, bs, g4]
      refine wp_t i16 (wp_f (by decide) ?_)
      unfold F_MO_doubts_j220
      simp only [clN (n := 4 * s + to) (by omega)]
      refine wp_f (by decide) (wp_t i16 (wp_some ⟨by decide, iI_succ 0, g5, g6, ?_⟩))
      refine g7.w ?_
      simp only [Nat.reduceAdd, Nat.reduceEqDiff, if_true, if_false]
      omega
    · obtain ⟨to, g1, g2, g3, g4, g5, g6, g7⟩ := go 1 N3 _ e (f - e) (1 - y) x (lI e) (lI f - lI e) r1 r2 r3 (by omega) (by omega) (by omega) (by omega) rfl fe
      have i16 : inb (iI ((4 * s + to : Nat) : Int)) 16 := inb_iI (by omega) (by omega) (by omega)
      refine wp_f (by decide) (wp_t hne (wp_t (by decide) ?_))
      unfold F_MO_doubts_j151
      rw [idivN (by omega) (by omega), one_sub y1, g2, bs]
      refine wp_t hne (wp_f (by decide) ?_)
      unfold F_MO_doubts_j179
      rw [irmN (by omega) (by omega), g3, bs, g4]
      refine wp_t i16 (wp_t (by decide) ?_)
      unfold F_MO_doubts_j220
      simp only [clN (n := 4 * s + to) (by omega)]
      refine wp_f (by decide) (wp_t i16 (wp_some ⟨by decide, iI_succ 1, g5, g6, ?_⟩))
      refine g7.w ?_
      simp only [Nat.reduceAdd, Nat.reduceEqDiff, if_true, if_false]
    · obtain ⟨to, g1, g2, g3, g4, g5, g6, g7⟩ := go 2 N3 _ (f - e) e y (1 - x) (lI f - lI e) (lI e) r1 r2 r3 (by omega) (by omega) (by omega) (by omega) fe rfl
      have i16 : inb (iI ((4 * s + to : Nat) : Int)) 16 := inb_iI (by omega) (by omega) (by omega)
      refine wp_f (by decide) (wp_t hne (wp_f (by decide) ?_))
      unfold F_MO_doubts_j151
      rw [idivN (by omega) (by omega), g2, bs]
      refine wp_t hne (wp_t (by decide) ?_)
      unfold F_MO_doubts_j179
      rw [irmN (by omega) (by omega), one_sub x1, g3, bs, g4]
      refine wp_t i16 (wp_f (by decide) ?_)
      unfold F_MO_doubts_j220
      simp only [clN (n := 4 * s + to) (by omega)]
      refine wp_t (by decide) (wp_t i16 (wp_some ⟨by decide, iI_succ 2, g5, g6, ?_⟩))
      refine g7.w ?_
      simp only [Nat.reduceAdd, Nat.reduceEqDiff, if_true, if_false]
    · obtain ⟨to, g1, g2, g3, g4, g5, g6, g7⟩ := go 3 N3 _ e e (1 - y) (1 - x) (lI e) (lI e) r1 r2 r3 (by omega) (by omega) (by omega) (by omega) rfl rfl
      have i16 : inb (iI ((4 * s + to : Nat) : Int)) 16 := inb_iI (by omega) (by omega) (by omega)
      refine wp_f (by decide) (wp_t hne (wp_t (by decide) ?_))
      unfold F_MO_doubts_j151
      rw [idivN (by omega) (by omega), one_sub y1, g2, bs]
      refine wp_t hne (wp_t (by decide) ?_)
      unfold F_MO_doubts_j179
      rw [irmN (by omega) (by omega), one_sub x1, g3, bs, g4]
      refine wp_t i16 (wp_t (by decide) ?_)
      unfold F_MO_doubts_j220
      simp only [clN (n := 4 * s + to) (by omega)]
      refine wp_t (by decide) (wp_t i16 (wp_some ⟨by decide, iI_succ 3, g5, g6, ?_⟩))
      refine g7.w ?_
      simp only [Nat.reduceAdd, Nat.reduceEqDiff, if_true, if_false]
    · refine wp_t (by decide) (wp_some ⟨r1, r2, r3.w ?_⟩)
      simp only [Nat.reduceEqDiff, if_false]
      grind
  · by_cases qs : s2 = s
    · rw [qs]
      exact h3.2.2
    · exact h3.2.1 s2 (by omega)
/-! the call -/
theorem rowT.vals {N : Mem} {all s : Nat} {P q f : Int} (h : rowT N all s P q f (f * f)) (h4 : all ≤ 4) (f1 : 1 ≤ f) (f9 : f ≤ 9) (p1 : 1 ≤ P) (p2 : P < q) (q9 : q ≤ 9) : ∃ T : Nat → Int, (∀ k, 0 ≤ T k) ∧ (∀ k, all ≤ k → T k = 0) ∧ T 0 + T 1 + T 2 + T 3 = f * f ∧ ∀ k, k < all → (N.2 110 (4 * s + k)).toInt = (if s = k then q * f * f else 0) - P * T k ∧ 0 ≤ P * T k ∧ P * T k ≤ P * (f * f) := by
  obtain ⟨T, t1, t2, t3, t4⟩ := h
  have ff := mulb (a := f) (b := f) (m := 9) (n := 9) (by omega) (by omega) (by omega) (by omega)
  have pf := mulb (a := P) (b := f * f) (m := 9) (n := 81) (by omega) (by omega) (by omega) (by omega)
  have qf := mulb (a := q) (b := f * f) (m := 9) (n := 81) (by omega) (by omega) (by omega) (by omega)
  have eq1 : q * f * f = q * (f * f) := Int.mul_assoc _ _ _
  refine ⟨T, t1, t2, t3, fun k hk => ?_⟩
  have hT : T k ≤ f * f := by
    have h0 := t1 0
    have h1 := t1 1
    have h2 := t1 2
    have h3 := t1 3
    have hk4 : k = 0 ∨ k = 1 ∨ k = 2 ∨ k = 3 := by omega
    rcases hk4 with rfl | rfl | rfl | rfl <;> omega
  have m1 : 0 ≤ P * T k := Int.mul_nonneg (by omega) (t1 k)
  have m2 : P * T k ≤ P * (f * f) := Int.mul_le_mul_of_nonneg_left hT (by omega)
  refine ⟨?_, m1, m2⟩
  rw [t4 k hk]
  by_cases q2 : s = k
  · rw [if_pos q2, lI_toInt (by omega) (by omega)]
  · rw [if_neg q2, lI_toInt (by omega) (by omega)]
theorem qPf {P q f : Int} (f1 : 1 ≤ f) (f9 : f ≤ 9) (p1 : 1 ≤ P) (p2 : P < q) (q9 : q ≤ 9) : 1 ≤ q * f * f - P * (f * f) ∧ q * f * f ≤ 729 ∧ 0 ≤ P * (f * f) ∧ P * (f * f) ≤ 729 := by
  have ff := mulb (a := f) (b := f) (m := 9) (n := 9) (by omega) (by omega) (by omega) (by omega)
  have f2 : 1 * 1 ≤ f * f := Int.mul_le_mul f1 f1 (by omega) (by omega)
  have e : q * f * f - P * (f * f) = (q - P) * (f * f) := by grind
  have m1 : 1 * 1 ≤ (q - P) * (f * f) := Int.mul_le_mul (by omega) (by omega) (by omega) (by omega)
  have qf := mulb (a := q) (b := f * f) (m := 9) (n := 81) (by omega) (by omega) (by omega) (by omega)
  have pf := mulb (a := P) (b := f * f) (m := 9) (n := 81) (by omega) (by omega) (by omega) (by omega)
  have eq1 : q * f * f = q * (f * f) := Int.mul_assoc _ _ _
  have p0 : 0 ≤ P * (f * f) := Int.mul_nonneg (by omega) (by omega)
  omega
theorem detPos {N : Mem} {all : Nat} {P q f : Int} (hn : all = 1 ∨ all = 2 ∨ all = 4) (h : ∀ s, s < all → rowT N all s P q f (f * f)) (f1 : 1 ≤ f) (f9 : f ≤ 9) (p1 : 1 ≤ P) (p2 : P < q) (q9 : q ≤ 9) : 0 < detF (fun t => (N.2 110 t).toInt) all ∧ sqB (fun t => (N.2 110 t).toInt) all 729 := by
  obtain ⟨g1, g2, g3, g4⟩ := qPf f1 f9 p1 p2 q9
  refine ⟨?_, fun i hi => ?_⟩
  · rcases hn with rfl | rfl | rfl
    · obtain ⟨T, t1, t2, t3, t4⟩ := (h 0 (by decide)).vals (by decide) f1 f9 p1 p2 q9
      obtain ⟨v0, v1, v2⟩ := t4 0 (by decide)
      rw [if_pos rfl] at v0
      rw [det1]
      show 0 < (N.2 110 (4 * 0 + 0)).toInt
      omega
    · obtain ⟨T, t1, t2, t3, t4⟩ := (h 0 (by decide)).vals (by decide) f1 f9 p1 p2 q9
      obtain ⟨S, s1, s2, s3, s4⟩ := (h 1 (by decide)).vals (by decide) f1 f9 p1 p2 q9
      have v0 := t4 0 (by decide)
      have v1 := t4 1 (by decide)
      have u0 := s4 0 (by decide)
      have u1 := s4 1 (by decide)
      simp only [if_true, Nat.reduceMul, Nat.reduceAdd, Nat.reduceEqDiff, if_false] at v0 v1 u0 u1
      have e1 : P * (T 0 + T 1 + T 2 + T 3) = P * T 0 + P * T 1 + P * T 2 + P * T 3 := by grind
      have e2 : P * (S 0 + S 1 + S 2 + S 3) = P * S 0 + P * S 1 + P * S 2 + P * S 3 := by grind
      rw [t3, t2 2 (by decide), t2 3 (by decide), Int.mul_zero] at e1
      rw [s3, s2 2 (by decide), s2 3 (by decide), Int.mul_zero] at e2
      rw [det2]
      refine pos2 ?_ ?_ ?_ ?_
      · show (N.2 110 1).toInt ≤ 0
        omega
      · show (N.2 110 4).toInt ≤ 0
        omega
      · show 0 < (N.2 110 0).toInt + (N.2 110 1).toInt
        omega
      · show 0 < (N.2 110 4).toInt + (N.2 110 5).toInt
        omega
    · obtain ⟨T, t1, t2, t3, t4⟩ := (h 0 (by decide)).vals (by decide) f1 f9 p1 p2 q9
      obtain ⟨S, s1, s2, s3, s4⟩ := (h 1 (by decide)).vals (by decide) f1 f9 p1 p2 q9
      obtain ⟨U, u1, u2, u3, u4⟩ := (h 2 (by decide)).vals (by decide) f1 f9 p1 p2 q9
      obtain ⟨V, v1, v2, v3, v4⟩ := (h 3 (by decide)).vals (by decide) f1 f9 p1 p2 q9
      have a0 := t4 0 (by decide)
      have a1 := t4 1 (by decide)
      have a2 := t4 2 (by decide)
      have a3 := t4 3 (by decide)
      have b0 := s4 0 (by decide)
      have b1 := s4 1 (by decide)
      have b2 := s4 2 (by decide)
      have b3 := s4 3 (by decide)
      have c0 := u4 0 (by decide)
      have c1 := u4 1 (by decide)
      have c2 := u4 2 (by decide)
      have c3 := u4 3 (by decide)
      have d0 := v4 0 (by decide)
      have d1 := v4 1 (by decide)
      have d2 := v4 2 (by decide)
      have d3 := v4 3 (by decide)
      simp only [if_true, Nat.reduceMul, Nat.reduceAdd, Nat.reduceEqDiff, if_false] at a0 a1 a2 a3 b0 b1 b2 b3 c0 c1 c2 c3 d0 d1 d2 d3
      have e1 : P * (T 0 + T 1 + T 2 + T 3) = P * T 0 + P * T 1 + P * T 2 + P * T 3 := by grind
      have e2 : P * (S 0 + S 1 + S 2 + S 3) = P * S 0 + P * S 1 + P * S 2 + P * S 3 := by grind
      have e3 : P * (U 0 + U 1 + U 2 + U 3) = P * U 0 + P * U 1 + P * U 2 + P * U 3 := by grind
      have e4 : P * (V 0 + V 1 + V 2 + V 3) = P * V 0 + P * V 1 + P * V 2 + P * V 3 := by grind
      rw [t3] at e1
      rw [s3] at e2
      rw [u3] at e3
      rw [v3] at e4
      rw [det4]
      refine pos4 ?_ ?_ ?_ ?_ ?_ ?_ ?_ ?_ ?_ ?_ ?_ ?_ ?_ ?_ ?_ ?_ <;> omega
  · obtain ⟨T, t1, t2, t3, t4⟩ := (h i hi).vals (by omega) f1 f9 p1 p2 q9
    have key : ∀ j, j < all → -729 ≤ (N.2 110 (4 * i + j)).toInt ∧ (N.2 110 (4 * i + j)).toInt ≤ 729 := by
      intro j hj
      obtain ⟨v0, v1, v2⟩ := t4 j hj
      by_cases qi : i = j
      · rw [if_pos qi] at v0
        omega
      · rw [if_neg qi] at v0
        omega
    exact ⟨key 0 (by omega), fun j _ hj => key j hj⟩
theorem E_doubt {x1 x2 x3 x4 x5 : Int32} {M : Mem} (h : RIW (M.1 95)) : wpO (F_MO_doubt x1 x2 x3 x4 x5 M) (fun _ => True) := by
  have h0 : RIW ((mSI M 94 0 0).1 95) := h
  have bad2 : ∀ s : Bool, s = true → wpO (F_MO_doubt_j82 x1 x2 x3 x4 x5 s (mSI M 94 0 0)) (fun _ => True) := by
    intro s hs
    subst hs
    unfold F_MO_doubt_j82
    exact wp_thr (fun _ => thr_t (wp_some trivial)) (fun q => nomatch q)
  have bad : wpO (F_MO_doubt_j34 x1 x2 x3 x4 x5 true (mSI M 94 0 0)) (fun _ => True) := by
    unfold F_MO_doubt_j34
    exact wp_thr (fun _ => thr_t (wp_some trivial)) (fun q => nomatch q)
  unfold F_MO_doubt
  refine wp_noWay h0 (wp_tt bad) (fun a e1 ha => wp_ff ?_)
  refine wp_noWay h0 (wp_tt bad) (fun b e2 hb => wp_ff ?_)
  refine wp_noPerson (wp_tt bad) (fun p e3 hp => wp_ff ?_)
  clear bad
  subst e1
  subst e2
  subst e3
  have hA := h0.way a ha
  have hB := h0.way b hb
  have a8 := h0.w8 ha
  have b8 := h0.w8 hb
  unfold F_MO_doubt_j34
  refine wp_thr (fun q => nomatch q) (fun _ => thr_f ?_)
  dsimp only
  rw [N_areB h0 ha hb, bs]
  refine wp_if (fun _ => bad2 true rfl) (fun nb => ?_)
  have hb2 : (barW ((mSI M 94 0 0).1 95) a || barW ((mSI M 94 0 0).1 95) b) = false := by
    cases hq : (barW ((mSI M 94 0 0).1 95) a || barW ((mSI M 94 0 0).1 95) b) with
    | true => exact absurd hq nb
    | false => rfl
  obtain ⟨bb1, bb2⟩ := or_ff hb2
  rw [S_actMany, bs]
  refine wp_if (fun _ => bad2 true rfl) (fun c2 => ?_)
  rw [N_moods a8 hA, bs]
  refine wp_if (fun _ => bad2 true rfl) (fun c3 => ?_)
  rw [N_moods b8 hB, bs]
  refine wp_if (fun c4 => ?_) (fun _ => bad2 true rfl)
  clear bad2
  obtain ⟨k1, k2, -⟩ := hA.moK
  obtain ⟨k3, k4, -⟩ := hB.moK
  rw [lt_i, li2] at c2
  rw [l32_2, iI_lt (by omega) (by omega) (by omega) (by omega)] at c3
  rw [l32_2, iI_le (by omega) (by omega) (by omega) (by omega)] at c4
  have hd1 : ∀ m, m < mo ((mSI M 94 0 0).1 95) a → dz ((mSI M 94 0 0).1 95) a m ≤ 1 := fun m hm => by
    have := barW_not bb1 hm
    omega
  have hd2 : ∀ m, m < mo ((mSI M 94 0 0).1 95) b → dz ((mSI M 94 0 0).1 95) b m ≤ 1 := fun m hm => by
    have := barW_not bb2 hm
    omega
  clear nb hb2 bb1 bb2
  generalize mSI M 94 0 0 = M0 at *
  unfold F_MO_doubt_j82
  refine wp_thr (fun q => nomatch q) (fun _ => thr_f ?_)
  dsimp only
  rw [N_plain, bs]
  refine wp_bind (N_worthsP h0 ha hb) (fun N hN => ?_)
  obtain ⟨hN1, hN2⟩ := hN
  have e95 : N.1 95 = M0.1 95 := hN1.w95
  have hP : N.1 94 19 = iI ((M0.1 95 1).toInt) := (hN1.1 94 19 (by decide)).trans (plM_P M0)
  have hQ : N.1 94 20 = iI ((M0.1 95 2).toInt) := (hN1.1 94 20 (by decide)).trans (plM_Q M0)
  obtain ⟨p1, p2, p9⟩ := h0.tom
  obtain ⟨m1, m2, m3⟩ := h0.mis
  have hAN : WOKW (N.1 95) a := by rw [e95]; exact hA
  have hBN : WOKW (N.1 95) b := by rw [e95]; exact hB
  have s0 : stW (M0.1 95) a b 0 := ⟨by omega, by omega⟩
  obtain ⟨U, D, V1, V2, ⟨V3, V4, V5⟩, V6⟩ := (hN2 0 p s0 hp).val4 (by omega) p9 (by omega) (by omega)
  dsimp only at V3 V4 V5
  have e0p : 2 * 0 + p = p := by omega
  rw [e0p] at V1 V2
  rw [N_moods b8 hBN, bs, N_moods a8 hAN, bs, e95, iI_mulN]
  have hal : mo (M0.1 95) a * mo (M0.1 95) b = 1 ∨ mo (M0.1 95) a * mo (M0.1 95) b = 2 ∨ mo (M0.1 95) a * mo (M0.1 95) b = 4 := by
    have x1 : mo (M0.1 95) a = 1 ∨ mo (M0.1 95) a = 2 := by omega
    have x2 : mo (M0.1 95) b = 1 ∨ mo (M0.1 95) b = 2 := by omega
    rcases x1 with x1 | x1 <;> rcases x2 with x2 | x2 <;> rw [x1, x2] <;> decide
  have hF : N.1 95 4 = iI ((M0.1 95 4).toInt) := by rw [e95, iI_of]
  have hE : N.1 95 3 = iI ((M0.1 95 3).toInt) := by rw [e95, iI_of]
  have hdivA : ∀ s, s < mo (M0.1 95) a * mo (M0.1 95) b → s / mo (M0.1 95) b < mo (M0.1 95) a ∧ s % mo (M0.1 95) b < mo (M0.1 95) b := fun s hs => ⟨Nat.div_lt_of_lt_mul (by rw [Nat.mul_comm]; exact hs), Nat.mod_lt _ (by omega)⟩
  refine wp_bind (wp_q (N_doubts (M := N) (P := (M0.1 95 1).toInt) (q := (M0.1 95 2).toInt) (f := (M0.1 95 4).toInt) (e := (M0.1 95 3).toInt) a8 b8 hAN hBN (by rw [e95]; omega) (by rw [e95]; omega) (by rw [e95]; exact hd1) (by rw [e95]; exact hd2) hF hE hP hQ m1 m2 m3 p1 p2 p9) (Q_MO_doubts _ _ _)) (fun r9 h9 => ?_)
  obtain ⟨⟨g1, g2⟩, g3⟩ := h9
  rw [e95] at g2
  have r104 : r9.2 104 p = lI U := ((g3 104 p (by omega)).2).trans V1
  have r105 : r9.2 105 p = lI D := ((g3 105 p (by omega)).2).trans V2
  generalize hall : mo (M0.1 95) a * mo (M0.1 95) b = all at *
  obtain ⟨dp, dB⟩ := detPos hal g2 (by omega) m3 p1 p2 p9
  have db := detB hal (by decide) dB
  have all4 : 1 ≤ all ∧ all ≤ 4 := by omega
  refine wp_bind (wp_q (N_number (n := all) (Q := fun t => (r9.2 110 t).toInt) (M := r9) all4.1 all4.2 (fun i j _ _ => (lI_of _).symm)) (Q_MO_number _ _)) (fun r10 h10 => ?_)
  obtain ⟨i1, i2⟩ := h10
  rw [i1]
  generalize hdet : detF (fun t => (r9.2 110 t).toInt) all = dd at *
  have j104 : r10.2.2 104 p = lI U := ((i2 104 p (by omega)).2).trans r104
  have j105 : r10.2.2 105 p = lI D := ((i2 105 p (by omega)).2).trans r105
  have j95 : r10.2.1 95 = M0.1 95 := (funext fun i => ((i2 95 i (by omega)).1)).trans (by rw [g1, e95])
  have jQ : r10.2.1 94 20 = iI ((M0.1 95 2).toInt) := ((i2 94 20 (by omega)).1).trans (by rw [g1, hQ])
  have j110 : ∀ t, r10.2.2 110 t = r9.2 110 t := fun t => (i2 110 t (by omega)).2
  clear i1 i2 hdet
  generalize r10.2 = N1 at *
  have l0 : (0 : Int32) = iI 0 := rfl
  have hne : ¬ iI (mo (M0.1 95) b : Int) = 0 := by rw [l0, iI_eq] <;> omega
  unfold F_MO_doubt_l135
  refine wp_bind (Ψ := fun N2 => sqB (fun t => (N2.2 110 t).toInt) all 72171 ∧ N2.2 105 p = lI D) ?_ (fun N2 h2 => ?_)
  · refine wp_iterS (P := fun k z => z.1 = iI (k : Int) ∧ z.2.1 = N1.1 ∧ z.2.2 105 = N1.2 105 ∧ (∀ i, i < all → (∀ j, 0 < j → j < all → z.2.2 110 (4 * i + j) = N1.2 110 (4 * i + j)) ∧ (i < k → -72171 ≤ (z.2.2 110 (4 * i)).toInt ∧ (z.2.2 110 (4 * i)).toInt ≤ 72171))) all ?_ _ _ ⟨rfl, rfl, rfl, fun i hi => ⟨fun j _ _ => rfl, fun q => absurd q (Nat.not_lt_zero _)⟩⟩ (FUEL_big (by omega))
    rintro k ⟨z1, N2⟩ hk ⟨e1, o1, o2, o3⟩
    dsimp only at e1 o1 o2 o3
    subst e1
    unfold F_MO_doubt_b135
    dsimp only
    refine wp_if (fun c => wp_some ⟨fun i hi => ⟨?_, fun j j0 jn => ?_⟩, (congrFun o2 p).trans j105⟩) (fun c => ?_)
    · rw [iI_le (by omega) (by omega) (by omega) (by omega)] at c
      exact (o3 i hi).2 (by omega)
    · show -729 ≤ (N2.2 110 (4 * i + j)).toInt ∧ (N2.2 110 (4 * i + j)).toInt ≤ 729
      rw [(o3 i hi).1 j j0 jn, j110]
      exact (dB i hi).2 j j0 jn
    rw [iI_le (by omega) (by omega) (by omega) (by omega)] at c
    obtain ⟨d1, d2⟩ := hdivA k (by omega)
    have o95 : N2.1 95 = M0.1 95 := by rw [o1, j95]
    have w1 := hd1 _ d1
    have w2 := hd2 _ d2
    rw [idivN (by omega) (by omega), irmN (by omega) (by omega)]
    refine wp_t hne ?_
    rw [N_doesW (M := N2) a8 (by rw [o95]; exact hA) (by rw [o95]; exact d1), bs]
    refine wp_t hne ?_
    rw [N_doesW (M := N2) b8 (by rw [o95]; exact hB) (by rw [o95]; exact d2), bs, o95, N_brings (by omega) (by omega) hp, bs, o95]
    have e4 : 4 * iI (k : Int) = iI ((4 * k : Nat) : Int) := by
      rw [l32_4, iI_mul]
      rfl
    rw [e4]
    refine wp_t ib4 (wp_t ib4 (wp_t (inb_iI (by omega) (by omega) (by omega)) (wp_some ⟨by omega, iI_succ k, o1, ?_, fun i hi => ⟨fun j j0 jn => ?_, fun hik => ?_⟩⟩)))
    · funext i
      exact (mL_cell (by decide)).trans (congrFun o2 i)
    · show (mSL N2 110 _ _).2 110 (4 * i + j) = _
      rw [clN (by omega), mL_ix (by omega)]
      exact (o3 i hi).1 j j0 jn
    · show -72171 ≤ ((mSL N2 110 (iI ((4 * k : Nat) : Int)).toNatClampNeg _).2 110 (4 * i)).toInt ∧ ((mSL N2 110 (iI ((4 * k : Nat) : Int)).toNatClampNeg _).2 110 (4 * i)).toInt ≤ 72171
      rw [clN (by omega)]
      by_cases qi : i = k
      · rw [qi, mL_hit, o1, jQ, tn4]
        have bb := h0.br (dz (M0.1 95) a (k / mo (M0.1 95) b)) (dz (M0.1 95) b (k % mo (M0.1 95) b)) p (by omega) (by omega) hp
        rw [to64 (M0.1 95 4), iI_l (by omega) (by omega), iI_l (by omega) (by omega), lI_mul, lI_mul, lI_mul]
        have m1 := mulb (a := br (M0.1 95) (dz (M0.1 95) a (k / mo (M0.1 95) b)) (dz (M0.1 95) b (k % mo (M0.1 95) b)) p) (b := (M0.1 95 2).toInt) (m := 99) (n := 9) (by omega) (by omega) (by omega) (by omega)
        have m2 := mulb (b := (M0.1 95 4).toInt) (n := 9) m1.1 m1.2 (by omega) (by omega)
        have m3 := mulb (b := (M0.1 95 4).toInt) (n := 9) m2.1 m2.2 (by omega) (by omega)
        rw [lI_toInt (by omega) (by omega)]
        omega
      · rw [mL_ix (by omega)]
        exact (o3 i hi).2 (by omega)
  · obtain ⟨hs, h105⟩ := h2
    have nb := detB hal (by decide) hs
    unfold F_MO_doubt_j205
    refine wp_bind (wp_q (N_number (n := all) (Q := fun t => (N2.2 110 t).toInt) (M := N2) all4.1 all4.2 (fun i j _ _ => (lI_of _).symm)) (Q_MO_number _ _)) (fun r11 h11 => ?_)
    obtain ⟨i1, i2⟩ := h11
    rw [i1]
    have k105 : r11.2.2 105 p = lI D := ((i2 105 p (by omega)).2).trans h105
    generalize detF (fun t => (N2.2 110 t).toInt) all = nn at *
    obtain ⟨u1, u2, u3, u4, u5, -⟩ := rUD (a := nn) dp
    rw [N_tells (by omega) (by omega) dp (by omega), bs]
    have j284 : ∀ N : Mem, wpO (F_MO_doubt_j284 x5 N) (fun _ => True) := by
      intro N
      unfold F_MO_doubt_j284
      exact wp_if (fun _ => wp_some trivial) (fun _ => wp_some trivial)
    refine wp_if (fun _ => j284 _) (fun _ => ?_)
    have i18 : inb (iI (p : Int)) 18 := inb_iI (by omega) (by omega) (by omega)
    have v16 : (mSL (mSL r11.2 94 15 (lI (rU nn dd))) 94 16 (lI (rD nn dd))).2 94 16 = lI (rD nn dd) := mL_hit
    have v105 : (mSL (mSL r11.2 94 15 (lI (rU nn dd))) 94 16 (lI (rD nn dd))).2 105 (iI (p : Int)).toNatClampNeg = lI D := by
      rw [clN (by omega), mL_cell (by decide), mL_cell (by decide), k105]
    refine wp_t i18 ?_
    rw [v16, v105, N_common (by omega) (by omega) (by omega) (by omega), bs]
    have hg : 0 < Int.gcd (rD nn dd) D := Int.gcd_pos_of_ne_zero_right _ (by omega)
    have gle : (Int.gcd (rD nn dd) D : Int) ≤ D := Int.le_of_dvd V3 (Int.gcd_dvd_right _ _)
    have z0 : (0 : Int64) = lI 0 := rfl
    have hgn : ¬ lI (Int.gcd (rD nn dd) D : Int) = 0 := by rw [z0, lI_eq] <;> omega
    refine wp_t i18 (wp_t hgn (wp_t i18 (wp_t hgn (wp_t hgn (wp_t i18 ?_)))))
    rw [ldiv_lI (a := rD nn dd) (by omega) (by omega) (by omega) (by omega), lI_mul]
    have hdv : (Int.gcd (rD nn dd) D : Int) ∣ rD nn dd := Int.gcd_dvd_left _ _
    rw [Int.tdiv_eq_ediv_of_dvd hdv]
    have q1 : rD nn dd / (Int.gcd (rD nn dd) D : Int) * (Int.gcd (rD nn dd) D : Int) = rD nn dd := Int.ediv_mul_cancel hdv
    have q2 : 0 < rD nn dd / (Int.gcd (rD nn dd) D : Int) := by
      rcases Int.lt_or_le 0 (rD nn dd / (Int.gcd (rD nn dd) D : Int)) with q | q
      · exact q
      · have := Int.mul_nonpos_of_nonpos_of_nonneg q (show (0 : Int) ≤ (Int.gcd (rD nn dd) D : Int) by omega)
        omega
    have q3 : rD nn dd / (Int.gcd (rD nn dd) D : Int) ≤ rD nn dd := Int.ediv_le_self _ (by omega)
    have q4 := Int.mul_pos q2 V3
    have q5 := (mulb (a := rD nn dd / (Int.gcd (rD nn dd) D : Int)) (b := D) (m := 6778308875544) (n := 6561) (by omega) (by omega) (by omega) (by omega)).2
    exact wp_bind (N_tellsAny q4 (by omega) _) (fun r14 _ => j284 _)
