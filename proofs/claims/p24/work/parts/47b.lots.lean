/-! ===== the reference's lots ===== -/
def M00 : Mem := (fun _ _ => 0, fun _ _ => 0)
theorem bitAt_M (x y : Int32) (M : Mem) : F_MO_bitAt x y M = F_MO_bitAt x y M00 := by
  have e : F_MO_bitAt_b4 x M = F_MO_bitAt_b4 x M00 := by
    funext z
    unfold F_MO_bitAt_b4 F_MO_bitAt_j16
    rfl
  unfold F_MO_bitAt F_MO_bitAt_l4
  rw [e]
def btA (s k : Nat) : Nat := ((F_MO_bitAt (iI (s : Int)) (iI (k : Int)) M00).getD 0).toNatClampNeg
theorem btab : ∀ s, s < 8 → ∀ k, k < 3 → k < nrow s → F_MO_bitAt (iI (s : Int)) (iI (k : Int)) M00 = some (iI (btA s k : Int)) ∧ btA s k < 3 := by decide +kernel
theorem nrtab : ∀ s : Nat, s < 8 → bcI (iI (s : Int)) = iI (nrow s : Int) ∧ nrow s ≤ 3 ∧ (0 < s → 1 ≤ nrow s) := by decide +kernel
theorem N_bitAt {s k : Nat} (hs : s < 8) (hk : k < nrow s) (M : Mem) : F_MO_bitAt (iI (s : Int)) (iI (k : Int)) M = some (iI (btA s k : Int)) ∧ btA s k < 3 := by
  have h := nrtab s hs
  rw [bitAt_M]
  exact btab s hs k (by omega) hk
def ent (M : Mem) (t : Nat) : Prop := -99 ≤ (M.2 110 t).toInt ∧ (M.2 110 t).toInt ≤ 99
theorem det_le {Q : Nat → Int} {n : Nat} (h1 : 1 ≤ n) (h3 : n ≤ 3) (hq : ∀ i j, i < n → j < n → -99 ≤ Q (4 * i + j) ∧ Q (4 * i + j) ≤ 99) : -5821794 ≤ detF Q n ∧ detF Q n ≤ 5821794 := by
  have hn : n = 1 ∨ n = 2 ∨ n = 3 := by omega
  rcases hn with rfl | rfl | rfl
  · have := hq 0 0 (by decide) (by decide)
    rw [det1]
    have e : 4 * 0 + 0 = 0 := rfl
    rw [e] at this
    omega
  · have q0 := hq 0 0 (by decide) (by decide)
    have q1 := hq 0 1 (by decide) (by decide)
    have q4 := hq 1 0 (by decide) (by decide)
    have q5 := hq 1 1 (by decide) (by decide)
    simp only [Nat.reduceMul, Nat.reduceAdd] at q0 q1 q4 q5
    have m1 := mulb q0.1 q0.2 q5.1 q5.2
    have m2 := mulb q1.1 q1.2 q4.1 q4.2
    rw [det2]
    omega
  · have q0 := hq 0 0 (by decide) (by decide)
    have q1 := hq 0 1 (by decide) (by decide)
    have q2 := hq 0 2 (by decide) (by decide)
    have q4 := hq 1 0 (by decide) (by decide)
    have q5 := hq 1 1 (by decide) (by decide)
    have q6 := hq 1 2 (by decide) (by decide)
    have q8 := hq 2 0 (by decide) (by decide)
    have q9 := hq 2 1 (by decide) (by decide)
    have q10 := hq 2 2 (by decide) (by decide)
    simp only [Nat.reduceMul, Nat.reduceAdd] at q0 q1 q2 q4 q5 q6 q8 q9 q10
    have a1 := mulb q5.1 q5.2 q10.1 q10.2
    have a2 := mulb q6.1 q6.2 q9.1 q9.2
    have a3 := mulb q4.1 q4.2 q10.1 q10.2
    have a4 := mulb q6.1 q6.2 q8.1 q8.2
    have a5 := mulb q4.1 q4.2 q9.1 q9.2
    have a6 := mulb q5.1 q5.2 q8.1 q8.2
    have b1 := mulb (b := Q 5 * Q 10 - Q 6 * Q 9) (n := 19602) q0.1 q0.2 (by omega) (by omega)
    have b2 := mulb (b := Q 4 * Q 10 - Q 6 * Q 8) (n := 19602) q1.1 q1.2 (by omega) (by omega)
    have b3 := mulb (b := Q 4 * Q 9 - Q 5 * Q 8) (n := 19602) q2.1 q2.2 (by omega) (by omega)
    rw [det3]
    omega
theorem N_numberOf {p s t : Nat} {x4 x5 : Int32} {M : Mem} (h : RIW (M.1 95)) (hp : p < 2) (hs : s < 8) (ht : t < 8) (h0 : 0 < s) (he : nrow s = nrow t) : wpO (F_MO_numberOf (iI (p : Int)) (iI (s : Int)) (iI (t : Int)) x4 x5 M) (fun r => ∃ v : Int, r.1 = lI v ∧ -5821794 ≤ v ∧ v ≤ 5821794) := by
  obtain ⟨n1, n2, n3⟩ := nrtab s hs
  unfold F_MO_numberOf
  rw [bc_eq, bs, n1]
  have n4 := n3 h0
  have hbS : ∀ k, k < nrow s → ∀ N : Mem, F_MO_bitAt (iI (s : Int)) (iI (k : Int)) N = some (iI (btA s k : Int)) ∧ btA s k < 3 := fun k hk N => N_bitAt hs hk N
  have hbT : ∀ k, k < nrow s → ∀ N : Mem, F_MO_bitAt (iI (t : Int)) (iI (k : Int)) N = some (iI (btA t k : Int)) ∧ btA t k < 3 := fun k hk N => N_bitAt ht (by omega) N
  generalize nrow s = n at *
  unfold F_MO_numberOf_l9
  refine wp_bind (Ψ := fun N => N.1 = M.1 ∧ ∀ i j, i < n → j < n → ent N (4 * i + j)) ?_ (fun N hN => ?_)
  · refine wp_iterS (P := fun k z => z.1 = iI (k : Int) ∧ z.2.1 = M.1 ∧ ∀ i j, i < k → j < n → ent z.2 (4 * i + j)) n ?_ _ _ ⟨rfl, rfl, fun i j hi => absurd hi (Nat.not_lt_zero _)⟩ (FUEL_big (by omega))
    rintro k ⟨z1, N⟩ hk ⟨e1, m1, m2⟩
    dsimp only at e1 m1 m2
    subst e1
    unfold F_MO_numberOf_b9
    dsimp only
    refine wp_if (fun c => wp_some ⟨m1, fun i j hi hj => m2 i j ?_ hj⟩) (fun c => ?_)
    · rw [iI_le (by omega) (by omega) (by omega) (by omega)] at c
      omega
    rw [iI_le (by omega) (by omega) (by omega) (by omega)] at c
    unfold F_MO_numberOf_l19
    refine wp_bind (Ψ := fun N => N.1 = M.1 ∧ ∀ i j, i < k + 1 → j < n → ent N (4 * i + j)) ?_ (fun r hr => wp_some ⟨by omega, iI_succ k, hr⟩)
    refine wp_iterS (P := fun l z => z.1 = iI (l : Int) ∧ z.2.1 = M.1 ∧ (∀ i j, i < k → j < n → ent z.2 (4 * i + j)) ∧ ∀ j, j < l → ent z.2 (4 * k + j)) n ?_ _ _ ⟨rfl, m1, m2, fun j hj => absurd hj (Nat.not_lt_zero _)⟩ (FUEL_big (by omega))
    rintro l ⟨y1, N2⟩ hl ⟨e1, o1, o2, o3⟩
    dsimp only at e1 o1 o2 o3
    subst e1
    unfold F_MO_numberOf_b19
    dsimp only
    refine wp_if (fun c2 => wp_some ⟨o1, fun i j hi hj => ?_⟩) (fun c2 => ?_)
    · rw [iI_le (by omega) (by omega) (by omega) (by omega)] at c2
      by_cases q : i = k
      · rw [q]
        exact o3 j (by omega)
      · exact o2 i j (by omega) hj
    rw [iI_le (by omega) (by omega) (by omega) (by omega)] at c2
    have e4 : (4 * iI (k : Int)) + iI (l : Int) = iI ((4 * k + l : Nat) : Int) := by
      rw [l32_4, iI_mul, iI_add]
      rfl
    rw [e4]
    have i16 : inb (iI ((4 * k + l : Nat) : Int)) 16 := inb_iI (by omega) (by omega) (by omega)
    have put : ∀ v : Int, -99 ≤ v → v ≤ 99 → wpO (some (Sum.inl (iI (l : Int) + 1, mSL N2 110 (iI ((4 * k + l : Nat) : Int)).toNatClampNeg (lI v))) : Option ((Int32 × Mem) ⊕ Mem)) (sumP (fun s' => l < n ∧ s'.1 = iI ((l + 1 : Nat) : Int) ∧ s'.2.1 = M.1 ∧ (∀ i j, i < k → j < n → ent s'.2 (4 * i + j)) ∧ ∀ j, j < l + 1 → ent s'.2 (4 * k + j)) (fun N => N.1 = M.1 ∧ ∀ i j, i < k + 1 → j < n → ent N (4 * i + j))) := by
      intro v v1 v2
      rw [clN (by omega)]
      refine wp_some ⟨by omega, iI_succ l, o1, fun i j hi hj => ?_, fun j hj => ?_⟩
      · show -99 ≤ ((mSL N2 110 (4 * k + l) (lI v)).2 110 (4 * i + j)).toInt ∧ ((mSL N2 110 (4 * k + l) (lI v)).2 110 (4 * i + j)).toInt ≤ 99
        rw [mL_ix (by omega)]
        exact o2 i j hi hj
      · show -99 ≤ ((mSL N2 110 (4 * k + l) (lI v)).2 110 (4 * k + j)).toInt ∧ ((mSL N2 110 (4 * k + l) (lI v)).2 110 (4 * k + j)).toInt ≤ 99
        by_cases q : j = l
        · rw [q, mL_hit, lI_toInt (by omega) (by omega)]
          exact ⟨v1, v2⟩
        · rw [mL_ix (by omega)]
          exact o3 j (by omega)
    have j63 : wpO (F_MO_numberOf_j63 (iI (p : Int)) (iI (s : Int)) (iI (t : Int)) x4 x5 (iI (n : Int)) (iI (k : Int)) (iI (l : Int)) (iI ((4 * k + l : Nat) : Int)) N2) (sumP (fun s' => l < n ∧ s'.1 = iI ((l + 1 : Nat) : Int) ∧ s'.2.1 = M.1 ∧ (∀ i j, i < k → j < n → ent s'.2 (4 * i + j)) ∧ ∀ j, j < l + 1 → ent s'.2 (4 * k + j)) (fun N => N.1 = M.1 ∧ ∀ i j, i < k + 1 → j < n → ent N (4 * i + j))) := by
      unfold F_MO_numberOf_j63
      obtain ⟨b1, b2⟩ := hbS k (by omega) N2
      obtain ⟨b3, b4⟩ := hbT l (by omega) N2
      rw [b1, bs, b3, bs, N_own hp b2 b4, bs]
      refine wp_t i16 ?_
      have ow := ownW_le (p := p) (x := btA s k) (y := btA t l) (W := N2.1 95) (by rw [o1]; exact h.br) b2 b4
      rw [iI_l (by omega) (by omega)]
      exact put _ ow.1 ow.2
    have l1 : (1 : Int64) = lI 1 := rfl
    have j56 : ∀ s2 s3 : Int32, wpO (F_MO_numberOf_j56 (iI (p : Int)) (iI (s : Int)) (iI (t : Int)) x4 x5 (iI (n : Int)) (iI (k : Int)) (iI (l : Int)) (iI ((4 * k + l : Nat) : Int)) s2 s3 N2) (sumP (fun s' => l < n ∧ s'.1 = iI ((l + 1 : Nat) : Int) ∧ s'.2.1 = M.1 ∧ (∀ i j, i < k → j < n → ent s'.2 (4 * i + j)) ∧ ∀ j, j < l + 1 → ent s'.2 (4 * k + j)) (fun N => N.1 = M.1 ∧ ∀ i j, i < k + 1 → j < n → ent N (4 * i + j))) := by
      intro s2 s3
      unfold F_MO_numberOf_j56
      refine wp_if (fun _ => wp_t i16 ?_) (fun _ => j63)
      rw [l1]
      exact put 1 (by decide) (by decide)
    exact wp_if (fun _ => j63) (fun _ => wp_if (fun _ => j56 _ _) (fun _ => j56 _ _))
  · unfold F_MO_numberOf_j94
    refine wp_bind (N_number (n := n) (Q := fun t => (N.2 110 t).toInt) n4 (by omega) (fun i j _ _ => (lI_of _).symm)) (fun r hr => wp_some ⟨_, hr, ?_⟩)
    exact det_le n4 n2 (fun i j hi hj => hN.2 i j hi hj)
theorem N_balances {p s t : Nat} {M : Mem} (h : RIW (M.1 95)) (hp : p < 2) (hs : s < 8) (ht : t < 8) (h0 : 0 < s) (he : nrow s = nrow t) : wpO (F_MO_balances (iI (p : Int)) (iI (s : Int)) (iI (t : Int)) M) (fun r => r.2.1 95 = M.1 95) := by
  have key : wpO (F_MO_balances (iI (p : Int)) (iI (s : Int)) (iI (t : Int)) M) (fun _ => True) := by
    obtain ⟨n1, n2, n3⟩ := nrtab s hs
    obtain ⟨A, hA, a2, a3⟩ := h.actN
    have z0 : (0 : Int64) = lI 0 := rfl
    unfold F_MO_balances
    rw [bc_eq, bs, n1]
    unfold F_MO_balances_l12
    refine wp_bind (Ψ := fun N => N.1 = M.1) ?_ (fun N hN => ?_)
    · refine wp_iterS (P := fun k z => z.1 = iI (k : Int) ∧ z.2.1 = M.1) 3 ?_ _ _ ⟨rfl, rfl⟩ (FUEL_big (by decide))
      rintro k ⟨z1, N⟩ hk ⟨e1, m1⟩
      dsimp only at e1 m1
      subst e1
      unfold F_MO_balances_b12
      dsimp only
      refine wp_if (fun _ => wp_some m1) (fun c => ?_)
      rw [l32_3, iI_le (by omega) (by omega) (by omega) (by omega)] at c
      have i3 : inb (iI (k : Int)) 3 := inb_iI (by omega) (by omega) (by omega)
      exact wp_t i3 (wp_t i3 (wp_some ⟨by omega, iI_succ k, m1⟩))
    have fr : ∀ (N2 : Mem) (x4 x5 : Int32), N2.1 95 = M.1 95 → wpO (F_MO_numberOf (iI (p : Int)) (iI (s : Int)) (iI (t : Int)) x4 x5 N2) (fun r => (∃ v : Int, r.1 = lI v ∧ -5821794 ≤ v ∧ v ≤ 5821794) ∧ r.2.1 95 = M.1 95 ∧ r.2.2 112 = N2.2 112) := by
      intro N2 x4 x5 h2
      refine wp_mono (wp_q (N_numberOf (M := N2) (x4 := x4) (x5 := x5) (by rw [h2]; exact h) hp hs ht h0 he) (Q_MO_numberOf _ _ _ _ _ _)) (fun r hr => ⟨hr.1, ?_, ?_⟩)
      · exact (funext fun i => (hr.2 95 i (by omega)).1).trans h2
      · exact funext fun i => (hr.2 112 i (by omega)).2
    unfold F_MO_balances_l43
    refine wp_bind (Ψ := fun r => (∃ v : Int, r.1 = lI v ∧ -17465382 ≤ v ∧ v ≤ 17465382) ∧ r.2.1 95 = M.1 95) ?_ (fun r hr => ?_)
    · refine wp_iterS (P := fun k z => z.2.1 = iI (k : Int) ∧ (∃ v : Int, z.1 = lI v ∧ -(5821794 * (k : Int)) ≤ v ∧ v ≤ 5821794 * (k : Int)) ∧ z.2.2.1 95 = M.1 95) (nrow s) ?_ _ _ ⟨rfl, ⟨0, rfl, by decide, by decide⟩, by rw [hN]⟩ (FUEL_big (by omega))
      rintro k ⟨z1, z2, N2⟩ hk ⟨e2, ⟨v, e1, v1, v2⟩, m1⟩
      dsimp only at e1 e2 m1
      subst e1
      subst e2
      unfold F_MO_balances_b43
      dsimp only
      refine wp_if (fun c => wp_some ⟨⟨v, rfl, by omega, by omega⟩, m1⟩) (fun c => ?_)
      rw [iI_le (by omega) (by omega) (by omega) (by omega)] at c
      obtain ⟨b1, b2⟩ := N_bitAt hs (show k < nrow s by omega) N2
      rw [b1, bs]
      refine wp_bind (fr N2 (iI (k : Int)) 1 m1) (fun r9 h9 => ?_)
      obtain ⟨⟨w, w1, w2, w3⟩, w4, w5⟩ := h9
      have i3 : inb (iI (btA s k : Int)) 3 := inb_iI (by omega) (by omega) (by omega)
      refine wp_t i3 ?_
      simp only [clN (n := btA s k) (by omega)]
      generalize hN3 : mSL r9.2 112 (btA s k) r9.1 = N3
      have n395 : N3.1 95 = M.1 95 := by
        rw [← hN3]
        exact w4
      have n3112 : N3.2 112 (btA s k) = lI w := by rw [← hN3, mL_hit, w1]
      obtain ⟨b3, b4⟩ := N_bitAt ht (show k < nrow t by omega) N3
      rw [b3, bs]
      refine wp_bind (fr N3 (iI (k : Int)) 0 n395) (fun r11 h11 => ?_)
      obtain ⟨-, x4, x5⟩ := h11
      have i4 : inb (iI (btA t k : Int)) 3 := inb_iI (by omega) (by omega) (by omega)
      refine wp_t i4 ?_
      obtain ⟨b5, -⟩ := N_bitAt hs (show k < nrow s by omega) (mSL r11.2 113 (iI (btA t k : Int)).toNatClampNeg r11.1)
      rw [b5, bs]
      refine wp_t i3 (wp_some ⟨by omega, iI_succ k, ⟨v + w, ?_, by omega, by omega⟩, x4⟩)
      show lI v + (mSL r11.2 113 _ r11.1).2 112 (iI (btA s k : Int)).toNatClampNeg = _
      rw [mL_cell (by decide), congrFun x5, clN (n := btA s k) (by omega), n3112, lI_add]
    · obtain ⟨⟨v, v0, v1, v2⟩, r95⟩ := hr
      unfold F_MO_balances_j114
      rw [v0]
      refine wp_if (fun _ => wp_some trivial) (fun hne => ?_)
      rw [z0, lI_eq (by omega) (by omega) (by omega) (by omega)] at hne
      refine wp_bind (fr r.2 (-1) 1 r95) (fun r2 h2 => ?_)
      obtain ⟨⟨w, w1, w2, w3⟩, w4, -⟩ := h2
      have l156 : ∀ sg : Int64, wpO (F_MO_balances_l156 (iI (p : Int)) (lI v) r2.1 sg true 0 r2.2) (fun _ => True) := by
        intro sg
        unfold F_MO_balances_l156
        refine wp_bind (Ψ := fun _ => True) ?_ (fun r3 _ => ?_)
        · refine wp_iterS (P := fun k z => z.2 = iI (k : Int)) A ?_ _ _ rfl (FUEL_big (by omega))
          rintro k ⟨z1, z2⟩ hk e2
          dsimp only at e2
          subst e2
          unfold F_MO_balances_b156
          dsimp only
          rw [S_actMany, bs, w4, hA]
          refine wp_if (fun _ => wp_some trivial) (fun c => ?_)
          rw [iI_le (by omega) (by omega) (by omega) (by omega)] at c
          have i3 : inb (iI (k : Int)) 3 := inb_iI (by omega) (by omega) (by omega)
          have j205 : ∀ s0 : Bool, wpO (F_MO_balances_j205 (iI (p : Int)) (lI v) r2.1 sg (iI (k : Int)) s0 r2.2) (sumP (fun s' => k < A ∧ s'.2 = iI ((k + 1 : Nat) : Int)) (fun _ => True)) := by
            intro s0
            unfold F_MO_balances_j205 F_MO_balances_l216
            refine wp_bind (Ψ := fun _ => True) ?_ (fun r4 _ => ?_)
            · refine wp_iterS (P := fun j z => z.2.2 = iI (j : Int)) A ?_ _ _ rfl (FUEL_big (by omega))
              rintro j ⟨y1, y2, y3⟩ hj e3
              dsimp only at e3
              subst e3
              unfold F_MO_balances_b216
              dsimp only
              rw [S_actMany, bs, w4, hA]
              refine wp_if (fun _ => wp_some trivial) (fun c2 => ?_)
              rw [iI_le (by omega) (by omega) (by omega) (by omega)] at c2
              have j3 : inb (iI (j : Int)) 3 := inb_iI (by omega) (by omega) (by omega)
              refine wp_t j3 ?_
              rw [N_own hp (by omega) (by omega), bs]
              refine wp_t j3 ?_
              rw [N_own hp (by omega) (by omega), bs]
              exact wp_some ⟨by omega, iI_succ j⟩
            · unfold F_MO_balances_j277
              exact wp_if (fun _ => wp_if (fun _ => wp_some ⟨by omega, iI_succ k⟩) (fun _ => wp_if (fun _ => wp_some ⟨by omega, iI_succ k⟩) (fun _ => wp_some ⟨by omega, iI_succ k⟩))) (fun _ => wp_some ⟨by omega, iI_succ k⟩)
          refine wp_if (fun _ => wp_t i3 (wp_if (fun _ => j205 _) (fun _ => wp_t i3 (wp_if (fun _ => j205 _) (fun _ => j205 _))))) (fun _ => j205 _)
        · unfold F_MO_balances_j323
          refine wp_if (fun _ => ?_) (fun _ => wp_some trivial)
          rw [w1]
          exact wp_bind (N_tellsN (by omega) (by omega) hne (by omega) (by omega) r2.2) (fun r4 _ => wp_some trivial)
      exact wp_if (fun _ => l156 _) (fun _ => l156 _)
  exact wp_mono (wp_q key (Q_MO_balances _ _ _ _)) (fun r hr => funext fun i => (hr.2 95 i (by omega)).1)
theorem E_lots {x1 x2 : Int32} {M : Mem} (h : RIW (M.1 95)) : wpO (F_MO_lots x1 x2 M) (fun _ => True) := by
  have h0 : RIW ((mSI M 94 0 0).1 95) := h
  unfold F_MO_lots
  refine wp_noPerson (wp_thr (fun _ => thr_t (wp_some trivial)) (fun q => nomatch q)) (fun p e hp => ?_)
  subst e
  refine wp_thr (fun q => nomatch q) (fun _ => thr_f ?_)
  dsimp only
  obtain ⟨A, hA, a2, a3⟩ := h0.actN
  obtain ⟨t1, t2, t3⟩ := ntab3 A (by omega)
  have t8 : 2 ^ A ≤ 8 := Nat.pow_le_pow_right (n := 2) (by decide) a3
  generalize 2 ^ A = N at *
  generalize mSI M 94 0 0 = M0 at *
  unfold F_MO_lots_l24
  refine wp_bind (Ψ := fun _ => True) ?_ (fun r _ => by
    unfold F_MO_lots_j92
    exact wp_if (fun _ => wp_some trivial) (fun _ => wp_some trivial))
  refine wp_iterS (P := fun k z => z.2.1 = iI ((k + 1 : Nat) : Int) ∧ z.2.2.1 95 = M0.1 95) 8 ?_ _ _ ⟨rfl, rfl⟩ (FUEL_big (by decide))
  rintro k ⟨z1, z2, N1⟩ hk ⟨e2, m1⟩
  dsimp only at e2 m1
  subst e2
  unfold F_MO_lots_b24
  dsimp only
  rw [S_actMany, bs, m1, hA, t1]
  refine wp_if (fun _ => wp_some trivial) (fun c => ?_)
  rw [iI_le (by omega) (by omega) (by omega) (by omega)] at c
  refine wp_if (fun _ => wp_some trivial) (fun _ => ?_)
  unfold F_MO_lots_l42
  refine wp_bind (Ψ := fun r => r.2.1 95 = M0.1 95) ?_ (fun r hr => wp_some ⟨by omega, iI_succ (k + 1), hr⟩)
  refine wp_iterS (P := fun j z => z.2.1 = iI ((j + 1 : Nat) : Int) ∧ z.2.2.1 95 = M0.1 95) 8 ?_ _ _ ⟨rfl, m1⟩ (FUEL_big (by decide))
  rintro j ⟨y1, y2, N2⟩ hj ⟨e2, o1⟩
  dsimp only at e2 o1
  subst e2
  unfold F_MO_lots_b42
  dsimp only
  rw [S_actMany, bs, o1, hA, t1]
  refine wp_if (fun _ => wp_some o1) (fun c2 => ?_)
  rw [iI_le (by omega) (by omega) (by omega) (by omega)] at c2
  refine wp_if (fun _ => wp_some o1) (fun _ => ?_)
  have hk8 : k + 1 < 8 := by omega
  have hj8 : j + 1 < 8 := by omega
  rw [bc_eq, bs, bc_eq, bs, (nrtab _ hk8).1, (nrtab _ hj8).1]
  have nk := (nrtab _ hk8).2.1
  have nj := (nrtab _ hj8).2.1
  refine wp_if (fun c3 => ?_) (fun _ => wp_some ⟨by omega, iI_succ (j + 1), o1⟩)
  rw [iI_eq (by omega) (by omega) (by omega) (by omega)] at c3
  refine wp_bind (N_balances (M := N2) (p := p) (s := k + 1) (t := j + 1) (by rw [o1]; exact h0) hp hk8 hj8 (by omega) (by omega)) (fun r7 h7 => ?_)
  exact wp_some ⟨by omega, iI_succ (j + 1), h7.trans o1⟩
