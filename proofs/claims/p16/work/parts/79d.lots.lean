/-! ===== lots: the reference's search, by its value ===== -/
theorem lG_le {g : Nat → Nat → Int} {s t k n : Nat} {own : Bool} (hg : ∀ i m, i < 3 → m < 3 → -99 ≤ g i m ∧ g i m ≤ 99) (n3 : n ≤ 3) (hbS : ∀ k, k < n → btA s k < 3) (hbT : ∀ k, k < n → btA t k < 3) : ∀ i j, i < n → j < n → -99 ≤ lG g s t k own (4 * i + j) ∧ lG g s t k own (4 * i + j) ≤ 99 := fun i j hi hj => by
  rw [lG_e (by omega)]
  by_cases q : (if own = true then i else j) = k
  · rw [if_pos q]
    omega
  · rw [if_neg q]
    exact hg _ _ (hbS i hi) (hbT j hj)
theorem lF_le {g : Nat → Nat → Int} {s t k : Nat} {own : Bool} (hg : ∀ i m, i < 3 → m < 3 → -99 ≤ g i m ∧ g i m ≤ 99) (hs : s < 8) (ht : t < 8) (h0 : 0 < s) (he : nrow s = nrow t) : -5821794 ≤ lF g s t own k ∧ lF g s t own k ≤ 5821794 := by
  obtain ⟨-, n2, n3⟩ := nrtab s hs
  exact det_le (n3 h0) n2 (lG_le hg n2 (fun k hk => (N_bitAt hs hk M00).2) (fun k hk => (N_bitAt ht (by omega) M00).2))
theorem N_numberOfV {p s t k : Nat} {own : Bool} {x4 x5 : Int32} {M : Mem} (h : RIW (M.1 95)) (hp : p < 2) (hs : s < 8) (ht : t < 8) (h0 : 0 < s) (he : nrow s = nrow t) (hk : (x4 = iI (k : Int) ∧ k < 3 ∧ x5 = if own = true then 1 else 0) ∨ (x4 = -1 ∧ k = 9 ∧ own = true)) : wpO (F_MO_numberOf (iI (p : Int)) (iI (s : Int)) (iI (t : Int)) x4 x5 M) (fun r => r.1 = lI (lF (ownW (M.1 95) p) s t own k)) := by
  obtain ⟨n1, n2, n3⟩ := nrtab s hs
  unfold F_MO_numberOf
  rw [bc_eq, bs, n1]
  have n4 := n3 h0
  have hbS : ∀ k, k < nrow s → ∀ N : Mem, F_MO_bitAt (iI (s : Int)) (iI (k : Int)) N = some (iI (btA s k : Int)) ∧ btA s k < 3 := fun k hk N => N_bitAt hs hk N
  have hbT : ∀ k, k < nrow s → ∀ N : Mem, F_MO_bitAt (iI (t : Int)) (iI (k : Int)) N = some (iI (btA t k : Int)) ∧ btA t k < 3 := fun k hk N => N_bitAt ht (by omega) N
  obtain ⟨G, eG⟩ : ∃ G, G = lG (ownW (M.1 95) p) s t k own := ⟨_, rfl⟩
  have hG : ∀ i j, j < 4 → G (4 * i + j) = if (if own = true then i else j) = k then 1 else ownW (M.1 95) p (btA s i) (btA t j) := fun i j hj => by
    rw [eG]
    exact lG_e hj
  unfold lF
  rw [← eG]
  clear eG
  generalize nrow s = n at *
  unfold F_MO_numberOf_l9
  refine wp_bind (Ψ := fun N => ∀ i j, i < n → j < n → N.2 110 (4 * i + j) = lI (G (4 * i + j))) ?_ (fun N hN => ?_)
  · refine wp_iterS (P := fun a z => z.1 = iI (a : Int) ∧ z.2.1 = M.1 ∧ ∀ i j, i < a → j < n → z.2.2 110 (4 * i + j) = lI (G (4 * i + j))) n ?_ _ _ ⟨rfl, rfl, fun i j hi => absurd hi (Nat.not_lt_zero _)⟩ (FUEL_big (by omega))
    rintro a ⟨z1, N⟩ ha ⟨e1, m1, m2⟩
    dsimp only at e1 m1 m2
    subst e1
    unfold F_MO_numberOf_b9
    dsimp only
    refine wp_if (fun c => wp_some (fun i j hi hj => m2 i j ?_ hj)) (fun c => ?_)
    · rw [iI_le (by omega) (by omega) (by omega) (by omega)] at c
      omega
    rw [iI_le (by omega) (by omega) (by omega) (by omega)] at c
    unfold F_MO_numberOf_l19
    refine wp_bind (Ψ := fun N => N.1 = M.1 ∧ ∀ i j, i < a + 1 → j < n → N.2 110 (4 * i + j) = lI (G (4 * i + j))) ?_ (fun r hr => wp_some ⟨by omega, iI_succ a, hr⟩)
    refine wp_iterS (P := fun l z => z.1 = iI (l : Int) ∧ z.2.1 = M.1 ∧ (∀ i j, i < a → j < n → z.2.2 110 (4 * i + j) = lI (G (4 * i + j))) ∧ ∀ j, j < l → z.2.2 110 (4 * a + j) = lI (G (4 * a + j))) n ?_ _ _ ⟨rfl, m1, m2, fun j hj => absurd hj (Nat.not_lt_zero _)⟩ (FUEL_big (by omega))
    rintro l ⟨y1, N2⟩ hl ⟨e1, o1, o2, o3⟩
    dsimp only at e1 o1 o2 o3
    subst e1
    unfold F_MO_numberOf_b19
    dsimp only
    refine wp_if (fun c2 => wp_some ⟨o1, fun i j hi hj => ?_⟩) (fun c2 => ?_)
    · rw [iI_le (by omega) (by omega) (by omega) (by omega)] at c2
      by_cases q : i = a
      · rw [q]
        exact o3 j (by omega)
      · exact o2 i j (by omega) hj
    rw [iI_le (by omega) (by omega) (by omega) (by omega)] at c2
    have e4 : (4 * iI (a : Int)) + iI (l : Int) = iI ((4 * a + l : Nat) : Int) := by
      rw [l32_4, iI_mul, iI_add]
      rfl
    rw [e4]
    have i16 : inb (iI ((4 * a + l : Nat) : Int)) 16 := inb_iI (by omega) (by omega) (by omega)
    have gal := hG a l (by omega)
    have put : ∀ v : Int, G (4 * a + l) = v → wpO (some (Sum.inl (iI (l : Int) + 1, mSL N2 110 (iI ((4 * a + l : Nat) : Int)).toNatClampNeg (lI v))) : Option ((Int32 × Mem) ⊕ Mem)) (sumP (fun s' => l < n ∧ s'.1 = iI ((l + 1 : Nat) : Int) ∧ s'.2.1 = M.1 ∧ (∀ i j, i < a → j < n → s'.2.2 110 (4 * i + j) = lI (G (4 * i + j))) ∧ ∀ j, j < l + 1 → s'.2.2 110 (4 * a + j) = lI (G (4 * a + j))) (fun N => N.1 = M.1 ∧ ∀ i j, i < a + 1 → j < n → N.2 110 (4 * i + j) = lI (G (4 * i + j)))) := by
      intro v hv
      rw [clN (by omega)]
      refine wp_some ⟨by omega, iI_succ l, o1, fun i j hi hj => ?_, fun j hj => ?_⟩
      · show (mSL N2 110 (4 * a + l) (lI v)).2 110 (4 * i + j) = _
        rw [mL_ix (by omega)]
        exact o2 i j hi hj
      · show (mSL N2 110 (4 * a + l) (lI v)).2 110 (4 * a + j) = _
        by_cases q : j = l
        · rw [q, mL_hit, hv]
        · rw [mL_ix (by omega)]
          exact o3 j (by omega)
    have j63 : G (4 * a + l) = ownW (M.1 95) p (btA s a) (btA t l) → wpO (F_MO_numberOf_j63 (iI (p : Int)) (iI (s : Int)) (iI (t : Int)) x4 x5 (iI (n : Int)) (iI (a : Int)) (iI (l : Int)) (iI ((4 * a + l : Nat) : Int)) N2) (sumP (fun s' => l < n ∧ s'.1 = iI ((l + 1 : Nat) : Int) ∧ s'.2.1 = M.1 ∧ (∀ i j, i < a → j < n → s'.2.2 110 (4 * i + j) = lI (G (4 * i + j))) ∧ ∀ j, j < l + 1 → s'.2.2 110 (4 * a + j) = lI (G (4 * a + j))) (fun N => N.1 = M.1 ∧ ∀ i j, i < a + 1 → j < n → N.2 110 (4 * i + j) = lI (G (4 * i + j)))) := by
      intro hv
      unfold F_MO_numberOf_j63
      obtain ⟨b1, b2⟩ := hbS a (by omega) N2
      obtain ⟨b3, b4⟩ := hbT l (by omega) N2
      rw [b1, bs, b3, bs, N_own hp b2 b4, bs]
      refine wp_t i16 ?_
      have ow := ownW_le (p := p) (x := btA s a) (y := btA t l) (W := N2.1 95) (by rw [o1]; exact h.br) b2 b4
      rw [iI_l (by omega) (by omega)]
      refine put _ ?_
      rw [o1]
      exact hv
    have l1 : (1 : Int64) = lI 1 := rfl
    have j56 : ∀ s3 : Int32, (x4 = s3 ↔ (if own = true then a else l) = k) → wpO (F_MO_numberOf_j56 (iI (p : Int)) (iI (s : Int)) (iI (t : Int)) x4 x5 (iI (n : Int)) (iI (a : Int)) (iI (l : Int)) (iI ((4 * a + l : Nat) : Int)) x4 s3 N2) (sumP (fun s' => l < n ∧ s'.1 = iI ((l + 1 : Nat) : Int) ∧ s'.2.1 = M.1 ∧ (∀ i j, i < a → j < n → s'.2.2 110 (4 * i + j) = lI (G (4 * i + j))) ∧ ∀ j, j < l + 1 → s'.2.2 110 (4 * a + j) = lI (G (4 * a + j))) (fun N => N.1 = M.1 ∧ ∀ i j, i < a + 1 → j < n → N.2 110 (4 * i + j) = lI (G (4 * i + j)))) := by
      intro s3 h3
      unfold F_MO_numberOf_j56
      refine wp_if (fun c4 => wp_t i16 ?_) (fun c4 => j63 ?_)
      · rw [l1]
        refine put 1 ?_
        rw [gal, if_pos (h3.mp c4)]
      · rw [gal, if_neg (fun q => c4 (h3.mpr q))]
    have z0 : (0 : Int32) = iI 0 := rfl
    rcases hk with ⟨k1, k2, k3⟩ | ⟨k1, k2, k3⟩
    · refine wp_if (fun c3 => ?_) (fun c3 => ?_)
      · exfalso
        rw [k1, z0, iI_lt (by omega) (by omega) (by omega) (by omega)] at c3
        omega
      · cases own with
        | false =>
          refine wp_t k3 (j56 _ ?_)
          rw [k1, iI_eq (by omega) (by omega) (by omega) (by omega), if_neg (by decide)]
          constructor
          · intro q
            omega
          · intro q
            omega
        | true =>
          rw [if_pos rfl] at k3
          refine wp_f (by rw [k3]; decide) (j56 _ ?_)
          rw [k1, iI_eq (by omega) (by omega) (by omega) (by omega), if_pos rfl]
          constructor
          · intro q
            omega
          · intro q
            omega
    · refine wp_t (by rw [k1]; decide) (j63 ?_)
      rw [gal, k2, k3, if_pos rfl, if_neg (by omega)]
  · unfold F_MO_numberOf_j94
    exact wp_bind (N_number (n := n) (Q := G) n4 (by omega) (fun i j hi hj => hN i j hi hj)) (fun r hr => wp_some hr)
def lCond (A : Nat) (g : Nat → Nat → Int) (X Y : Nat → Int) (v e : Int) (k : Nat) : Prop := (0 ≤ e * X k ∧ 0 ≤ e * Y k) ∧ e * lSr g Y k A ≤ e * v ∧ e * v ≤ e * lSc g X k A
/-- a fraction that the balance tells -/
def lTell (A : Nat) (g : Nat → Nat → Int) (X Y : Nat → Int) (v : Int) (u d : Int) : Prop := ∃ e : Int, (e = 1 ∨ e = -1) ∧ 0 < e * l3 X ∧ (∀ k, k < A → lCond A g X Y v e k) ∧ u = e * v ∧ d = e * l3 X
theorem lX_z {A s : Nat} {f : Nat → Int} (a3 : A ≤ 3) (hs : s < 2 ^ A) {t : Nat} (ht : A ≤ t) : ∀ n, n ≤ nrow s → lA s f n t = 0
  | 0, _ => rfl
  | n + 1, hn => by
    have t8 : 2 ^ A ≤ 8 := Nat.pow_le_pow_right (n := 2) (by decide) a3
    have n2 := (nrtab s (by omega)).2.1
    have b := btT A (by omega) s hs n (by omega) (by omega)
    rw [lA_s]
    dsimp only
    rw [if_neg (by omega)]
    exact lX_z a3 hs ht n (by omega)
theorem injT : ∀ s, s < 8 → ∀ a, a < nrow s → ∀ b, b < nrow s → btA s a = btA s b → a = b := by decide +kernel
theorem N_balancesV {p s t A : Nat} {M : Mem} (h : RIW (M.1 95)) (hA : M.1 95 0 = iI (A : Int)) (a2 : 2 ≤ A) (a3 : A ≤ 3) (hp : p < 2) (hs : s < 8) (ht : t < 8) (h0 : 0 < s) (he : nrow s = nrow t) : wpO (F_MO_balances (iI (p : Int)) (iI (s : Int)) (iI (t : Int)) M) (fun r => (r.1 = true ∧ ∃ u d, lTell A (ownW (M.1 95) p) (lX (ownW (M.1 95) p) s t) (lY (ownW (M.1 95) p) s t) (lV (ownW (M.1 95) p) s t) u d ∧ r.2.2 94 15 = lI (rU u d) ∧ r.2.2 94 16 = lI (rD u d)) ∨ (r.1 = false ∧ ¬ lBal A (ownW (M.1 95) p) (lX (ownW (M.1 95) p) s t) (lY (ownW (M.1 95) p) s t) (lV (ownW (M.1 95) p) s t))) := by
  obtain ⟨n1, n2, n3⟩ := nrtab s hs
  have n4 := n3 h0
  have z0 : (0 : Int64) = lI 0 := rfl
  have hg : ∀ i m, i < 3 → m < 3 → -99 ≤ ownW (M.1 95) p i m ∧ ownW (M.1 95) p i m ≤ 99 := fun i m hi hm => ownW_le h.br hi hm
  unfold F_MO_balances
  rw [bc_eq, bs, n1]
  unfold F_MO_balances_l12
  refine wp_bind (Ψ := fun N => N.1 = M.1 ∧ ∀ j, j < 3 → N.2 112 j = lI 0 ∧ N.2 113 j = lI 0) ?_ (fun N hN => ?_)
  · refine wp_iterS (P := fun k z => z.1 = iI (k : Int) ∧ z.2.1 = M.1 ∧ ∀ j, j < k → z.2.2 112 j = lI 0 ∧ z.2.2 113 j = lI 0) 3 ?_ _ _ ⟨rfl, rfl, fun j hj => absurd hj (Nat.not_lt_zero _)⟩ (FUEL_big (by decide))
    rintro k ⟨z1, N⟩ hk ⟨e1, m1, m2⟩
    dsimp only at e1 m1 m2
    subst e1
    unfold F_MO_balances_b12
    dsimp only
    refine wp_if (fun c => wp_some ⟨m1, fun j hj => m2 j ?_⟩) (fun c => ?_)
    · rw [l32_3, iI_le (by omega) (by omega) (by omega) (by omega)] at c
      omega
    rw [l32_3, iI_le (by omega) (by omega) (by omega) (by omega)] at c
    have i3 : inb (iI (k : Int)) 3 := inb_iI (by omega) (by omega) (by omega)
    refine wp_t i3 (wp_t i3 (wp_some ⟨by omega, iI_succ k, m1, fun j hj => ?_⟩))
    show (mSL (mSL N 112 (iI (k : Int)).toNatClampNeg 0) 113 (iI (k : Int)).toNatClampNeg 0).2 112 j = _ ∧ (mSL (mSL N 112 (iI (k : Int)).toNatClampNeg 0) 113 (iI (k : Int)).toNatClampNeg 0).2 113 j = _
    rw [clN (by omega)]
    by_cases q : j = k
    · subst q
      rw [mL_cell (by decide), mL_hit, mL_hit]
      exact ⟨z0, z0⟩
    · rw [mL_cell (by decide), mL_ix q, mL_ix q, mL_cell (by decide)]
      exact m2 j (by omega)
  obtain ⟨hN1, hN2⟩ := hN
  have W95 : N.1 95 = M.1 95 := by rw [hN1]
  generalize hW : M.1 95 = W at *
  obtain ⟨g, eg⟩ : ∃ g, g = ownW W p := ⟨_, rfl⟩
  rw [← eg]
  have gW : ∀ a b, ownW W p a b = g a b := fun a b => by rw [eg]
  have hg' : ∀ i m, i < 3 → m < 3 → -99 ≤ g i m ∧ g i m ≤ 99 := fun i m hi hm => by rw [← gW]; exact hg i m hi hm
  have fr : ∀ (N2 : Mem) (x4 x5 : Int32) (k : Nat) (own : Bool), N2.1 95 = W → ((x4 = iI (k : Int) ∧ k < 3 ∧ x5 = if own = true then 1 else 0) ∨ (x4 = -1 ∧ k = 9 ∧ own = true)) → wpO (F_MO_numberOf (iI (p : Int)) (iI (s : Int)) (iI (t : Int)) x4 x5 N2) (fun r => r.1 = lI (lF g s t own k) ∧ r.2.1 95 = W ∧ r.2.2 112 = N2.2 112 ∧ r.2.2 113 = N2.2 113) := by
    intro N2 x4 x5 k own h2 hk
    have e := N_numberOfV (M := N2) (x4 := x4) (x5 := x5) (k := k) (own := own) (by rw [h2]; exact h) hp hs ht h0 he hk
    rw [h2, ← eg] at e
    refine wp_mono (wp_q e (Q_MO_numberOf _ _ _ _ _ _)) (fun r hr => ⟨hr.1, ?_, ?_, ?_⟩)
    · exact (funext fun i => (hr.2 95 i (by omega)).1).trans h2
    · exact funext fun i => (hr.2 112 i (by omega)).2
    · exact funext fun i => (hr.2 113 i (by omega)).2
  have lb : ∀ own k, -5821794 ≤ lF g s t own k ∧ lF g s t own k ≤ 5821794 := fun own k => lF_le hg' hs ht h0 he
  unfold F_MO_balances_l43
  refine wp_bind (Ψ := fun r => r.1 = lI (l3 (lX g s t)) ∧ r.2.1 95 = W ∧ ∀ j, j < 3 → r.2.2 112 j = lI (lX g s t j) ∧ r.2.2 113 j = lI (lY g s t j)) ?_ (fun r hr => ?_)
  · refine wp_iterS (P := fun k z => k ≤ nrow s ∧ z.2.1 = iI (k : Int) ∧ z.1 = lI (lS (lF g s t true) k) ∧ z.2.2.1 95 = W ∧ ∀ j, j < 3 → z.2.2.2 112 j = lI (lA s (lF g s t true) k j) ∧ z.2.2.2 113 j = lI (lA t (lF g s t false) k j)) (nrow s) ?_ _ _ ⟨Nat.zero_le _, rfl, rfl, W95, hN2⟩ (FUEL_big (by omega))
    rintro k ⟨z1, z2, N2⟩ hk ⟨kn, e2, e1, m1, m2⟩
    dsimp only at e1 e2 m1 m2
    subst e1
    subst e2
    unfold F_MO_balances_b43
    dsimp only
    refine wp_if (fun c => wp_some ?_) (fun c => ?_)
    · rw [iI_le (by omega) (by omega) (by omega) (by omega)] at c
      have kk : k = nrow s := by omega
      unfold lX lY
      rw [lAll hs h0, ← kk]
      exact ⟨rfl, m1, m2⟩
    rw [iI_le (by omega) (by omega) (by omega) (by omega)] at c
    obtain ⟨b1, b2⟩ := N_bitAt hs (show k < nrow s by omega) N2
    rw [b1, bs]
    refine wp_bind (fr N2 (iI (k : Int)) 1 k true m1 (Or.inl ⟨rfl, by omega, rfl⟩)) (fun r9 h9 => ?_)
    obtain ⟨w1, w4, w5, w6⟩ := h9
    have i3 : inb (iI (btA s k : Int)) 3 := inb_iI (by omega) (by omega) (by omega)
    refine wp_t i3 ?_
    simp only [clN (n := btA s k) (by omega)]
    generalize hN3 : mSL r9.2 112 (btA s k) r9.1 = N3
    have n395 : N3.1 95 = W := by
      rw [← hN3]
      exact w4
    have n3112 : ∀ j, j < 3 → N3.2 112 j = lI (lA s (lF g s t true) (k + 1) j) := fun j hj => by
      rw [← hN3, lA_s]
      dsimp only
      by_cases q : j = btA s k
      · rw [if_pos q, q, mL_hit, w1]
      · rw [if_neg q, mL_ix q, w5]
        exact (m2 j hj).1
    have n3113 : N3.2 113 = N2.2 113 := by
      rw [← hN3]
      funext j
      rw [mL_cell (by decide), w6]
    obtain ⟨b3, b4⟩ := N_bitAt ht (show k < nrow t by omega) N3
    rw [b3, bs]
    refine wp_bind (fr N3 (iI (k : Int)) 0 k false n395 (Or.inl ⟨rfl, by omega, rfl⟩)) (fun r11 h11 => ?_)
    obtain ⟨x1, x4, x5, x6⟩ := h11
    have i4 : inb (iI (btA t k : Int)) 3 := inb_iI (by omega) (by omega) (by omega)
    refine wp_t i4 ?_
    obtain ⟨b5, -⟩ := N_bitAt hs (show k < nrow s by omega) (mSL r11.2 113 (iI (btA t k : Int)).toNatClampNeg r11.1)
    rw [b5, bs]
    refine wp_t i3 (wp_some ⟨by omega, by omega, iI_succ k, ?_, x4, fun j hj => ?_⟩)
    · show lI (lS (lF g s t true) k) + (mSL r11.2 113 _ r11.1).2 112 (iI (btA s k : Int)).toNatClampNeg = _
      rw [mL_cell (by decide), congrFun x5, clN (n := btA s k) (by omega), n3112 _ b2, lAat (n := nrow s) k (by omega) (fun a b ha hb => injT s hs a ha b hb) (k + 1) (by omega) (by omega), lI_add]
      rfl
    · show (mSL r11.2 113 (iI (btA t k : Int)).toNatClampNeg r11.1).2 112 j = _ ∧ (mSL r11.2 113 (iI (btA t k : Int)).toNatClampNeg r11.1).2 113 j = _
      rw [clN (n := btA t k) (by omega), mL_cell (by decide), congrFun x5]
      refine ⟨n3112 j hj, ?_⟩
      rw [lA_s]
      dsimp only
      by_cases q : j = btA t k
      · rw [if_pos q, q, mL_hit, x1]
      · rw [if_neg q, mL_ix q, x6, n3113]
        exact (m2 j hj).2
  obtain ⟨r1, r95, r3⟩ := hr
  have tA : ∀ own, (∀ n, n ≤ 3 → ∀ j, -5821794 ≤ lA s (lF g s t own) n j ∧ lA s (lF g s t own) n j ≤ 5821794) ∧ (∀ n, n ≤ 3 → ∀ j, -5821794 ≤ lA t (lF g s t own) n j ∧ lA t (lF g s t own) n j ≤ 5821794) := fun own => by
    have q : ∀ s' n j, -5821794 ≤ lA s' (lF g s t own) n j ∧ lA s' (lF g s t own) n j ≤ 5821794 := fun s' n j => by
      induction n with
      | zero =>
        show -5821794 ≤ (0 : Int) ∧ (0 : Int) ≤ 5821794
        decide
      | succ n ih =>
        rw [lA_s]
        dsimp only
        by_cases q : j = btA s' n
        · rw [if_pos q]
          exact lb own n
        · rw [if_neg q]
          exact ih
    exact ⟨fun n _ j => q s n j, fun n _ j => q t n j⟩
  have bX : ∀ j, -5821794 ≤ lX g s t j ∧ lX g s t j ≤ 5821794 := fun j => (tA true).1 (nrow s) n2 j
  have bY : ∀ j, -5821794 ≤ lY g s t j ∧ lY g s t j ≤ 5821794 := fun j => (tA false).2 (nrow s) n2 j
  have bV : -5821794 ≤ lV g s t ∧ lV g s t ≤ 5821794 := lb true 9
  have e9 := fr r.2 (-1) 1 9 true r95 (Or.inr ⟨rfl, rfl, rfl⟩)
  generalize hX : lX g s t = X at *
  generalize hY : lY g s t = Y at *
  have lv : lF g s t true 9 = lV g s t := rfl
  rw [lv] at e9
  generalize hV : lV g s t = v at *
  have bS : -17465382 ≤ l3 X ∧ l3 X ≤ 17465382 := by
    have := bX 0
    have := bX 1
    have := bX 2
    rw [l3_e]
    omega
  unfold F_MO_balances_j114
  rw [r1]
  refine wp_if (fun c0 => wp_some (Or.inr ⟨rfl, ?_⟩)) (fun hne => ?_)
  · rw [z0, lI_eq (by omega) (by omega) (by omega) (by omega)] at c0
    rintro ⟨e, -, h1, -⟩
    rw [c0] at h1
    omega
  rw [z0, lI_eq (by omega) (by omega) (by omega) (by omega)] at hne
  refine wp_bind e9 (fun r2 h2 => ?_)
  obtain ⟨w1, w4, w5, w6⟩ := h2
  rw [w1]
  have l156 : ∀ e : Int, (e = 1 ∨ e = -1) → 0 < e * l3 X → wpO (F_MO_balances_l156 (iI (p : Int)) (lI (l3 X)) (lI v) (lI e) true 0 r2.2) (fun r => (r.1 = true ∧ ∃ u d, lTell A g X Y v u d ∧ r.2.2 94 15 = lI (rU u d) ∧ r.2.2 94 16 = lI (rD u d)) ∨ (r.1 = false ∧ ¬ lBal A g X Y v)) := by
    intro e he' hpos
    unfold F_MO_balances_l156
    refine wp_bind (Ψ := fun b => b = true ↔ ∀ k, k < A → lCond A g X Y v e k) ?_ (fun r3 h3 => ?_)
    · refine wp_iterS (P := fun k z => k ≤ A ∧ z.2 = iI (k : Int) ∧ (z.1 = true ↔ ∀ j, j < k → lCond A g X Y v e j)) A ?_ _ _ ⟨Nat.zero_le _, rfl, ⟨fun _ j hj => absurd hj (Nat.not_lt_zero _), fun _ => rfl⟩⟩ (FUEL_big (by omega))
      rintro k ⟨z1, z2⟩ hk ⟨kA, e2, hz⟩
      dsimp only at e2 hz
      subst e2
      unfold F_MO_balances_b156
      dsimp only
      rw [S_actMany, bs, w4, hA]
      refine wp_if (fun c => wp_some ?_) (fun c => ?_)
      · rw [iI_le (by omega) (by omega) (by omega) (by omega)] at c
        have ak : k = A := by omega
        subst ak
        exact hz
      rw [iI_le (by omega) (by omega) (by omega) (by omega)] at c
      have i3 : inb (iI (k : Int)) 3 := inb_iI (by omega) (by omega) (by omega)
      have c112 : ∀ j, j < 3 → r2.2.2 112 j = lI (X j) ∧ r2.2.2 113 j = lI (Y j) := fun j hj => by
        rw [w5, w6]
        exact r3 j hj
      have nx : ∀ b : Bool, (b = true ↔ z1 = true ∧ lCond A g X Y v e k) → (b = true ↔ ∀ j, j < k + 1 → lCond A g X Y v e j) := fun b hb => by
        rw [hb, hz]
        constructor
        · rintro ⟨q1, q2⟩ j hj
          by_cases q : j = k
          · rw [q]
            exact q2
          · exact q1 j (by omega)
        · intro q
          exact ⟨fun j hj => q j (by omega), q k (by omega)⟩
      have zz : -(576357606 * ((0 : Nat) : Int)) ≤ (0 : Int) ∧ (0 : Int) ≤ 576357606 * ((0 : Nat) : Int) := by decide
      have j205 : ∀ s0 : Bool, (s0 = true ↔ z1 = true ∧ 0 ≤ e * X k ∧ 0 ≤ e * Y k) → wpO (F_MO_balances_j205 (iI (p : Int)) (lI (l3 X)) (lI v) (lI e) (iI (k : Int)) s0 r2.2) (sumP (fun s' => k < A ∧ k + 1 ≤ A ∧ s'.2 = iI ((k + 1 : Nat) : Int) ∧ (s'.1 = true ↔ ∀ j, j < k + 1 → lCond A g X Y v e j)) (fun b => b = true ↔ ∀ k, k < A → lCond A g X Y v e k)) := by
        intro s0 hs0
        unfold F_MO_balances_j205 F_MO_balances_l216
        refine wp_bind (Ψ := fun r4 => r4.1 = lI (lSr g Y k A) ∧ r4.2 = lI (lSc g X k A) ∧ (-1729072818 ≤ lSr g Y k A ∧ lSr g Y k A ≤ 1729072818) ∧ (-1729072818 ≤ lSc g X k A ∧ lSc g X k A ≤ 1729072818)) ?_ (fun r4 h4 => ?_)
        · refine wp_iterS (P := fun j z => j ≤ A ∧ z.2.2 = iI (j : Int) ∧ z.1 = lI (lSr g Y k j) ∧ z.2.1 = lI (lSc g X k j) ∧ (-(576357606 * (j : Int)) ≤ lSr g Y k j ∧ lSr g Y k j ≤ 576357606 * (j : Int)) ∧ (-(576357606 * (j : Int)) ≤ lSc g X k j ∧ lSc g X k j ≤ 576357606 * (j : Int))) A ?_ _ _ ⟨Nat.zero_le _, rfl, rfl, rfl, zz, zz⟩ (FUEL_big (by omega))
          rintro j ⟨y1, y2, y3⟩ hj ⟨jA, e3, e1, e2, s1, s2⟩
          dsimp only at e3 e1 e2
          subst e3
          subst e1
          subst e2
          unfold F_MO_balances_b216
          dsimp only
          rw [S_actMany, bs, w4, hA]
          refine wp_if (fun c2 => wp_some ?_) (fun c2 => ?_)
          · rw [iI_le (by omega) (by omega) (by omega) (by omega)] at c2
            have jj : j = A := by omega
            rw [← jj]
            exact ⟨rfl, rfl, by omega, by omega⟩
          rw [iI_le (by omega) (by omega) (by omega) (by omega)] at c2
          have j3 : inb (iI (j : Int)) 3 := inb_iI (by omega) (by omega) (by omega)
          refine wp_t j3 ?_
          rw [N_own hp (by omega) (by omega), bs]
          refine wp_t j3 ?_
          rw [N_own hp (by omega) (by omega), bs]
          have g1 := hg' k j (by omega) (by omega)
          have g2 := hg' j k (by omega) (by omega)
          obtain ⟨cx, cy⟩ := c112 j (by omega)
          have m1 := mulb (bY j).1 (bY j).2 g1.1 g1.2
          have m2 := mulb (bX j).1 (bX j).2 g2.1 g2.2
          rw [w4, gW, gW, iI_l (by omega) (by omega), iI_l (by omega) (by omega), clN (by omega), cx, cy, lI_mul, lI_mul, lI_add, lI_add]
          refine wp_some ⟨by omega, by omega, iI_succ j, rfl, rfl, ?_, ?_⟩
          · show -(576357606 * ((j + 1 : Nat) : Int)) ≤ lSr g Y k j + Y j * g k j ∧ lSr g Y k j + Y j * g k j ≤ 576357606 * ((j + 1 : Nat) : Int)
            omega
          · show -(576357606 * ((j + 1 : Nat) : Int)) ≤ lSc g X k j + X j * g j k ∧ lSc g X k j + X j * g j k ≤ 576357606 * ((j + 1 : Nat) : Int)
            omega
        · obtain ⟨t1, t2, t3, t4⟩ := h4
          unfold F_MO_balances_j277
          rw [t1, t2, lI_mul, lI_mul, lI_mul]
          have be : ∀ x : Int, -1729072818 ≤ x → x ≤ 1729072818 → -1729072818 ≤ e * x ∧ e * x ≤ 1729072818 := fun x h1 h2 => by
            rcases he' with rfl | rfl <;> omega
          have u1 := be _ t3.1 t3.2
          have u2 := be _ t4.1 t4.2
          have u3 := be v (by omega) (by omega)
          refine wp_if (fun d1 => wp_if (fun d2 => ?_) (fun d2 => wp_if (fun d3 => ?_) (fun d3 => ?_))) (fun d1 => ?_)
          · rw [lI_lt (by omega) (by omega) (by omega) (by omega)] at d2
            refine wp_some ⟨by omega, by omega, iI_succ k, nx _ ⟨(fun q => nomatch q), fun q => ?_⟩⟩
            have := q.2.2.1
            omega
          · rw [lI_lt (by omega) (by omega) (by omega) (by omega)] at d2 d3
            refine wp_some ⟨by omega, by omega, iI_succ k, nx _ ⟨(fun q => nomatch q), fun q => ?_⟩⟩
            have := q.2.2.2
            omega
          · rw [lI_lt (by omega) (by omega) (by omega) (by omega)] at d2 d3
            have w := hs0.mp d1
            exact wp_some ⟨by omega, by omega, iI_succ k, nx _ ⟨fun _ => ⟨w.1, w.2, by omega, by omega⟩, fun _ => rfl⟩⟩
          · refine wp_some ⟨by omega, by omega, iI_succ k, nx _ ⟨(fun q => nomatch q), fun q => ?_⟩⟩
            exact absurd (hs0.mpr ⟨q.1, q.2.1⟩) d1
      have be : ∀ x : Int, -5821794 ≤ x → x ≤ 5821794 → -5821794 ≤ e * x ∧ e * x ≤ 5821794 := fun x h1 h2 => by
        rcases he' with rfl | rfl <;> omega
      have u1 := be _ (bX k).1 (bX k).2
      have u2 := be _ (bY k).1 (bY k).2
      obtain ⟨cx, cy⟩ := c112 k (by omega)
      simp only [clN (n := k) (by omega)]
      rw [cx, cy, lI_mul, lI_mul]
      refine wp_if (fun d0 => wp_t i3 (wp_if (fun d1 => j205 _ ⟨(fun q => nomatch q), fun q => ?_⟩) (fun d1 => wp_t i3 (wp_if (fun d2 => j205 _ ⟨(fun q => nomatch q), fun q => ?_⟩) (fun d2 => j205 _ ⟨fun _ => ?_, fun _ => rfl⟩))))) (fun d0 => j205 _ ⟨(fun q => nomatch q), fun q => ?_⟩)
      · rw [z0, lI_lt (by omega) (by omega) (by omega) (by omega)] at d1
        omega
      · rw [z0, lI_lt (by omega) (by omega) (by omega) (by omega)] at d2
        omega
      · rw [z0, lI_lt (by omega) (by omega) (by omega) (by omega)] at d1 d2
        exact ⟨d0, by omega, by omega⟩
      · exact absurd q.1 d0
    · unfold F_MO_balances_j323
      refine wp_if (fun d => ?_) (fun d => wp_some (Or.inr ⟨by cases r3 with | false => rfl | true => exact absurd rfl d, ?_⟩))
      · rw [N_tellsS he' (by omega) (by omega) hpos (by omega) (by omega), bs]
        refine wp_some (Or.inl ⟨d, e * v, e * l3 X, ⟨e, he', hpos, h3.mp d, rfl, rfl⟩, ?_, ?_⟩)
        · show (mSL (mSL r2.2 94 15 _) 94 16 _).2 94 15 = _
          rw [mL_ix (by decide), mL_hit]
        · show (mSL (mSL r2.2 94 15 _) 94 16 _).2 94 16 = _
          rw [mL_hit]
      · rintro ⟨e', g1, g2, g3⟩
        have ee : e' = e := by
          rcases he' with rfl | rfl <;> rcases g1 with rfl | rfl <;> omega
        rw [ee] at g3
        exact d (h3.mpr g3)
  have l1 : (1 : Int64) = lI 1 := rfl
  have lm1 : (-1 : Int64) = lI (-1) := by decide
  refine wp_if (fun d => ?_) (fun d => ?_)
  · rw [z0, lI_le (by omega) (by omega) (by omega) (by omega)] at d
    rw [l1]
    exact l156 1 (Or.inl rfl) (by omega)
  · rw [z0, lI_le (by omega) (by omega) (by omega) (by omega)] at d
    rw [lm1]
    exact l156 (-1) (Or.inr rfl) (by omega)
/-- what the reference's lots tell: the fraction of a way in balance -/
def lTold (A : Nat) (g : Nat → Nat → Int) (u d : Int) : Prop := ∃ X Y v, lWay A g X Y v ∧ lTell A g X Y v u d
theorem N_lotsV {x1 x2 : Int32} {A : Nat} {M : Mem} (h : RIW (M.1 95)) (hA : M.1 95 0 = iI (A : Int)) (a2 : 2 ≤ A) (a3 : A ≤ 3) : wpO (F_MO_lots x1 x2 M) (fun r => ((0 ≤ x1 ∧ x1 ≤ 1) ∧ r.2.1 94 0 = 0 ∧ ∀ p : Nat, x1 = iI (p : Int) → p < 2 → ∃ u d, lTold A (ownW (M.1 95) p) u d ∧ r.1 = if x2 = 0 then lI (rU u d) else lI (rD u d)) ∨ (¬ (0 ≤ x1 ∧ x1 ≤ 1) ∧ r.2.1 94 0 = 1)) := by
  have h0 : RIW ((mSI M 94 0 0).1 95) := h
  have hA0 : (mSI M 94 0 0).1 95 0 = iI (A : Int) := hA
  have t0 : (mSI M 94 0 0).1 94 0 = 0 := mI_hit
  show wpO (F_MO_lots x1 x2 M) (fun r => ((0 ≤ x1 ∧ x1 ≤ 1) ∧ r.2.1 94 0 = 0 ∧ ∀ p : Nat, x1 = iI (p : Int) → p < 2 → ∃ u d, lTold A (ownW ((mSI M 94 0 0).1 95) p) u d ∧ r.1 = if x2 = 0 then lI (rU u d) else lI (rD u d)) ∨ (¬ (0 ≤ x1 ∧ x1 ≤ 1) ∧ r.2.1 94 0 = 1))
  unfold F_MO_lots
  generalize mSI M 94 0 0 = N at *
  rw [S_noPerson, bs]
  by_cases q : 0 ≤ x1 ∧ x1 ≤ 1
  · rw [decide_eq_true q]
    refine wp_thr (fun q => nomatch q) (fun _ => thr_f ?_)
    dsimp only
    have q2 := q
    rw [le_i, le_i, li0, li1] at q2
    obtain ⟨p, rfl, hp1⟩ := iI_of_le (n := 1) q.1 q2.2
    have hp : p < 2 := by omega
    obtain ⟨t1, t2, t3⟩ := ntab3 A (by omega)
    have t8 : 2 ^ A ≤ 8 := Nat.pow_le_pow_right (n := 2) (by decide) a3
    have hg : ∀ i m, i < 3 → m < 3 → -99 ≤ ownW (N.1 95) p i m ∧ ownW (N.1 95) p i m ≤ 99 := fun i m hi hm => ownW_le h0.br hi hm
    obtain ⟨X0, Y0, v0, way0, bal0⟩ := lEx (A := A) (g := ownW (N.1 95) p) a2 a3 hg
    obtain ⟨s0, t00, s1, s2, s3, s4, s5, rfl, rfl, rfl⟩ := lTS a3 way0
    have st : ∀ s t, s < 2 ^ A → t < 2 ^ A → 0 < s → nrow s = nrow t → lWay A (ownW (N.1 95) p) (lX (ownW (N.1 95) p) s t) (lY (ownW (N.1 95) p) s t) (lV (ownW (N.1 95) p) s t) := fun s t q1 q2 q3 q4 => lST a3 q1 q2 q3 q4
    have bv : ∀ (s t : Nat) (M2 : Mem), M2.1 95 = N.1 95 → s < 8 → t < 8 → 0 < s → nrow s = nrow t → wpO (F_MO_balances (iI (p : Int)) (iI (s : Int)) (iI (t : Int)) M2) (fun r => ((r.1 = true ∧ ∃ u d, lTell A (ownW (N.1 95) p) (lX (ownW (N.1 95) p) s t) (lY (ownW (N.1 95) p) s t) (lV (ownW (N.1 95) p) s t) u d ∧ r.2.2 94 15 = lI (rU u d) ∧ r.2.2 94 16 = lI (rD u d)) ∨ (r.1 = false ∧ ¬ lBal A (ownW (N.1 95) p) (lX (ownW (N.1 95) p) s t) (lY (ownW (N.1 95) p) s t) (lV (ownW (N.1 95) p) s t))) ∧ r.2.1 95 = N.1 95 ∧ r.2.1 94 0 = M2.1 94 0) := fun s t M2 e95 q1 q2 q3 q4 => by
      have e := N_balancesV (M := M2) (p := p) (s := s) (t := t) (A := A) (by rw [e95]; exact h0) (by rw [e95]; exact hA0) a2 a3 hp q1 q2 q3 q4
      rw [e95] at e
      exact wp_mono (wp_q e (Q_MO_balances _ _ _ _)) (fun r hr => ⟨hr.1, (funext fun i => (hr.2 95 i (by omega)).1).trans e95, (hr.2 94 0 (by omega)).1⟩)
    have pEq : ∀ p' : Nat, iI (p : Int) = iI (p' : Int) → p' < 2 → p' = p := fun p' e hp' => by
      rw [iI_eq (by omega) (by omega) (by omega) (by omega)] at e
      omega
    generalize hgg : (ownW (N.1 95) p) = g at *
    generalize hNN : 2 ^ A = NN at *
    unfold F_MO_lots_l24
    refine wp_bind (Ψ := fun r => r.1 94 0 = 0 ∧ ∃ u d, lTold A g u d ∧ r.2 94 15 = lI (rU u d) ∧ r.2 94 16 = lI (rD u d)) ?_ (fun r hr => ?_)
    · refine wp_iterS (P := fun k z => z.2.1 = iI ((k + 1 : Nat) : Int) ∧ k + 1 ≤ NN ∧ z.2.2.1 95 = N.1 95 ∧ z.2.2.1 94 0 = 0 ∧ ((z.1 = true ∧ ∃ u d, lTold A g u d ∧ z.2.2.2 94 15 = lI (rU u d) ∧ z.2.2.2 94 16 = lI (rD u d)) ∨ (z.1 = false ∧ k + 1 ≤ s0))) 8 ?_ _ _ ⟨rfl, by omega, rfl, t0, Or.inr ⟨rfl, by omega⟩⟩ (FUEL_big (by decide))
      rintro k ⟨z1, z2, N1⟩ hk ⟨e2, kN, m1, m0, hz⟩
      dsimp only at e2 m1 m0 hz
      subst e2
      unfold F_MO_lots_b24
      dsimp only
      rw [S_actMany, bs, m1, hA0, t1]
      refine wp_if (fun c => wp_some ?_) (fun c => ?_)
      · rw [iI_le (by omega) (by omega) (by omega) (by omega)] at c
        rcases hz with ⟨hz1, hz2⟩ | ⟨hz1, hz2⟩
        · exact ⟨m0, hz2⟩
        · omega
      rw [iI_le (by omega) (by omega) (by omega) (by omega)] at c
      refine wp_if (fun d => wp_some ?_) (fun d => ?_)
      · rcases hz with ⟨hz1, hz2⟩ | ⟨hz1, hz2⟩
        · exact ⟨m0, hz2⟩
        · rw [hz1] at d
          exact nomatch d
      have hz' : z1 = false ∧ k + 1 ≤ s0 := by
        rcases hz with ⟨hz1, hz2⟩ | hz
        · exact absurd hz1 d
        · exact hz
      obtain ⟨rfl, ks⟩ := hz'
      unfold F_MO_lots_l42
      refine wp_bind (Ψ := fun r => r.2.1 95 = N.1 95 ∧ r.2.1 94 0 = 0 ∧ ((r.1 = true ∧ ∃ u d, lTold A g u d ∧ r.2.2 94 15 = lI (rU u d) ∧ r.2.2 94 16 = lI (rD u d)) ∨ (r.1 = false ∧ k + 1 + 1 ≤ s0))) ?_ (fun r hr => wp_some ⟨by omega, iI_succ (k + 1), by omega, hr⟩)
      refine wp_iterS (P := fun j z => z.2.1 = iI ((j + 1 : Nat) : Int) ∧ j + 1 ≤ NN ∧ z.2.2.1 95 = N.1 95 ∧ z.2.2.1 94 0 = 0 ∧ ((z.1 = true ∧ ∃ u d, lTold A g u d ∧ z.2.2.2 94 15 = lI (rU u d) ∧ z.2.2.2 94 16 = lI (rD u d)) ∨ (z.1 = false ∧ (k + 1 = s0 → j + 1 ≤ t00)))) 8 ?_ _ _ ⟨rfl, by omega, m1, m0, Or.inr ⟨rfl, fun _ => by omega⟩⟩ (FUEL_big (by decide))
      rintro j ⟨y1, y2, N2⟩ hj ⟨e2, jN, o1, o0, hy⟩
      dsimp only at e2 o1 o0 hy
      subst e2
      unfold F_MO_lots_b42
      dsimp only
      rw [S_actMany, bs, o1, hA0, t1]
      refine wp_if (fun c2 => wp_some ⟨o1, o0, ?_⟩) (fun c2 => ?_)
      · rw [iI_le (by omega) (by omega) (by omega) (by omega)] at c2
        rcases hy with hy | ⟨hy1, hy2⟩
        · exact Or.inl hy
        · refine Or.inr ⟨hy1, ?_⟩
          rcases Nat.lt_or_ge (k + 1) s0 with w | w
          · exact w
          · have := hy2 (by omega)
            omega
      rw [iI_le (by omega) (by omega) (by omega) (by omega)] at c2
      refine wp_if (fun d2 => wp_some ⟨o1, o0, ?_⟩) (fun d2 => ?_)
      · rcases hy with hy | ⟨hy1, hy2⟩
        · exact Or.inl hy
        · rw [hy1] at d2
          exact nomatch d2
      have hk8 : k + 1 < 8 := by omega
      have hj8 : j + 1 < 8 := by omega
      rw [bc_eq, bs, bc_eq, bs, (nrtab _ hk8).1, (nrtab _ hj8).1]
      have nk := (nrtab _ hk8).2.1
      have nj := (nrtab _ hj8).2.1
      have hy' : k + 1 = s0 → j + 1 ≤ t00 := by
        rcases hy with ⟨hy1, -⟩ | ⟨-, hy2⟩
        · exact absurd hy1 d2
        · exact hy2
      have y1f : y1 = false := by
        cases y1
        · rfl
        · exact absurd rfl d2
      refine wp_if (fun c3 => ?_) (fun c3 => wp_some ⟨by omega, iI_succ (j + 1), by omega, o1, o0, Or.inr ⟨y1f, fun ek => ?_⟩⟩)
      · rw [iI_eq (by omega) (by omega) (by omega) (by omega)] at c3
        refine wp_bind (bv (k + 1) (j + 1) N2 o1 hk8 hj8 (by omega) (by omega)) (fun r7 h7 => ?_)
        obtain ⟨h7, h75, h70⟩ := h7
        refine wp_some ⟨by omega, iI_succ (j + 1), by omega, h75, h70.trans o0, ?_⟩
        rcases h7 with ⟨f1, u, d, f2, f3⟩ | ⟨f1, f2⟩
        · exact Or.inl ⟨f1, u, d, ⟨_, _, _, st (k + 1) (j + 1) (by omega) (by omega) (by omega) (by omega), f2⟩, f3⟩
        · refine Or.inr ⟨f1, fun ek => ?_⟩
          have w := hy' ek
          rcases Nat.lt_or_ge (j + 1) t00 with w2 | w2
          · exact w2
          · have ej : j + 1 = t00 := by omega
            rw [ek, ej] at f2
            exact absurd bal0 f2
      · rw [iI_eq (by omega) (by omega) (by omega) (by omega)] at c3
        have w := hy' ek
        rcases Nat.lt_or_ge (j + 1) t00 with w2 | w2
        · exact w2
        · have ej : j + 1 = t00 := by omega
          rw [ek, ej] at c3
          omega
    · obtain ⟨r0, u, d, h1, h2, h3⟩ := hr
      unfold F_MO_lots_j92
      refine wp_if (fun c => wp_some (Or.inl ⟨q, r0, fun p' e hp' => ⟨u, d, ?_, ?_⟩⟩)) (fun c => wp_some (Or.inl ⟨q, r0, fun p' e hp' => ⟨u, d, ?_, ?_⟩⟩))
      · rw [pEq p' e hp', hgg]
        exact h1
      · rw [if_pos c]
        exact h2
      · rw [pEq p' e hp', hgg]
        exact h1
      · rw [if_neg c]
        exact h3
  · rw [decide_eq_false q]
    exact wp_thr (fun _ => thr_t (wp_some (Or.inr ⟨q, mI_hit⟩))) (fun q => nomatch q)
