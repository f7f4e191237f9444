/-! ===== the reference's gains, first ===== -/
theorem N_gains {a b s p : Nat} {P q : Int} {M : Mem} (ha : a ≤ 8) (hb : b ≤ 8) (hA : WOKW (M.1 95) a) (hB : WOKW (M.1 95) b) (hbr : brOK (M.1 95)) (hact : 2 ≤ (M.1 95 0).toInt ∧ (M.1 95 0).toInt ≤ 3) (hP : M.1 94 19 = iI P) (hQ : M.1 94 20 = iI q) (p1 : 1 ≤ P) (p2 : P < q) (p3 : q ≤ 12) (hw : ∀ s p, stW (M.1 95) a b s → p < 2 → wOK (M.1 95) a b P q M s p) (hs : stW (M.1 95) a b s) (hp : p < 2) : wpO (F_MO_gains (iI (a : Int)) (iI (b : Int)) (iI (s : Int)) (iI (p : Int)) M) (fun _ => True) := by
  have hs9 := st_lt hA hs
  have da := (hA.dzK hs.1).1
  have db := (hB.dzK hs.2).1
  obtain ⟨a1, a2, -⟩ := hA.moK
  obtain ⟨b1, b2, -⟩ := hB.moK
  have l0 : (0 : Int32) = iI 0 := rfl
  have p64 : (M.1 94 19).toInt64 = lI P := by rw [hP, iI_l (by omega) (by omega)]
  have q64 : (M.1 94 20).toInt64 = lI q := by rw [hQ, iI_l (by omega) (by omega)]
  have core : ∀ (x5 x6 x7 x8 : Int32) (f g : Nat), f ≤ 2 → g ≤ 2 → wpO (F_MO_gains_j93 (iI (a : Int)) (iI (b : Int)) (iI (s : Int)) (iI (p : Int)) (iI ((s / 3 : Nat) : Int)) (iI ((s % 3 : Nat) : Int)) x7 x8 (iI (f : Int)) (iI (g : Int)) M) (fun x => match x with | .inl z => z = x8 + 1 | .inr _ => True) := by
    intro x5 x6 x7 x8 f g hf hg
    unfold F_MO_gains_j93
    have ga := (hA.gzK (s := g) hs.1 (by omega)).1
    have gb := (hB.gzK (s := f) hs.2 (by omega)).1
    rw [N_goesW ha hA hs.1 hg, bs, N_goesW hb hB hs.2 hf, bs, N_brings (by omega) (by omega) hp, bs]
    have e1 : (2 * ((3 * iI (gz (M.1 95) a (s / 3) g : Int)) + iI (gz (M.1 95) b (s % 3) f : Int))) + iI (p : Int) = iI ((2 * (3 * gz (M.1 95) a (s / 3) g + gz (M.1 95) b (s % 3) f) + p : Nat) : Int) := by
      rw [l32_2, l32_3, iI_mul, iI_add, iI_mul, iI_add]
      rfl
    have e2 : (2 * iI (s : Int)) + iI (p : Int) = iI ((2 * s + p : Nat) : Int) := by
      rw [l32_2, iI_mul, iI_add]
      rfl
    rw [e1, e2]
    refine wp_t (inb_iI (by omega) (by omega) (by omega)) (wp_t (inb_iI (by omega) (by omega) (by omega)) (wp_t (inb_iI (by omega) (by omega) (by omega)) (wp_t (inb_iI (by omega) (by omega) (by omega)) (wp_t (inb_iI (by omega) (by omega) (by omega)) ?_))))
    rw [clamp_iI (by omega) (by omega), clamp_iI (by omega) (by omega)]
    have hst : stW (M.1 95) a b (3 * gz (M.1 95) a (s / 3) g + gz (M.1 95) b (s % 3) f) := by
      unfold stW
      exact ⟨by omega, by omega⟩
    obtain ⟨u, d, v1, v2, v3, v4⟩ := (hw _ p hst hp).val (by omega) p3
    obtain ⟨u2, d2, y1, y2, y3, y4⟩ := (hw _ p hs hp).val (by omega) p3
    have hb9 := brx_le hbr (x := f) (y := g) (p := p) (by omega) (by omega) hp
    have hb10 := brx_le hbr (x := g) (y := f) (p := p) (by omega) (by omega) hp
    have fin : ∀ bv : Int, -99 ≤ bv → bv ≤ 99 → wpO (F_MO_compared ((((iI bv).toInt64 * ((M.1 94 20).toInt64)) * (M.2 105 ((2 * (3 * gz (M.1 95) a (s / 3) g + gz (M.1 95) b (s % 3) f) + p : Nat) : Int).toNat)) + (((M.1 94 19).toInt64) * (M.2 104 ((2 * (3 * gz (M.1 95) a (s / 3) g + gz (M.1 95) b (s % 3) f) + p : Nat) : Int).toNat))) (((M.1 94 20).toInt64) * (M.2 105 ((2 * (3 * gz (M.1 95) a (s / 3) g + gz (M.1 95) b (s % 3) f) + p : Nat) : Int).toNat)) (M.2 104 ((2 * s + p : Nat) : Int).toNat) (M.2 105 ((2 * s + p : Nat) : Int).toNat) M) (fun _ => True) := by
      intro bv hb1 hb2
      rw [show ((2 * (3 * gz (M.1 95) a (s / 3) g + gz (M.1 95) b (s % 3) f) + p : Nat) : Int).toNat = 2 * (3 * gz (M.1 95) a (s / 3) g + gz (M.1 95) b (s % 3) f) + p from rfl, show ((2 * s + p : Nat) : Int).toNat = 2 * s + p from rfl, v1, v2, y1, y2, p64, q64, iI_l (by omega) (by omega), lI_mul, lI_mul, lI_mul, lI_add, lI_mul]
      obtain ⟨c1, c2, c3⟩ := fb_back (gk := bv) p1 p2 (by decide) ⟨hb1, hb2⟩ v3
      dsimp only at c1 c2 c3
      have hqd : q * d ≤ 12 * 5159780352 := Int.mul_le_mul p3 v4 (by have := v3.1; dsimp only at this; omega) (by omega)
      obtain ⟨f1, f2, f3, f4⟩ := fb_num (u := bv * q * d + P * u) (d := q * d) (by omega) p3 ⟨c1, c2, c3⟩ (by omega)
      obtain ⟨g1, g2, g3, g4⟩ := fb_num (by omega) p3 y3 (by omega)
      exact ⟨_, N_compared f1 f2 f3 f4 g1 g2 g3 g4 M, trivial⟩
    first
      | exact wp_bind (fin _ hb9.1 hb9.2) (fun r _ => wp_if (fun _ => wp_some rfl) (fun _ => wp_some trivial))
      | exact wp_bind (fin _ hb10.1 hb10.2) (fun r _ => wp_if (fun _ => wp_some rfl) (fun _ => wp_some trivial))
  have loop : ∀ x7 : Int32, wpO (F_MO_gains_l37 (iI (a : Int)) (iI (b : Int)) (iI (s : Int)) (iI (p : Int)) (iI ((s / 3 : Nat) : Int)) (iI ((s % 3 : Nat) : Int)) x7 0 M) (fun _ => True) := by
    intro x7
    unfold F_MO_gains_l37
    refine wp_bind (Ψ := fun _ => True) ?_ (fun q _ => by rcases q with q | q <;> exact wp_some trivial)
    refine wp_iter (P := fun k z => z = iI (k : Int)) (M.1 95 0).toInt.toNat ?_ _ _ rfl (FUEL_big (by omega))
    intro k z hk hz
    subst hz
    unfold F_MO_gains_b37
    rw [S_actMany, bs]
    have eA : M.1 95 0 = iI (((M.1 95 0).toInt.toNat : Nat) : Int) := iI_nat (by omega)
    refine wp_if (fun c => wp_some trivial) (fun c => ?_)
    have hlt : k < (M.1 95 0).toInt.toNat := by
      rw [eA, iI_le] at c <;> omega
    refine wp_if (fun _ => wp_some ⟨hlt, iI_succ k⟩) (fun _ => ?_)
    have last : ∀ f g : Nat, f ≤ 2 → g ≤ 2 → wpO (F_MO_gains_j93 (iI (a : Int)) (iI (b : Int)) (iI (s : Int)) (iI (p : Int)) (iI ((s / 3 : Nat) : Int)) (iI ((s % 3 : Nat) : Int)) x7 (iI (k : Int)) (iI (f : Int)) (iI (g : Int)) M) (fun x => match x with | .inl s' => k < (M.1 95 0).toInt.toNat ∧ s' = iI ((k + 1 : Nat) : Int) | .inr _ => True) := by
      intro f g hf hg
      refine wp_mono (core 0 0 x7 (iI (k : Int)) f g hf hg) (fun x hx => ?_)
      rcases x with x | x
      · exact ⟨hlt, hx.trans (iI_succ k)⟩
      · trivial
    have mid : ∀ f : Nat, f ≤ 2 → wpO (F_MO_gains_j73 (iI (a : Int)) (iI (b : Int)) (iI (s : Int)) (iI (p : Int)) (iI ((s / 3 : Nat) : Int)) (iI ((s % 3 : Nat) : Int)) x7 (iI (k : Int)) (iI (f : Int)) M) (fun x => match x with | .inl s' => k < (M.1 95 0).toInt.toNat ∧ s' = iI ((k + 1 : Nat) : Int) | .inr _ => True) := by
      intro f hf
      unfold F_MO_gains_j73
      refine wp_if (fun _ => last f k hf (by omega)) (fun _ => ?_)
      rw [N_doesW hb hB hs.2, bs]
      exact last f _ hf db
    refine wp_if (fun _ => wp_mono (mid k (by omega)) (fun x hx => by rcases x with x | x <;> exact hx)) (fun _ => ?_)
    rw [N_doesW ha hA hs.1, bs]
    exact wp_mono (mid _ da) (fun x hx => by rcases x with x | x <;> exact hx)
  unfold F_MO_gains
  rw [idiv3 hs9, irm3 hs9]
  refine wp_if (fun _ => ?_) (fun _ => ?_)
  · rw [N_doesW ha hA hs.1, bs]
    exact loop _
  · rw [N_doesW hb hB hs.2, bs]
    exact loop _
theorem N_firstOf {a b : Nat} {P q : Int} {M : Mem} (ha : a ≤ 8) (hb : b ≤ 8) (hA : WOKW (M.1 95) a) (hB : WOKW (M.1 95) b) (hbr : brOK (M.1 95)) (hact : 2 ≤ (M.1 95 0).toInt ∧ (M.1 95 0).toInt ≤ 3) (hP : M.1 94 19 = iI P) (hQ : M.1 94 20 = iI q) (p1 : 1 ≤ P) (p2 : P < q) (p3 : q ≤ 12) : wpO (F_MO_firstOf (iI (a : Int)) (iI (b : Int)) M) (fun r => frW M r.2 ∧ ∀ s p, stW (M.1 95) a b s → p < 2 → wOK (M.1 95) a b P q r.2 s p) := by
  unfold F_MO_firstOf
  refine wp_bind (N_worths ha hb hA hB hbr hP hQ p1 p2 p3) (fun M1 h => ?_)
  obtain ⟨f1, f2⟩ := h
  have e95 := f1.w95
  unfold F_MO_firstOf_l8
  refine wp_bind (Ψ := fun _ => True) ?_ (fun q _ => by rcases q with q | q <;> exact wp_some ⟨f1, f2⟩)
  refine wp_iter (P := fun k z => z = iI (k : Int)) 9 ?_ _ _ rfl (FUEL_big (by decide))
  intro k z hk hz
  subst hz
  unfold F_MO_firstOf_b8
  refine wp_if (fun _ => wp_some trivial) (fun c => ?_)
  have hlt : k < 9 := by
    rw [l32_9, iI_le] at c <;> omega
  unfold F_MO_firstOf_l17
  refine wp_bind (Ψ := fun _ => True) ?_ (fun q _ => by
    rcases q with q | q
    · exact wp_some trivial
    · exact wp_some ⟨hlt, iI_succ k⟩)
  refine wp_iter (P := fun p z => z = iI (p : Int)) 2 ?_ _ _ rfl (FUEL_big (by decide))
  intro p z hp hz
  subst hz
  unfold F_MO_firstOf_b17
  refine wp_if (fun _ => wp_some trivial) (fun c2 => ?_)
  have hlt2 : p < 2 := by
    rw [l32_2, iI_le] at c2 <;> omega
  obtain ⟨r, hr, hst⟩ := N_isState (M := M1) (s := k) ha hb (by rw [e95]; exact hA) (by rw [e95]; exact hB) hlt
  rw [hr, bs]
  refine wp_if (fun c3 => ?_) (fun _ => wp_some trivial)
  have hs := hst.mp c3
  refine wp_bind (N_gains (M := M1) (P := P) (q := q) ha hb (by rw [e95]; exact hA) (by rw [e95]; exact hB) (by rw [e95]; exact hbr) (by rw [e95]; exact hact) (by rw [f1.1 94 19 (by decide), hP]) (by rw [f1.1 94 20 (by decide), hQ]) p1 p2 p3 (by rw [e95]; exact f2) hs hlt2) (fun r3 _ => ?_)
  exact wp_if (fun _ => wp_some trivial) (fun _ => wp_some ⟨hlt2, iI_succ p⟩)
