/-! ===== the reference's days: meets, judge, brought, drawn, stays ===== -/
theorem b2_of {W : Nat → Int32} {w m : Nat} (h : WOKW W w) (hm : m < mo W w) : dz W w m ≤ 2 := (h.dzK hm).1
theorem N_meets {a b : Nat} {M : Mem} (ha : a ≤ 8) (hb : b ≤ 8) (hA : WOKW (M.1 95) a) (hB : WOKW (M.1 95) b) (hr : (M.1 95 6).toInt ≤ 30) : wpO (F_MO_meets (iI (a : Int)) (iI (b : Int)) M) (fun _ => True) := by
  obtain ⟨a1, a2, -⟩ := hA.moK
  obtain ⟨b1, b2, -⟩ := hB.moK
  unfold F_MO_meets F_MO_meets_l11
  refine wp_bind (Ψ := fun _ => True) ?_ (fun r _ => wp_some trivial)
  refine wp_iter (P := fun k z => z.2.2.2 = iI (k : Int) ∧ ∃ x y : Nat, z.1 = iI (x : Int) ∧ z.2.1 = iI (y : Int) ∧ x < mo (M.1 95) a ∧ y < mo (M.1 95) b) 30 ?_ _ _ ⟨rfl, 0, 0, rfl, rfl, by omega, by omega⟩ (FUEL_big (by decide))
  rintro k ⟨z1, z2, z3, z4⟩ hk ⟨h4, x, y, h1, h2, hx, hy⟩
  dsimp only at h4 h1 h2
  subst h4
  subst h1
  subst h2
  unfold F_MO_meets_b11
  dsimp only
  refine wp_t ib6 ?_
  simp only [tn6]
  refine wp_if (fun _ => wp_some trivial) (fun c => ?_)
  have hlt : k < 30 := by
    rw [le_i, iI_toInt (by omega) (by omega)] at c
    omega
  have d1 := b2_of hA hx
  have d2 := b2_of hB hy
  rw [N_doesW ha hA hx, bs, N_doesW hb hB hy, bs, show (0 : Int32) = iI ((0 : Nat) : Int) from rfl, N_brings (by omega) (by omega) (by decide), bs, N_goesW ha hA hx d2, bs, N_goesW hb hB hy d1, bs]
  exact wp_some ⟨hlt, iI_succ k, _, _, rfl, rfl, (hA.gzK hx (by omega)).1, (hB.gzK hy (by omega)).1⟩
theorem N_stays {w : Nat} {M : Mem} (hR : RIW (M.1 95)) (hw : (w : Int) < (M.1 95 5).toInt) : wpO (F_MO_stays_l37 (iI (w : Int)) true 0 M) (fun r => r.2 = M) := by
  have r5 := hR.ways
  have r6 := hR.rnds.2
  have hA := hR.way w hw
  have w8 : w ≤ 8 := by omega
  unfold F_MO_stays_l37
  refine wp_bind (Ψ := fun _ => True) ?_ (fun r _ => wp_some rfl)
  refine wp_iter (P := fun k z => z.2 = iI (k : Int)) 8 ?_ _ _ rfl (FUEL_big (by decide))
  rintro k ⟨z1, z2⟩ hk h2
  dsimp only at h2
  subst h2
  unfold F_MO_stays_b37
  dsimp only
  refine wp_t ib5 ?_
  simp only [tn5]
  refine wp_if (fun _ => wp_some trivial) (fun c => ?_)
  have hlt : (k : Int) < (M.1 95 5).toInt := by
    rw [le_i, iI_toInt (by omega) (by omega)] at c
    omega
  have hB := hR.way k hlt
  have k8 : k < 8 := by omega
  have kk : k ≤ 8 := by omega
  refine wp_if (fun _ => wp_some ⟨k8, iI_succ k⟩) (fun _ => ?_)
  rw [N_isBarred kk hB, bs]
  refine wp_if (fun _ => wp_some ⟨k8, iI_succ k⟩) (fun _ => ?_)
  refine wp_bind (N_meets w8 w8 hA hA r6) (fun r6 _ => wp_bind (N_meets kk w8 hB hA ‹_›) (fun r7 _ => ?_))
  refine wp_if (fun _ => ?_) (fun _ => wp_some ⟨k8, iI_succ k⟩)
  refine wp_if (fun _ => wp_some ⟨k8, iI_succ k⟩) (fun _ => wp_if (fun _ => ?_) (fun _ => wp_some ⟨k8, iI_succ k⟩))
  refine wp_bind (N_meets w8 kk hA hB ‹_›) (fun r8 _ => wp_bind (N_meets kk kk hB hB ‹_›) (fun r9 _ => ?_))
  exact wp_if (fun _ => wp_some ⟨k8, iI_succ k⟩) (fun _ => wp_some ⟨k8, iI_succ k⟩)
theorem row2 {W : Nat → Int32} (h : RIW W) {j : Nat} (hj : j < 400) : ∃ d : Nat, d ≤ 2 ∧ W (152 + j) = iI (d : Int) := by
  have h1 := h.row j hj
  exact ⟨(W (152 + j)).toInt.toNat, by omega, iI_nat h1.1⟩
theorem e152 (k : Nat) : 152 + (2 * iI (k : Int)) = iI ((152 + 2 * k : Nat) : Int) := by
  rw [l32_152, l32_2, iI_mul, iI_add]
  rfl
theorem e153 (k : Nat) : iI ((152 + 2 * k : Nat) : Int) + 1 = iI ((152 + (2 * k + 1) : Nat) : Int) := by
  rw [l32_1, iI_add]
  congr 1
theorem N_judge {a b : Nat} {M : Mem} (hR : RIW (M.1 95)) (ha : a ≤ 8) (hb : b ≤ 8) (hA : WOKW (M.1 95) a) (hB : WOKW (M.1 95) b) : wpO (F_MO_judge_l73 (iI (a : Int)) (iI (b : Int)) 0 0 0 M) (fun r => r.2 = M) := by
  obtain ⟨a1, a2, -⟩ := hA.moK
  obtain ⟨b1, b2, -⟩ := hB.moK
  have r7 := hR.rowN
  unfold F_MO_judge_l73
  refine wp_bind (Ψ := fun _ => True) ?_ (fun q _ => by
    rcases q with q | q
    · exact wp_some rfl
    · rcases q with q | q <;> exact wp_some rfl)
  refine wp_iter (P := fun k z => z.2.2 = iI (k : Int) ∧ ∃ x y : Nat, z.1 = iI (x : Int) ∧ z.2.1 = iI (y : Int) ∧ x < mo (M.1 95) a ∧ y < mo (M.1 95) b) 200 ?_ _ _ ⟨rfl, 0, 0, rfl, rfl, by omega, by omega⟩ (FUEL_big (by decide))
  rintro k ⟨z1, z2, z3⟩ hk ⟨h4, x, y, h1, h2, hx, hy⟩
  dsimp only at h4 h1 h2
  subst h4
  subst h1
  subst h2
  unfold F_MO_judge_b73
  dsimp only
  refine wp_t ib7 ?_
  simp only [tn7]
  refine wp_if (fun _ => wp_some trivial) (fun c => ?_)
  have hlt : k < 200 := by
    rw [le_i, iI_toInt (by omega) (by omega)] at c
    omega
  rw [e152, e153]
  refine wp_t (inb_iI (by omega) (by omega) (by omega)) (wp_t (inb_iI (by omega) (by omega) (by omega)) ?_)
  rw [clamp_iI (by omega) (by omega), clamp_iI (by omega) (by omega), show ((152 + 2 * k : Nat) : Int).toNat = 152 + 2 * k from rfl, show ((152 + (2 * k + 1) : Nat) : Int).toNat = 152 + (2 * k + 1) from rfl]
  obtain ⟨f, f1, f2⟩ := row2 hR (j := 2 * k) (by omega)
  obtain ⟨g, g1, g2⟩ := row2 hR (j := 2 * k + 1) (by omega)
  rw [f2, g2, N_doesW ha hA hx, bs]
  refine wp_if (fun _ => ?_) (fun _ => wp_some trivial)
  rw [N_doesW hb hB hy, bs]
  refine wp_if (fun _ => ?_) (fun _ => wp_some trivial)
  rw [N_goesW ha hA hx g1, bs, N_goesW hb hB hy f1, bs]
  exact wp_some ⟨hlt, iI_succ k, _, _, rfl, rfl, (hA.gzK hx (by omega)).1, (hB.gzK hy (by omega)).1⟩
theorem N_rowIsBarred {M : Mem} (hR : RIW (M.1 95)) : wpO (F_MO_rowIsBarred M) (fun _ => True) := by
  have r7 := hR.rowN
  have r0 := hR.acts
  unfold F_MO_rowIsBarred F_MO_rowIsBarred_l4
  refine wp_bind (Ψ := fun _ => True) ?_ (fun r _ => wp_some trivial)
  refine wp_iter (P := fun k z => z.2 = iI (k : Int)) 400 ?_ _ _ rfl (FUEL_big (by decide))
  rintro k ⟨z1, z2⟩ hk h2
  dsimp only at h2
  subst h2
  unfold F_MO_rowIsBarred_b4
  dsimp only
  refine wp_t ib7 ?_
  simp only [tn7]
  refine wp_if (fun _ => wp_some trivial) (fun c => ?_)
  have e2 : (2 * M.1 95 7).toInt = 2 * (M.1 95 7).toInt := by rw [p32] <;> rw [li2] <;> omega
  have hlt : k < 400 := by
    rw [le_i, e2, iI_toInt (by omega) (by omega)] at c
    omega
  refine wp_if (fun _ => wp_some ⟨hlt, iI_succ k⟩) (fun _ => ?_)
  have e3 : 152 + iI (k : Int) = iI ((152 + k : Nat) : Int) := by
    rw [l32_152, iI_add]
    rfl
  rw [e3]
  refine wp_t (inb_iI (by omega) (by omega) (by omega)) ?_
  have h0 : 0 ≤ M.1 95 0 := by rw [le_i, li0]; omega
  rw [S_noAct h0, bs]
  exact wp_if (fun _ => wp_some ⟨hlt, iI_succ k⟩) (fun _ => wp_some ⟨hlt, iI_succ k⟩)
theorem N_brought {p : Nat} {M : Mem} (hR : RIW (M.1 95)) (hp : p < 2) : wpO (F_MO_brought_l23 (iI (p : Int)) 0 0 M) (fun r => r.2 = M) := by
  have r7 := hR.rowN
  unfold F_MO_brought_l23
  refine wp_bind (Ψ := fun _ => True) ?_ (fun r _ => wp_some rfl)
  refine wp_iter (P := fun k z => z.2 = iI (k : Int)) 200 ?_ _ _ rfl (FUEL_big (by decide))
  rintro k ⟨z1, z2⟩ hk h2
  dsimp only at h2
  subst h2
  unfold F_MO_brought_b23
  dsimp only
  refine wp_t ib7 ?_
  simp only [tn7]
  refine wp_if (fun _ => wp_some trivial) (fun c => ?_)
  have hlt : k < 200 := by
    rw [le_i, iI_toInt (by omega) (by omega)] at c
    omega
  rw [e152, e153]
  refine wp_t (inb_iI (by omega) (by omega) (by omega)) (wp_t (inb_iI (by omega) (by omega) (by omega)) ?_)
  rw [clamp_iI (by omega) (by omega), clamp_iI (by omega) (by omega), show ((152 + 2 * k : Nat) : Int).toNat = 152 + 2 * k from rfl, show ((152 + (2 * k + 1) : Nat) : Int).toNat = 152 + (2 * k + 1) from rfl]
  obtain ⟨f, f1, f2⟩ := row2 hR (j := 2 * k) (by omega)
  obtain ⟨g, g1, g2⟩ := row2 hR (j := 2 * k + 1) (by omega)
  rw [f2, g2, N_brings (by omega) (by omega) hp, bs]
  exact wp_some ⟨hlt, iI_succ k⟩
def frS (M M' : Mem) : Prop := (∀ c j, ¬ (c = 94 ∧ j = 37) → M'.1 c j = M.1 c j) ∧ M'.2 = M.2
theorem frS.rf {M : Mem} : frS M M := ⟨fun _ _ _ => rfl, rfl⟩
theorem frS.tr {M M1 M2 : Mem} (h : frS M M1) (h2 : frS M1 M2) : frS M M2 := ⟨fun c j hc => (h2.1 c j hc).trans (h.1 c j hc), h2.2.trans h.2⟩
theorem frS.w95 {M M' : Mem} (h : frS M M') : M'.1 95 = M.1 95 := funext fun j => h.1 95 j (by omega)
theorem frS.up {M : Mem} {v : Int32} : frS M (mSI M 94 37 v) := ⟨fun c j h => by rw [mSI_1, if_neg h], rfl⟩
theorem N_isMistaken {M : Mem} (hR : RIW (M.1 95)) : wpO (F_MO_isMistaken M) (fun r => frS M r.2 ∧ (r.1 = true → ¬ M.1 95 3 = 0)) := by
  have h := hR.mis
  have hne : ¬ M.1 95 4 = 0 := fun q => by
    rw [q, li0] at h
    omega
  unfold F_MO_isMistaken
  simp only [tn3, tn4, mI_cell (show (95 : Nat) ≠ 94 by decide)]
  refine wp_t ib3 (wp_if (fun _ => wp_some ⟨frS.rf, fun q => by cases q⟩) (fun c => ?_))
  refine wp_t ib4 (wp_t hne (wp_t ib3 ?_))
  exact wp_if (fun _ => wp_some ⟨frS.up, fun q => by cases q⟩) (fun _ => wp_some ⟨frS.up, fun _ => c⟩)
theorem N_drawn {a b w : Nat} {x3 : Int32} {M : Mem} (hR : RIW (M.1 95)) (ha : a ≤ 8) (hb : b ≤ 8) (hA : WOKW (M.1 95) a) (hB : WOKW (M.1 95) b) (h1 : barW (M.1 95) a = false) (h2 : barW (M.1 95) b = false) (hE : ¬ M.1 95 3 = 0 → (M.1 95 0).toInt = 2) (hx3 : x3.toInt ≤ 100) (hw : w ≤ 3) : wpO (F_MO_drawn_l139 (iI (a : Int)) (iI (b : Int)) x3 (iI (w : Int)) 0 0 0 0 M) (fun r => frS M r.2) := by
  obtain ⟨a1, a2, -⟩ := hA.moK
  obtain ⟨b1, b2, -⟩ := hB.moK
  have hw2 : irm (iI (w : Int)) 2 = iI ((w % 2 : Nat) : Int) := by
    rw [l32_2, irm_iI (by omega) (by omega) (by omega) (by omega)]
    show iI ((w : Int).tmod ((2 : Nat) : Int)) = _
    rw [← Int.ofNat_tmod]
  unfold F_MO_drawn_l139
  refine wp_bind (Ψ := fun r => frS M r.2.2.2) ?_ (fun r hr => ?_)
  · refine wp_iter (P := fun k z => z.2.2.2.1 = iI (k : Int) ∧ frS M z.2.2.2.2 ∧ ∃ x y : Nat, z.1 = iI (x : Int) ∧ z.2.1 = iI (y : Int) ∧ x < mo (M.1 95) a ∧ y < mo (M.1 95) b) 100 ?_ _ _ ⟨rfl, frS.rf, 0, 0, rfl, rfl, by omega, by omega⟩ (FUEL_big (by decide))
    rintro k ⟨z1, z2, z3, z4, N⟩ hk ⟨e4, hN, x, y, e1, e2, hx, hy⟩
    dsimp only at e4 e1 e2 hN
    subst e4
    subst e1
    subst e2
    have e95 := hN.w95
    unfold F_MO_drawn_b139
    dsimp only
    refine wp_if (fun _ => wp_some hN) (fun c => ?_)
    have hlt : k < 100 := by
      rw [le_i, iI_toInt (by omega) (by omega)] at c
      omega
    have d1 := b2_of hA hx
    have d2 := b2_of hB hy
    have n1 := barW_not h1 hx
    have n2 := barW_not h2 hy
    rw [N_doesW (M := N) ha (by rw [e95]; exact hA) (by rw [e95]; exact hx), bs, N_doesW (M := N) hb (by rw [e95]; exact hB) (by rw [e95]; exact hy), bs, e95, hw2, N_brings (by omega) (by omega) (by omega), bs]
    have last : ∀ (N2 : Mem) (s t : Nat) (q : Int32), frS M N2 → s ≤ 2 → t ≤ 2 → wpO (F_MO_drawn_j214 (iI (a : Int)) (iI (b : Int)) x3 (iI (w : Int)) (iI (x : Int)) (iI (y : Int)) q (iI (k : Int)) (iI (s : Int)) (iI (t : Int)) N2) (fun z => match z with | .inl s' => k < 100 ∧ (s'.2.2.2.1 = iI ((k + 1 : Nat) : Int) ∧ frS M s'.2.2.2.2 ∧ ∃ x y : Nat, s'.1 = iI (x : Int) ∧ s'.2.1 = iI (y : Int) ∧ x < mo (M.1 95) a ∧ y < mo (M.1 95) b) | .inr r => frS M r.2.2.2) := by
      intro N2 s t q hN2 hs ht
      have f95 := hN2.w95
      unfold F_MO_drawn_j214
      rw [N_goesW (M := N2) ha (by rw [f95]; exact hA) (by rw [f95]; exact hx) hs, bs, N_goesW (M := N2) hb (by rw [f95]; exact hB) (by rw [f95]; exact hy) ht, bs, f95]
      exact wp_some ⟨hlt, iI_succ k, hN2, _, _, rfl, rfl, (hA.gzK hx (by omega)).1, (hB.gzK hy (by omega)).1⟩
    have flip : ∀ (N2 : Mem) (d : Nat), d ≤ 2 → (d : Int) < (M.1 95 0).toInt → ¬ M.1 95 3 = 0 → 1 - iI (d : Int) = iI ((1 - d : Nat) : Int) := by
      intro N2 d _ hd h3
      rw [hE h3] at hd
      rw [l32_1, iI_sub]
      congr 1
      omega
    have mid : ∀ (N2 : Mem) (s : Nat) (q : Int32), frS M N2 → s ≤ 2 → wpO (F_MO_drawn_j196 (iI (a : Int)) (iI (b : Int)) x3 (iI (w : Int)) (iI (x : Int)) (iI (y : Int)) q (iI (k : Int)) (iI (dz (M.1 95) a x : Int)) (iI (s : Int)) N2) (fun z => match z with | .inl s' => k < 100 ∧ (s'.2.2.2.1 = iI ((k + 1 : Nat) : Int) ∧ frS M s'.2.2.2.2 ∧ ∃ x y : Nat, s'.1 = iI (x : Int) ∧ s'.2.1 = iI (y : Int) ∧ x < mo (M.1 95) a ∧ y < mo (M.1 95) b) | .inr r => frS M r.2.2.2) := by
      intro N2 s q hN2 hs
      unfold F_MO_drawn_j196
      refine wp_bind (N_isMistaken (by rw [hN2.w95]; exact hR)) (fun r13 h13 => ?_)
      refine wp_if (fun c3 => ?_) (fun _ => last _ s _ q (hN2.tr h13.1) hs d1)
      have h3 := h13.2 c3
      rw [hN2.w95] at h3
      rw [flip N2 _ d1 n1 h3]
      exact last _ s _ q (hN2.tr h13.1) hs (by omega)
    refine wp_bind (N_isMistaken (by rw [e95]; exact hR)) (fun r12 h12 => ?_)
    refine wp_if (fun c3 => ?_) (fun _ => wp_mono (mid _ _ _ (hN.tr h12.1) d2) (fun x hx => by rcases x with x | x <;> exact hx))
    have h3 := h12.2 c3
    rw [e95] at h3
    rw [flip N _ d2 n2 h3]
    exact wp_mono (mid _ _ _ (hN.tr h12.1) (by omega)) (fun x hx => by rcases x with x | x <;> exact hx)
  · unfold F_MO_drawn_j244
    exact wp_if (fun _ => wp_if (fun _ => wp_some hr) (fun _ => wp_some hr)) (fun _ => wp_some hr)
