/-! ===== values: the body's corners on both sides ===== -/
def pX (W : Nat → Int32) (A j : Nat) : Int := br W (j / A) (j % A) 0
def pY (W : Nat → Int32) (A j : Nat) : Int := br W (j / A) (j % A) 1
theorem pXY {W : Nat → Int32} {A a b : Nat} (ha : 0 < A) (hb : b < A) : pX W A (A * a + b) = br W a b 0 ∧ pY W A (A * a + b) = br W a b 1 := by
  unfold pX pY
  rw [Nat.mul_add_div ha, Nat.mul_add_mod, Nat.div_eq_of_lt hb, Nat.mod_eq_of_lt hb, Nat.add_zero]
  exact ⟨rfl, rfl⟩
theorem AA_lt {A j : Nat} (h : j < A * A) : j / A < A ∧ j % A < A := by
  have ha : 0 < A := by
    rcases Nat.eq_zero_or_pos A with q | q
    · rw [q] at h
      exact absurd h (Nat.not_lt_zero _)
    · exact q
  exact ⟨Nat.div_lt_of_lt_mul h, Nat.mod_lt _ ha⟩
theorem pW {W : Nat → Int32} {A : Nat} (h : brOK W) (a3 : A ≤ 3) : within99 (pX W A) (pY W A) (A * A) := by
  intro j hj
  obtain ⟨h1, h2⟩ := AA_lt hj
  exact ⟨h _ _ 0 (by omega) (by omega) (by decide), h _ _ 1 (by omega) (by omega) (by decide)⟩
theorem N_pointsV {M : Mem} {A : Nat} (h : RIW (M.1 95)) (hA : M.1 95 0 = iI (A : Int)) (a2 : 2 ≤ A) (a3 : A ≤ 3) : wpO (iter F_MO_body_b7 FUEL (0, mSI M 94 35 0)) (fun N => N.1 94 35 = iI ((A * A : Nat) : Int) ∧ (∀ j, j < A * A → ptX N j = pX (M.1 95) A j ∧ ptY N j = pY (M.1 95) A j) ∧ N.1 95 = M.1 95) := by
  refine wp_iterS (P := fun a z => z.1 = iI (a : Int) ∧ z.2.1 95 = M.1 95 ∧ z.2.1 94 35 = iI ((A * a : Nat) : Int) ∧ (∀ j, j < A * a → ptX z.2 j = pX (M.1 95) A j ∧ ptY z.2 j = pY (M.1 95) A j)) A ?_ _ _ ⟨rfl, funext fun j => mI_cell (by decide), mI_hit, fun j hj => absurd hj (Nat.not_lt_zero _)⟩ (FUEL_big (by omega))
  rintro a ⟨z1, N⟩ ha ⟨e1, n95, np, nw⟩
  dsimp only at e1 n95 np nw
  subst e1
  unfold F_MO_body_b7
  dsimp only
  rw [S_actMany, bs, n95, hA]
  have hAA : A * A ≤ 9 := Nat.mul_le_mul a3 a3
  have hAA1 : 1 ≤ A * A := Nat.mul_pos (by omega) (by omega)
  refine wp_if (fun c => ?_) (fun c => ?_)
  · rw [iI_le (by omega) (by omega) (by omega) (by omega)] at c
    have ea : a = A := by omega
    rw [ea] at np nw
    exact wp_some ⟨np, nw, n95⟩
  rw [iI_le (by omega) (by omega) (by omega) (by omega)] at c
  unfold F_MO_body_l17
  have ea : A * (a + 1) = A * a + A := Nat.mul_succ A a
  have eb : A * (a + 1) ≤ A * A := Nat.mul_le_mul (Nat.le_refl A) (by omega)
  refine wp_bind (Ψ := fun N => N.1 95 = M.1 95 ∧ N.1 94 35 = iI ((A * (a + 1) : Nat) : Int) ∧ (∀ j, j < A * (a + 1) → ptX N j = pX (M.1 95) A j ∧ ptY N j = pY (M.1 95) A j)) ?_ (fun r hr => wp_some ⟨by omega, iI_succ a, hr⟩)
  refine wp_iterS (P := fun b z => z.1 = iI (b : Int) ∧ z.2.1 95 = M.1 95 ∧ z.2.1 94 35 = iI ((A * a + b : Nat) : Int) ∧ (∀ j, j < A * a + b → ptX z.2 j = pX (M.1 95) A j ∧ ptY z.2 j = pY (M.1 95) A j)) A ?_ _ _ ⟨rfl, n95, np, nw⟩ (FUEL_big (by omega))
  rintro b ⟨y1, N2⟩ hb ⟨e1, m95, mp, mw⟩
  dsimp only at e1 m95 mp mw
  subst e1
  unfold F_MO_body_b17
  dsimp only
  rw [S_actMany, bs, m95, hA]
  refine wp_if (fun c2 => ?_) (fun c2 => ?_)
  · rw [iI_le (by omega) (by omega) (by omega) (by omega)] at c2
    have eb2 : b = A := by omega
    rw [eb2] at mp mw
    rw [ea]
    exact wp_some ⟨m95, mp, mw⟩
  rw [iI_le (by omega) (by omega) (by omega) (by omega)] at c2
  have b0 : F_MO_brings (iI (a : Int)) (iI (b : Int)) 0 N2 = some (iI (br (M.1 95) a b 0)) := by
    rw [← m95]
    exact N_brings (p := 0) (by omega) (by omega) (by decide) _
  rw [b0, bs, mp]
  refine wp_t (inb_iI (by omega) (by omega) (by omega)) ?_
  simp only [clN (n := A * a + b) (by omega)]
  have pk := pXY (W := M.1 95) (A := A) (a := a) (b := b) (by omega) (by omega)
  generalize hK : A * a + b = K at *
  have b1 : F_MO_brings (iI (a : Int)) (iI (b : Int)) 1 (mSI N2 114 K (iI (br (M.1 95) a b 0))) = some (iI (br (M.1 95) a b 1)) := by
    have q := N_brings (x := a) (y := b) (p := 1) (by omega) (by omega) (by decide) (mSI N2 114 K (iI (br (M.1 95) a b 0)))
    have w : (mSI N2 114 K (iI (br (M.1 95) a b 0))).1 95 = M.1 95 := (funext fun j => mI_cell (by decide)).trans m95
    rw [w] at q
    exact q
  rw [b1, bs]
  simp only [mI_cell (show (94 : Nat) ≠ 114 by decide), mI_cell (show (94 : Nat) ≠ 115 by decide), mp]
  refine wp_t (inb_iI (by omega) (by omega) (by omega)) ?_
  simp only [clN (n := K) (by omega)]
  have br0 := h.br a b 0 (by omega) (by omega) (by decide)
  have br1 := h.br a b 1 (by omega) (by omega) (by decide)
  refine wp_some ⟨by omega, iI_succ b, ?_, ?_, ?_⟩
  · show (mSI (mSI (mSI N2 114 K _) 115 K _) 94 35 _).1 95 = _
    funext j
    rw [mI_cell (by decide), mI_cell (by decide), mI_cell (by decide), m95]
  · show (mSI (mSI (mSI N2 114 K _) 115 K _) 94 35 _).1 94 35 = _
    rw [mI_hit, iI_succ]
    congr 2
    omega
  · intro j hj
    have e114 : ptX (mSI (mSI (mSI N2 114 K (iI (br (M.1 95) a b 0))) 115 K (iI (br (M.1 95) a b 1))) 94 35 (iI (K : Int) + 1)) j = if j = K then br (M.1 95) a b 0 else ptX N2 j := by
      unfold ptX
      rw [mI_cell (by decide), mI_cell (by decide)]
      by_cases q : j = K
      · rw [if_pos q, q, mI_hit, iI_toInt (by omega) (by omega)]
      · rw [if_neg q, mI_ix q]
    have e115 : ptY (mSI (mSI (mSI N2 114 K (iI (br (M.1 95) a b 0))) 115 K (iI (br (M.1 95) a b 1))) 94 35 (iI (K : Int) + 1)) j = if j = K then br (M.1 95) a b 1 else ptY N2 j := by
      unfold ptY
      rw [mI_cell (by decide)]
      by_cases q : j = K
      · rw [if_pos q, q, mI_hit, iI_toInt (by omega) (by omega)]
      · rw [if_neg q, mI_ix q, mI_cell (by decide)]
    rw [e114, e115]
    by_cases q : j = K
    · rw [if_pos q, if_pos q, q]
      exact ⟨pk.1.symm, pk.2.symm⟩
    · rw [if_neg q, if_neg q]
      exact mw j (by omega)
def lstP (X Y : Nat → Int) (n a : Nat) : Prop := ∀ j, j < n → X a < X j ∨ (X a = X j ∧ Y a ≤ Y j)
theorem lstP.ext {X Y : Nat → Int} {n a : Nat} (h : lstP X Y n a) (hw : within99 X Y n) (ha : a < n) : ext X Y n a := by
  refine ⟨1000, 1, fun j hj => ?_⟩
  have q := h j hj
  have b1 := hw j hj
  have b2 := hw a ha
  omega
theorem N_startV {n : Nat} {M : Mem} (hp : M.1 94 35 = iI (n : Int)) (h1 : 1 ≤ n) (h9 : n ≤ 9) (hw : within99 (ptX M) (ptY M) n) : wpO (iter (F_MO_body_b83 M) FUEL (0, 1)) (fun r => ∃ a : Nat, r = iI (a : Int) ∧ a < n ∧ lstP (ptX M) (ptY M) n a) := by
  have st0 : ∀ j, j < 0 + 1 → ptX M 0 < ptX M j ∨ (ptX M 0 = ptX M j ∧ ptY M 0 ≤ ptY M j) := by
    intro j hj
    have : j = 0 := by omega
    subst this
    exact Or.inr ⟨rfl, Int.le_refl _⟩
  refine wp_iterS (P := fun k z => z.2 = iI ((k + 1 : Nat) : Int) ∧ ∃ a : Nat, z.1 = iI (a : Int) ∧ a < n ∧ k + 1 ≤ n ∧ ∀ j, j < k + 1 → ptX M a < ptX M j ∨ (ptX M a = ptX M j ∧ ptY M a ≤ ptY M j)) n ?_ _ _ ⟨rfl, 0, rfl, by omega, by omega, st0⟩ (FUEL_big (by omega))
  rintro k ⟨z1, z2⟩ hk ⟨e2, a, e1, ha, hkn, hl⟩
  dsimp only at e1 e2
  subst e1
  subst e2
  unfold F_MO_body_b83
  dsimp only
  rw [hp]
  refine wp_if (fun c => wp_some ⟨a, rfl, ha, ?_⟩) (fun c => ?_)
  · rw [iI_le (by omega) (by omega) (by omega) (by omega)] at c
    exact fun j hj => hl j (by omega)
  rw [iI_le (by omega) (by omega) (by omega) (by omega)] at c
  have i1 : inb (iI ((k + 1 : Nat) : Int)) 9 := inb_iI (by omega) (by omega) (by omega)
  have i2 : inb (iI (a : Int)) 9 := inb_iI (by omega) (by omega) (by omega)
  refine wp_t i1 (wp_t i2 ?_)
  have ck : (iI ((k + 1 : Nat) : Int)).toNatClampNeg = k + 1 := clamp_iI (by omega) (by omega)
  have ca : (iI (a : Int)).toNatClampNeg = a := clamp_iI (by omega) (by omega)
  simp only [ck, ca]
  have keep : (∀ j, j < k + 1 + 1 → ptX M a < ptX M j ∨ (ptX M a = ptX M j ∧ ptY M a ≤ ptY M j)) → wpO (some (Sum.inl (iI (a : Int), iI ((k + 1 : Nat) : Int) + 1)) : Option ((Int32 × Int32) ⊕ Int32)) (sumP (fun s' => k < n ∧ (s'.2 = iI ((k + 1 + 1 : Nat) : Int) ∧ ∃ a : Nat, s'.1 = iI (a : Int) ∧ a < n ∧ k + 1 + 1 ≤ n ∧ ∀ j, j < k + 1 + 1 → ptX M a < ptX M j ∨ (ptX M a = ptX M j ∧ ptY M a ≤ ptY M j))) (fun r => ∃ a : Nat, r = iI (a : Int) ∧ a < n ∧ lstP (ptX M) (ptY M) n a)) := fun hq => wp_some ⟨by omega, iI_succ (k + 1), a, rfl, ha, by omega, hq⟩
  have take : (∀ j, j < k + 1 + 1 → ptX M (k + 1) < ptX M j ∨ (ptX M (k + 1) = ptX M j ∧ ptY M (k + 1) ≤ ptY M j)) → wpO (some (Sum.inl (iI ((k + 1 : Nat) : Int), iI ((k + 1 : Nat) : Int) + 1)) : Option ((Int32 × Int32) ⊕ Int32)) (sumP (fun s' => k < n ∧ (s'.2 = iI ((k + 1 + 1 : Nat) : Int) ∧ ∃ a : Nat, s'.1 = iI (a : Int) ∧ a < n ∧ k + 1 + 1 ≤ n ∧ ∀ j, j < k + 1 + 1 → ptX M a < ptX M j ∨ (ptX M a = ptX M j ∧ ptY M a ≤ ptY M j))) (fun r => ∃ a : Nat, r = iI (a : Int) ∧ a < n ∧ lstP (ptX M) (ptY M) n a)) := fun hq => wp_some ⟨by omega, iI_succ (k + 1), k + 1, rfl, by omega, by omega, hq⟩
  have dx : (M.1 114 (k + 1) < M.1 114 a) ↔ ptX M (k + 1) < ptX M a := lt_i
  have ex : (M.1 114 (k + 1) = M.1 114 a) ↔ ptX M (k + 1) = ptX M a := Int32.toInt_inj.symm
  have dy : (M.1 115 a ≤ M.1 115 (k + 1)) ↔ ptY M a ≤ ptY M (k + 1) := le_i
  refine wp_if (fun c1 => take (fun j hj => ?_)) (fun c1 => ?_)
  · rw [dx] at c1
    by_cases q : j = k + 1
    · subst q
      omega
    · have := hl j (by omega)
      omega
  rw [dx] at c1
  refine wp_t i1 (wp_t i2 (wp_if (fun c2 => ?_) (fun c2 => keep (fun j hj => ?_))))
  · rw [ex] at c2
    refine wp_t i1 (wp_t i2 (wp_if (fun c3 => keep (fun j hj => ?_)) (fun c3 => take (fun j hj => ?_))))
    · rw [dy] at c3
      by_cases q : j = k + 1
      · subst q
        omega
      · exact hl j (by omega)
    · rw [dy] at c3
      by_cases q : j = k + 1
      · subst q
        omega
      · have := hl j (by omega)
        omega
  · rw [ex] at c2
    by_cases q : j = k + 1
    · subst q
      omega
    · exact hl j (by omega)
/-- corners that are all: the first one, the way round, and back -/
def bodyS (X Y : Nat → Int) (n c : Nat) (g : Nat → Nat) : Prop := 1 ≤ c ∧ c ≤ 9 ∧ lstP X Y n (g 0) ∧ hst X Y n (g 0) (c - 1) g ∧ ((∀ j, j < n → X j = X (g (c - 1)) ∧ Y j = Y (g (c - 1))) ∨ ∃ v, v < n ∧ nxt X Y n (g (c - 1)) v ∧ X v = X (g 0) ∧ Y v = Y (g 0))
def celP (N : Mem) (g : Nat → Nat) (k : Nat) (P : Mem) : Prop := ∀ i, i < k → P.1 116 i = iI (ptX N (g i)) ∧ P.1 117 i = iI (ptY N (g i))
def clsP (N : Mem) (n a : Nat) (P : Mem) : Prop := ∃ (c : Nat) (g : Nat → Nat), P.1 94 36 = iI (c : Int) ∧ 1 ≤ c ∧ c ≤ 9 ∧ hst (ptX N) (ptY N) n a (c - 1) g ∧ celP N g c P ∧ ((∀ j, j < n → ptX N j = ptX N (g (c - 1)) ∧ ptY N j = ptY N (g (c - 1))) ∨ ∃ v, v < n ∧ nxt (ptX N) (ptY N) n (g (c - 1)) v ∧ ptX N v = ptX N a ∧ ptY N v = ptY N a)
theorem ext.cg {X Y X' Y' : Nat → Int} {n u : Nat} (hu : u < n) (hX : ∀ j, j < n → X j = X' j) (hY : ∀ j, j < n → Y j = Y' j) (h : ext X Y n u) : ext X' Y' n u := by
  obtain ⟨f, g, q⟩ := h
  refine ⟨f, g, fun j hj => ?_⟩
  rw [← hX j hj, ← hX u hu, ← hY j hj, ← hY u hu]
  exact q j hj
theorem nxt.cg {X Y X' Y' : Nat → Int} {n u v : Nat} (hu : u < n) (hv : v < n) (hX : ∀ j, j < n → X j = X' j) (hY : ∀ j, j < n → Y j = Y' j) (h : nxt X Y n u v) : nxt X' Y' n u v := by
  obtain ⟨q1, q2⟩ := h
  rw [hX v hv, hX u hu, hY v hv, hY u hu] at q1
  refine ⟨q1, fun j hj => ?_⟩
  have := q2 j hj
  unfold crs dst at this ⊢
  rw [hX v hv, hX u hu, hY v hv, hY u hu, hX j hj, hY j hj] at this
  exact this
theorem clsP.fin {N P : Mem} {n a : Nat} {X Y : Nat → Int} (hX : ∀ j, j < n → ptX N j = X j) (hY : ∀ j, j < n → ptY N j = Y j) (hl : lstP (ptX N) (ptY N) n a) (h : clsP N n a P) : ∃ (c : Nat) (g : Nat → Nat), P.1 94 36 = iI (c : Int) ∧ bodyS X Y n c g ∧ ∀ i, i < c → P.1 116 i = iI (X (g i)) ∧ P.1 117 i = iI (Y (g i)) := by
  obtain ⟨c, g, hc, c1, c9, hg, cel, cl⟩ := h
  obtain ⟨g0, gi, gn, ga⟩ := hg
  have hgi : ∀ i, i ≤ c - 1 → g i < n := fun i hi => (gi i hi).1
  have ha : a < n := by
    rw [← g0]
    exact hgi 0 (by omega)
  refine ⟨c, g, hc, ⟨c1, c9, fun j hj => ?_, ⟨rfl, fun i hi => ⟨hgi i hi, (gi i hi).2.cg (hgi i hi) hX hY⟩, fun i hi => (gn i hi).cg (hgi i (by omega)) (hgi (i + 1) (by omega)) hX hY, fun i h1 h2 => ?_⟩, ?_⟩, fun i hi => ?_⟩
  · rw [g0, ← hX a ha, ← hX j hj, ← hY a ha, ← hY j hj]
    exact hl j hj
  · rw [g0, ← hX a ha, ← hX _ (hgi i h2), ← hY a ha, ← hY _ (hgi i h2)]
    exact ga i h1 h2
  · rcases cl with q | ⟨v, hv, q1, q2, q3⟩
    · refine Or.inl (fun j hj => ?_)
      rw [← hX j hj, ← hX _ (hgi _ (Nat.le_refl _)), ← hY j hj, ← hY _ (hgi _ (Nat.le_refl _))]
      exact q j hj
    · refine Or.inr ⟨v, hv, q1.cg (hgi _ (Nat.le_refl _)) hv hX hY, ?_, ?_⟩
      · rw [g0, ← hX v hv, ← hX a ha]
        exact q2
      · rw [g0, ← hY v hv, ← hY a ha]
        exact q3
  · rw [← hX _ (hgi i (by omega)), ← hY _ (hgi i (by omega))]
    exact cel i hi
theorem N_bodyV {M : Mem} {A : Nat} (h : RIW (M.1 95)) (hA : M.1 95 0 = iI (A : Int)) (a2 : 2 ≤ A) (a3 : A ≤ 3) : wpO (F_MO_body M) (fun P => P.1 95 = M.1 95 ∧ ∃ (c : Nat) (g : Nat → Nat), P.1 94 36 = iI (c : Int) ∧ bodyS (pX (M.1 95) A) (pY (M.1 95) A) (A * A) c g ∧ ∀ i, i < c → P.1 116 i = iI (pX (M.1 95) A (g i)) ∧ P.1 117 i = iI (pY (M.1 95) A (g i))) := by
  have h1 : 1 ≤ A * A := Nat.mul_pos (by omega) (by omega)
  have h9 : A * A ≤ 9 := Nat.mul_le_mul a3 a3
  unfold F_MO_body F_MO_body_l7
  refine wp_bind (N_pointsV h hA a2 a3) (fun N hN => ?_)
  obtain ⟨hp, hv, n95⟩ := hN
  have hX : ∀ j, j < A * A → ptX N j = pX (M.1 95) A j := fun j hj => (hv j hj).1
  have hY : ∀ j, j < A * A → ptY N j = pY (M.1 95) A j := fun j hj => (hv j hj).2
  clear hv
  have hw : within99 (ptX N) (ptY N) (A * A) := fun j hj => by
    rw [hX j hj, hY j hj]
    exact pW h.br a3 j hj
  generalize A * A = n at *
  unfold F_MO_body_l83
  refine wp_bind (N_startV hp h1 h9 hw) (fun r hr => ?_)
  obtain ⟨a, rfl, ha, hl⟩ := hr
  have he := hl.ext hw ha
  unfold F_MO_body_j144 F_MO_body_l153
  refine wp_bind (Ψ := fun P => P.1 95 = M.1 95 ∧ clsP N n a P) ?_ (fun r hr => wp_some ⟨hr.1, clsP.fin hX hY hl hr.2⟩)
  refine wp_iterS (P := fun k z => (z.2.2.1 95 = M.1 95 ∧ z.2.2.1 114 = N.1 114 ∧ z.2.2.1 115 = N.1 115 ∧ z.2.2.1 94 35 = iI (n : Int)) ∧ ((z.2.1 = true ∧ z.2.2.1 94 36 = iI (k : Int) ∧ ∃ g : Nat → Nat, hst (ptX N) (ptY N) n a k g ∧ celP N g k z.2.2 ∧ z.1 = iI (g k : Int)) ∨ (z.2.1 = false ∧ k ≤ 9 ∧ clsP N n a z.2.2))) 10 ?_ _ _ ⟨⟨(funext fun j => mI_cell (by decide)).trans n95, funext fun j => mI_cell (by decide), funext fun j => mI_cell (by decide), (mI_ix (by decide)).trans hp⟩, Or.inl ⟨rfl, mI_hit, fun _ => a, ⟨rfl, fun i hi => ⟨ha, he⟩, fun i hi => absurd hi (Nat.not_lt_zero _), fun i h1 h2 => absurd h2 (by omega)⟩, fun i hi => absurd hi (Nat.not_lt_zero _), rfl⟩⟩ (FUEL_big (by decide))
  rintro k ⟨z1, z2, N2⟩ hk ⟨⟨m95, m114, m115, mp⟩, hz⟩
  dsimp only at m95 m114 m115 mp hz
  unfold F_MO_body_b153
  dsimp only
  rcases hz with ⟨e2, hc, g, hg, gc, e1⟩ | ⟨e2, k9, hcl⟩
  · subst e2
    subst e1
    have kn := hst_le hg
    have gk := hg.2.1 k (Nat.le_refl _)
    refine wp_t rfl ?_
    have i1 : inb (iI (g k : Int)) 9 := inb_iI (by omega) (by omega) (by omega)
    refine wp_t i1 ?_
    rw [hc]
    have i2 : inb (iI (k : Int)) 10 := inb_iI (by omega) (by omega) (by omega)
    refine wp_t i2 (wp_t i1 ?_)
    simp only [mI_cell (show (94 : Nat) ≠ 116 by decide), mI_cell (show (94 : Nat) ≠ 117 by decide), hc]
    refine wp_t i2 ?_
    rw [iI_succ]
    generalize hN3 : mSI (mSI (mSI N2 116 (iI (k : Int)).toNatClampNeg (N2.1 114 (iI (g k : Int)).toNatClampNeg)) 117 (iI (k : Int)).toNatClampNeg ((mSI N2 116 (iI (k : Int)).toNatClampNeg (N2.1 114 (iI (g k : Int)).toNatClampNeg)).1 115 (iI (g k : Int)).toNatClampNeg)) 94 36 (iI ((k + 1 : Nat) : Int)) = N3
    have o95 : N3.1 95 = M.1 95 := by
      rw [← hN3]
      exact (funext fun j => by rw [mI_cell (by decide), mI_cell (by decide), mI_cell (by decide)]).trans m95
    have o114 : N3.1 114 = N.1 114 := by
      rw [← hN3]
      exact (funext fun j => by rw [mI_cell (by decide), mI_cell (by decide), mI_cell (by decide)]).trans m114
    have o115 : N3.1 115 = N.1 115 := by
      rw [← hN3]
      exact (funext fun j => by rw [mI_cell (by decide), mI_cell (by decide), mI_cell (by decide)]).trans m115
    have op : N3.1 94 35 = iI (n : Int) := by
      rw [← hN3, mI_ix (by decide), mI_cell (by decide), mI_cell (by decide), mp]
    have oc : N3.1 94 36 = iI ((k + 1 : Nat) : Int) := by
      rw [← hN3, mI_hit]
    have ocel : celP N g (k + 1) N3 := by
      intro i hi
      by_cases q : i = k
      · rw [← hN3, q, clN (by omega), clN (by omega)]
        refine ⟨?_, ?_⟩
        · rw [mI_cell (by decide), mI_cell (by decide), mI_hit, m114]
          exact (iI_of _).symm
        · rw [mI_cell (by decide), mI_hit, mI_cell (by decide), m115]
          exact (iI_of _).symm
      · rw [← hN3, clN (by omega), clN (by omega)]
        refine ⟨?_, ?_⟩
        · rw [mI_cell (by decide), mI_cell (by decide), mI_ix q]
          exact (gc i (by omega)).1
        · rw [mI_cell (by decide), mI_ix q, mI_cell (by decide)]
          exact (gc i (by omega)).2
    have oX : ptX N3 = ptX N := by
      unfold ptX
      rw [o114]
    have oY : ptY N3 = ptY N := by
      unfold ptY
      rw [o115]
    unfold F_MO_body_l203
    refine wp_bind (N_nextC (n := n) (u := g k) (x2 := iI (a : Int)) (M := N3) op h9 (by rw [oX, oY]; exact hw) gk.1 (by rw [oX, oY]; exact gk.2)) (fun r hr => ?_)
    rw [oX, oY] at hr
    unfold F_MO_body_j404
    have stop : ∀ x : Int32, ((∀ j, j < n → ptX N j = ptX N (g k) ∧ ptY N j = ptY N (g k)) ∨ ∃ v, v < n ∧ nxt (ptX N) (ptY N) n (g k) v ∧ ptX N v = ptX N a ∧ ptY N v = ptY N a) → wpO (some (Sum.inl (x, false, N3)) : Option ((Int32 × Bool × Mem) ⊕ Mem)) (sumP (fun z => k < 10 ∧ ((z.2.2.1 95 = M.1 95 ∧ z.2.2.1 114 = N.1 114 ∧ z.2.2.1 115 = N.1 115 ∧ z.2.2.1 94 35 = iI (n : Int)) ∧ ((z.2.1 = true ∧ z.2.2.1 94 36 = iI ((k + 1 : Nat) : Int) ∧ ∃ g : Nat → Nat, hst (ptX N) (ptY N) n a (k + 1) g ∧ celP N g (k + 1) z.2.2 ∧ z.1 = iI (g (k + 1) : Int)) ∨ (z.2.1 = false ∧ k + 1 ≤ 9 ∧ clsP N n a z.2.2)))) (fun P => P.1 95 = M.1 95 ∧ clsP N n a P)) := fun x hx => wp_some ⟨by omega, ⟨o95, o114, o115, op⟩, Or.inr ⟨rfl, by omega, k + 1, g, oc, by omega, by omega, hg, ocel, hx⟩⟩
    rcases hr with ⟨rfl, hall⟩ | ⟨v, rfl, hv, hn⟩
    · exact wp_t (by decide) (stop _ (Or.inl hall))
    · have l0 : (0 : Int32) = iI 0 := rfl
      have i3 : inb (iI (v : Int)) 9 := inb_iI (by omega) (by omega) (by omega)
      have i4 : inb (iI (a : Int)) 9 := inb_iI (by omega) (by omega) (by omega)
      have cv : (iI (v : Int)).toNatClampNeg = v := clamp_iI (by omega) (by omega)
      have ca : (iI (a : Int)).toNatClampNeg = a := clamp_iI (by omega) (by omega)
      refine wp_f (by rw [l0, iI_lt] <;> omega) (wp_t i3 (wp_t i4 ?_))
      simp only [cv, ca]
      have ex : (N3.1 114 v = N3.1 114 a) ↔ ptX N v = ptX N a := by
        rw [o114]
        exact Int32.toInt_inj.symm
      have ey : (N3.1 115 v = N3.1 115 a) ↔ ptY N v = ptY N a := by
        rw [o115]
        exact Int32.toInt_inj.symm
      have more : ¬ (ptX N v = ptX N a ∧ ptY N v = ptY N a) → wpO (some (Sum.inl (iI (v : Int), true, N3)) : Option ((Int32 × Bool × Mem) ⊕ Mem)) (sumP (fun z => k < 10 ∧ ((z.2.2.1 95 = M.1 95 ∧ z.2.2.1 114 = N.1 114 ∧ z.2.2.1 115 = N.1 115 ∧ z.2.2.1 94 35 = iI (n : Int)) ∧ ((z.2.1 = true ∧ z.2.2.1 94 36 = iI ((k + 1 : Nat) : Int) ∧ ∃ g : Nat → Nat, hst (ptX N) (ptY N) n a (k + 1) g ∧ celP N g (k + 1) z.2.2 ∧ z.1 = iI (g (k + 1) : Int)) ∨ (z.2.1 = false ∧ k + 1 ≤ 9 ∧ clsP N n a z.2.2)))) (fun P => P.1 95 = M.1 95 ∧ clsP N n a P)) := by
        intro hq
        refine wp_some ⟨by omega, ⟨o95, o114, o115, op⟩, Or.inl ⟨rfl, oc, fun i => if i = k + 1 then v else g i, ⟨?_, ?_, ?_, ?_⟩, ?_, ?_⟩⟩
        · dsimp only
          rw [if_neg (by omega)]
          exact hg.1
        · intro i hi
          dsimp only
          by_cases q : i = k + 1
          · rw [if_pos q]
            exact ⟨hv, ext_next hw gk.1 hv hn⟩
          · rw [if_neg q]
            exact hg.2.1 i (by omega)
        · intro i hi
          dsimp only
          by_cases q : i = k
          · rw [if_neg (by omega), if_pos (by omega), q]
            exact hn
          · rw [if_neg (by omega), if_neg (by omega)]
            exact hg.2.2.1 i (by omega)
        · intro i h1 h2
          dsimp only
          by_cases q : i = k + 1
          · rw [if_pos q]
            exact hq
          · rw [if_neg q]
            exact hg.2.2.2 i h1 (by omega)
        · intro i hi
          dsimp only
          rw [if_neg (by omega)]
          exact ocel i hi
        · dsimp only
          rw [if_pos rfl]
      refine wp_if (fun c1 => ?_) (fun c1 => more (fun q => c1 (ex.mpr q.1)))
      exact wp_t i3 (wp_t i4 (wp_if (fun c2 => stop _ (Or.inr ⟨v, hv, hn, ex.mp c1, ey.mp c2⟩)) (fun c2 => more (fun q => c2 (ey.mpr q.2)))))
  · subst e2
    exact wp_f (by decide) (wp_some ⟨m95, hcl⟩)
