/-! ===== the body: the reference's corners ===== -/
theorem to64 (x : Int32) : x.toInt64 = lI x.toInt := by
  have h1 := i_lo x
  have h2 := i_hi x
  apply Int64.toInt_inj.mp
  rw [Int32.toInt_toInt64, lI_toInt (by omega) (by omega)]
theorem N_turn (a b c d x y : Int) (M : Mem) : F_MO_turn (lI a) (lI b) (lI c) (lI d) (lI x) (lI y) M = some (lI ((c - a) * (y - b) - (d - b) * (x - a))) := by
  unfold F_MO_turn
  simp only [lI_sub, lI_mul]
theorem N_apart (a b c d : Int) (M : Mem) : F_MO_apart (lI a) (lI b) (lI c) (lI d) M = some (lI ((c - a) * (c - a) + (d - b) * (d - b))) := by
  unfold F_MO_apart
  simp only [lI_sub, lI_mul, lI_add]
theorem mulb {a b m n : Int} (h1 : -m ≤ a) (h2 : a ≤ m) (h3 : -n ≤ b) (h4 : b ≤ n) : -(m * n) ≤ a * b ∧ a * b ≤ m * n := by
  have e1 : (a * b).natAbs = a.natAbs * b.natAbs := Int.natAbs_mul a b
  have e2 : a.natAbs * b.natAbs ≤ m.natAbs * n.natAbs := Nat.mul_le_mul (by omega) (by omega)
  have e3 : (m * n).natAbs = m.natAbs * n.natAbs := Int.natAbs_mul m n
  have e4 : 0 ≤ m * n := Int.mul_nonneg (by omega) (by omega)
  omega
theorem three (f g a1 a2 b1 b2 c1 c2 : Int) : (f * a1 + g * a2) * (b1 * c2 - b2 * c1) = (f * b1 + g * b2) * (a1 * c2 - a2 * c1) - (f * c1 + g * c2) * (a1 * b2 - a2 * b1) := by grind
/-- a corner: all other points lie on one side of it -/
def ext (X Y : Nat → Int) (n u : Nat) : Prop := ∃ f g : Int, ∀ j, j < n → (X j = X u ∧ Y j = Y u) ∨ 0 < f * (X j - X u) + g * (Y j - Y u)
def crs (X Y : Nat → Int) (u v j : Nat) : Int := (X v - X u) * (Y j - Y u) - (Y v - Y u) * (X j - X u)
def dst (X Y : Nat → Int) (u j : Nat) : Int := (X j - X u) * (X j - X u) + (Y j - Y u) * (Y j - Y u)
/-- v is the first from u on, as far as points below k go -/
def nxt (X Y : Nat → Int) (k u v : Nat) : Prop := ¬ (X v = X u ∧ Y v = Y u) ∧ ∀ j, j < k → 0 ≤ crs X Y u v j ∧ (crs X Y u v j = 0 → dst X Y u j ≤ dst X Y u v)
theorem crs_u {X Y : Nat → Int} {u v j : Nat} (h : X j = X u ∧ Y j = Y u) : crs X Y u v j = 0 ∧ dst X Y u j = 0 := by
  unfold crs dst
  rw [h.1, h.2, Int.sub_self, Int.sub_self]
  simp
theorem crs_self {X Y : Nat → Int} {u v : Nat} : crs X Y u v v = 0 := by
  unfold crs
  rw [Int.mul_comm, Int.sub_self]
theorem crs_anti {X Y : Nat → Int} {u v j : Nat} : crs X Y u v j = - crs X Y u j v := by
  unfold crs
  rw [Int.mul_comm (X v - X u), Int.mul_comm (Y v - Y u)]
  omega
theorem dst_nn {X Y : Nat → Int} {u j : Nat} : 0 ≤ dst X Y u j := by
  unfold dst
  have h1 : 0 ≤ (X j - X u) * (X j - X u) := by
    rcases Int.le_total 0 (X j - X u) with h | h
    · exact Int.mul_nonneg h h
    · exact Int.mul_nonneg_of_nonpos_of_nonpos h h
  have h2 : 0 ≤ (Y j - Y u) * (Y j - Y u) := by
    rcases Int.le_total 0 (Y j - Y u) with h | h
    · exact Int.mul_nonneg h h
    · exact Int.mul_nonneg_of_nonpos_of_nonpos h h
  omega
theorem sq_zero {a : Int} (h : a * a ≤ 0) : a = 0 := by
  rcases Int.lt_trichotomy a 0 with q | q | q
  · have := Int.mul_pos_of_neg_of_neg q q
    omega
  · exact q
  · have := Int.mul_pos q q
    omega
theorem sq_nn (a : Int) : 0 ≤ a * a := by
  rcases Int.le_total 0 a with h | h
  · exact Int.mul_nonneg h h
  · exact Int.mul_nonneg_of_nonpos_of_nonpos h h
theorem dst_zero {X Y : Nat → Int} {u j : Nat} (h : dst X Y u j ≤ 0) : X j = X u ∧ Y j = Y u := by
  unfold dst at h
  have h1 := sq_nn (X j - X u)
  have h2 := sq_nn (Y j - Y u)
  have h3 := sq_zero (a := X j - X u) (by omega)
  have h4 := sq_zero (a := Y j - Y u) (by omega)
  omega
theorem pos_of_mul {a b : Int} (ha : 0 < a) (h : 0 < a * b) : 0 < b := by
  rcases Int.lt_or_le 0 b with q | q
  · exact q
  · have := Int.mul_nonpos_of_nonneg_of_nonpos (show 0 ≤ a by omega) q
    omega
theorem nn_of_mul {a b : Int} (ha : 0 < a) (h : 0 ≤ a * b) : 0 ≤ b := by
  rcases Int.lt_or_le b 0 with q | q
  · have := Int.mul_neg_of_pos_of_neg ha q
    omega
  · exact q
/-- the first one is put anew -/
theorem nxt_new {X Y : Nat → Int} {n u v k : Nat} (he : ext X Y n u) (hv : v < n) (hk : k < n) (hn : nxt X Y k u v) (hku : ¬ (X k = X u ∧ Y k = Y u)) (ht : crs X Y u v k < 0 ∨ (crs X Y u v k = 0 ∧ dst X Y u v < dst X Y u k)) : nxt X Y (k + 1) u k := by
  obtain ⟨f, g, hf⟩ := he
  have Fv := (hf v hv).resolve_left hn.1
  have Fk := (hf k hk).resolve_left hku
  refine ⟨hku, fun j hj => ?_⟩
  by_cases qj : X j = X u ∧ Y j = Y u
  · obtain ⟨c1, c2⟩ := crs_u (v := k) qj
    have := dst_nn (X := X) (Y := Y) (u := u) (j := k)
    omega
  by_cases qk : j = k
  · subst qk
    rw [crs_self]
    exact ⟨Int.le_refl _, fun _ => Int.le_refl _⟩
  have Fj := (hf j (by omega)).resolve_left qj
  obtain ⟨n1, n2⟩ := hn.2 j (by omega)
  have id := three f g (X v - X u) (Y v - Y u) (X k - X u) (Y k - Y u) (X j - X u) (Y j - Y u)
  have id2 : (f * (X v - X u) + g * (Y v - Y u)) * crs X Y u k j = (f * (X k - X u) + g * (Y k - Y u)) * crs X Y u v j - (f * (X j - X u) + g * (Y j - Y u)) * crs X Y u v k := id
  generalize f * (X v - X u) + g * (Y v - Y u) = A at *
  generalize f * (X k - X u) + g * (Y k - Y u) = B at *
  generalize f * (X j - X u) + g * (Y j - Y u) = C at *
  have m1 : 0 ≤ B * crs X Y u v j := Int.mul_nonneg (by omega) n1
  rcases ht with ht | ⟨ht, hd⟩
  · have m2 : C * crs X Y u v k < 0 := Int.mul_neg_of_pos_of_neg Fj ht
    have m3 := pos_of_mul Fv (b := crs X Y u k j) (by omega)
    exact ⟨by omega, fun q => by omega⟩
  · rw [ht, Int.mul_zero, Int.sub_zero] at id2
    refine ⟨nn_of_mul Fv (by omega), fun q => ?_⟩
    rw [q, Int.mul_zero] at id2
    have z : crs X Y u v j = 0 := by
      rcases Int.mul_eq_zero.mp id2.symm with h | h
      · omega
      · exact h
    have := n2 z
    omega
theorem nxt_keep {X Y : Nat → Int} {u v k : Nat} (hn : nxt X Y k u v) (ht : 0 < crs X Y u v k ∨ (crs X Y u v k = 0 ∧ dst X Y u k ≤ dst X Y u v)) : nxt X Y (k + 1) u v := by
  refine ⟨hn.1, fun j hj => ?_⟩
  by_cases qk : j = k
  · subst qk
    rcases ht with ht | ⟨ht, hd⟩
    · exact ⟨by omega, fun q => by omega⟩
    · exact ⟨by omega, fun _ => hd⟩
  · exact hn.2 j (by omega)
theorem nxt_first {X Y : Nat → Int} {u k : Nat} (hku : ¬ (X k = X u ∧ Y k = Y u)) (ha : ∀ j, j < k → X j = X u ∧ Y j = Y u) : nxt X Y (k + 1) u k := by
  refine ⟨hku, fun j hj => ?_⟩
  by_cases qk : j = k
  · subst qk
    rw [crs_self]
    exact ⟨Int.le_refl _, fun _ => Int.le_refl _⟩
  · obtain ⟨c1, c2⟩ := crs_u (v := k) (ha j (by omega))
    have := dst_nn (X := X) (Y := Y) (u := u) (j := k)
    omega
def within99 (X Y : Nat → Int) (n : Nat) : Prop := ∀ j, j < n → (-99 ≤ X j ∧ X j ≤ 99) ∧ -99 ≤ Y j ∧ Y j ≤ 99
theorem ext_next {X Y : Nat → Int} {n u v : Nat} (hb : within99 X Y n) (hu : u < n) (hv : v < n) (hn : nxt X Y n u v) : ext X Y n v := by
  refine ⟨-(100000 * (Y v - Y u)) - (X v - X u), 100000 * (X v - X u) - (Y v - Y u), fun j hj => ?_⟩
  by_cases qj : X j = X v ∧ Y j = Y v
  · exact Or.inl qj
  refine Or.inr ?_
  obtain ⟨n1, n2⟩ := hn.2 j hj
  have bu := hb u hu
  have bv := hb v hv
  have bj := hb j hj
  have e1 : (-(100000 * (Y v - Y u)) - (X v - X u)) * (X j - X v) + (100000 * (X v - X u) - (Y v - Y u)) * (Y j - Y v) = 100000 * crs X Y u v j - ((X v - X u) * (X j - X v) + (Y v - Y u) * (Y j - Y v)) := by
    unfold crs
    grind
  rw [e1]
  obtain ⟨d1, d2⟩ := mulb (a := X v - X u) (b := X j - X v) (m := 198) (n := 198) (by omega) (by omega) (by omega) (by omega)
  obtain ⟨d3, d4⟩ := mulb (a := Y v - Y u) (b := Y j - Y v) (m := 198) (n := 198) (by omega) (by omega) (by omega) (by omega)
  by_cases z : crs X Y u v j = 0
  · have n3 := n2 z
    have e2 : (X j - X v) * (X j - X v) + (Y j - Y v) * (Y j - Y v) = dst X Y u j - dst X Y u v - 2 * ((X v - X u) * (X j - X v) + (Y v - Y u) * (Y j - Y v)) := by
      unfold dst
      grind
    have e3 : 0 < (X j - X v) * (X j - X v) + (Y j - Y v) * (Y j - Y v) := by
      rcases Int.lt_or_le 0 ((X j - X v) * (X j - X v) + (Y j - Y v) * (Y j - Y v)) with q | q
      · exact q
      · exact absurd (dst_zero (X := X) (Y := Y) (u := v) (j := j) q) qj
    omega
  · omega
theorem nxt_inj {X Y : Nat → Int} {n u w v : Nat} (hu : u < n) (hw : w < n) (hv : v < n) (eu : ext X Y n u) (ew : ext X Y n w) (h1 : nxt X Y n u v) (h2 : nxt X Y n w v) : X w = X u ∧ Y w = Y u := by
  rcases Classical.em (X w = X u ∧ Y w = Y u) with q | q
  · exact q
  exfalso
  obtain ⟨f, g, hf⟩ := eu
  obtain ⟨f2, g2, hf2⟩ := ew
  have Fv := (hf v hv).resolve_left h1.1
  have Fw := (hf w hw).resolve_left q
  have Gu := (hf2 u hu).resolve_left (fun z => q ⟨z.1.symm, z.2.symm⟩)
  have Gv := (hf2 v hv).resolve_left h2.1
  obtain ⟨a1, -⟩ := h1.2 w hw
  obtain ⟨b1, b2⟩ := h2.2 u hu
  have c1 : crs X Y w v u = - crs X Y u v w := by
    unfold crs
    grind
  have z : crs X Y u v w = 0 := by omega
  have b3 := b2 (by omega)
  have S := h1.1
  have dS : 0 < dst X Y u v := by
    rcases Int.lt_or_le 0 (dst X Y u v) with p | p
    · exact p
    · exact absurd (dst_zero p) S
  -- two times the product of both is not above the square
  have e2 : dst X Y w v - dst X Y w u = dst X Y u v - 2 * ((X v - X u) * (X w - X u) + (Y v - Y u) * (Y w - Y u)) := by
    unfold dst
    grind
  unfold crs at z
  unfold dst at dS e2
  have e3 : (f * (X w - X u) + g * (Y w - Y u)) * ((X v - X u) * (X v - X u) + (Y v - Y u) * (Y v - Y u)) = (f * (X v - X u) + g * (Y v - Y u)) * ((X v - X u) * (X w - X u) + (Y v - Y u) * (Y w - Y u)) := by grind
  have e4 : (f * (X w - X u) + g * (Y w - Y u)) * (f2 * (X v - X u) + g2 * (Y v - Y u)) = (f * (X v - X u) + g * (Y v - Y u)) * (f2 * (X w - X u) + g2 * (Y w - Y u)) := by grind
  have g1 : f2 * (X u - X w) + g2 * (Y u - Y w) = -(f2 * (X w - X u) + g2 * (Y w - Y u)) := by grind
  have g3 : f2 * (X v - X w) + g2 * (Y v - Y w) = (f2 * (X v - X u) + g2 * (Y v - Y u)) - (f2 * (X w - X u) + g2 * (Y w - Y u)) := by grind
  rw [g1] at Gu
  rw [g3] at Gv
  have b4 : dst X Y w u ≤ dst X Y w v := b3
  unfold dst at b4
  generalize f * (X v - X u) + g * (Y v - Y u) = al at *
  generalize f * (X w - X u) + g * (Y w - Y u) = be at *
  generalize f2 * (X v - X u) + g2 * (Y v - Y u) = Gp at *
  generalize f2 * (X w - X u) + g2 * (Y w - Y u) = Gq at *
  generalize hT : (X v - X u) * (X w - X u) + (Y v - Y u) * (Y w - Y u) = T at *
  generalize hS : (X v - X u) * (X v - X u) + (Y v - Y u) * (Y v - Y u) = SS at *
  have t1 : 2 * T ≤ SS := by omega
  -- be * SS = al * T
  have t2 : al * (2 * T) ≤ al * SS := Int.mul_le_mul_of_nonneg_left t1 (by omega)
  have t3 : al * (2 * T) = 2 * (be * SS) := by
    rw [e3]
    grind
  have t4 : 0 ≤ SS * (al - 2 * be) := by
    have : SS * (al - 2 * be) = al * SS - 2 * (be * SS) := by grind
    omega
  have t5 := nn_of_mul dS t4
  -- G at v below zero
  have t6 : al * Gq < 0 := Int.mul_neg_of_pos_of_neg Fv (by omega)
  have t7 : Gp < 0 := by
    rcases Int.lt_or_le Gp 0 with p | p
    · exact p
    · have := Int.mul_nonneg (show 0 ≤ be by omega) p
      omega
  have t8 : al * Gq < al * Gp := Int.mul_lt_mul_of_pos_left (by omega) Fv
  have t9 : (al - be) * Gp ≤ 0 := Int.mul_nonpos_of_nonneg_of_nonpos (by omega) (by omega)
  have t10 : (al - be) * Gp = al * Gp - be * Gp := Int.sub_mul _ _ _
  omega
theorem nxt_at {X Y : Nat → Int} {n u v v2 : Nat} (h : nxt X Y n u v) (e : X v2 = X v ∧ Y v2 = Y v) : nxt X Y n u v2 := by
  obtain ⟨h1, h2⟩ := h
  unfold nxt crs dst at *
  rw [e.1, e.2]
  exact ⟨h1, h2⟩
/-- the corners so far -/
def hst (X Y : Nat → Int) (n a : Nat) (k : Nat) (h : Nat → Nat) : Prop := h 0 = a ∧ (∀ i, i ≤ k → h i < n ∧ ext X Y n (h i)) ∧ (∀ i, i < k → nxt X Y n (h i) (h (i + 1))) ∧ ∀ i, 0 < i → i ≤ k → ¬ (X (h i) = X a ∧ Y (h i) = Y a)
theorem hst_inj {X Y : Nat → Int} {n a k : Nat} {h : Nat → Nat} (hh : hst X Y n a k h) : ∀ i j, i < j → j ≤ k → ¬ (X (h j) = X (h i) ∧ Y (h j) = Y (h i)) := by
  obtain ⟨h0, h1, h2, h3⟩ := hh
  intro i
  induction i with
  | zero =>
    intro j hj hk q
    rw [h0] at q
    exact h3 j hj hk q
  | succ i ih =>
    intro j hj hk q
    have n1 := h2 i (by omega)
    have n2 := h2 (j - 1) (by omega)
    rw [show j - 1 + 1 = j by omega] at n2
    have n3 := nxt_at n2 (v2 := h (i + 1)) ⟨q.1.symm, q.2.symm⟩
    have := nxt_inj (h1 i (by omega)).1 (h1 (j - 1) (by omega)).1 (h1 (i + 1) (by omega)).1 (h1 i (by omega)).2 (h1 (j - 1) (by omega)).2 n1 n3
    exact ih (j - 1) (by omega) (by omega) this
theorem hst_le {X Y : Nat → Int} {n a k : Nat} {h : Nat → Nat} (hh : hst X Y n a k h) : k + 1 ≤ n := by
  refine pig n (k + 1) h (fun i hi => (hh.2.1 i (by omega)).1) (fun i j hi hj e => ?_)
  rcases Nat.lt_trichotomy i j with q | q | q
  · exact absurd ⟨by rw [e], by rw [e]⟩ (hst_inj hh i j q (by omega))
  · exact q
  · exact absurd ⟨by rw [e], by rw [e]⟩ (hst_inj hh j i q (by omega))
def ptX (M : Mem) (j : Nat) : Int := (M.1 114 j).toInt
def ptY (M : Mem) (j : Nat) : Int := (M.1 115 j).toInt
theorem N_points {M : Mem} (h : RIW (M.1 95)) : wpO (iter F_MO_body_b7 FUEL (0, mSI M 94 35 0)) (fun N => ∃ n : Nat, N.1 94 35 = iI (n : Int) ∧ 1 ≤ n ∧ n ≤ 9 ∧ within99 (ptX N) (ptY N) n ∧ N.1 95 = M.1 95) := by
  obtain ⟨A, hA, a2, a3⟩ := h.actN
  refine wp_iterS (P := fun a z => z.1 = iI (a : Int) ∧ z.2.1 95 = M.1 95 ∧ z.2.1 94 35 = iI ((A * a : Nat) : Int) ∧ within99 (ptX z.2) (ptY z.2) (A * a)) A ?_ _ _ ⟨rfl, funext fun j => mI_cell (by decide), mI_hit, fun j hj => absurd hj (Nat.not_lt_zero _)⟩ (FUEL_big (by omega))
  rintro a ⟨z1, N⟩ ha ⟨e1, n95, np, nw⟩
  dsimp only at e1 n95 np nw
  subst e1
  unfold F_MO_body_b7
  dsimp only
  rw [S_actMany, bs, n95, hA]
  have hAA : A * A ≤ 9 := Nat.mul_le_mul a3 a3
  have hAA1 : 1 ≤ A * A := Nat.mul_pos (by omega) (by omega)
  refine wp_if (fun c => ?_) (fun c => ?_)
  · rw [iI_le (by omega) (by omega) (by omega) (by omega)] at c
    have : a = A := by omega
    subst this
    exact wp_some ⟨a * a, np, hAA1, hAA, nw, n95⟩
  rw [iI_le (by omega) (by omega) (by omega) (by omega)] at c
  unfold F_MO_body_l17
  have ea : A * (a + 1) = A * a + A := Nat.mul_succ A a
  have eb : A * (a + 1) ≤ A * A := Nat.mul_le_mul (Nat.le_refl A) (by omega)
  refine wp_bind (Ψ := fun N => N.1 95 = M.1 95 ∧ N.1 94 35 = iI ((A * (a + 1) : Nat) : Int) ∧ within99 (ptX N) (ptY N) (A * (a + 1))) ?_ (fun r hr => wp_some ⟨by omega, iI_succ a, hr⟩)
  refine wp_iterS (P := fun b z => z.1 = iI (b : Int) ∧ z.2.1 95 = M.1 95 ∧ z.2.1 94 35 = iI ((A * a + b : Nat) : Int) ∧ within99 (ptX z.2) (ptY z.2) (A * a + b)) A ?_ _ _ ⟨rfl, n95, np, nw⟩ (FUEL_big (by omega))
  rintro b ⟨y1, N2⟩ hb ⟨e1, m95, mp, mw⟩
  dsimp only at e1 m95 mp mw
  subst e1
  unfold F_MO_body_b17
  dsimp only
  rw [S_actMany, bs, m95, hA]
  refine wp_if (fun c2 => ?_) (fun c2 => ?_)
  · rw [iI_le (by omega) (by omega) (by omega) (by omega)] at c2
    have : b = A := by omega
    subst this
    rw [ea]
    exact wp_some ⟨m95, mp, mw⟩
  rw [iI_le (by omega) (by omega) (by omega) (by omega)] at c2
  have b0 : F_MO_brings (iI (a : Int)) (iI (b : Int)) 0 N2 = some (iI (br (M.1 95) a b 0)) := by
    rw [← m95]
    exact N_brings (p := 0) (by omega) (by omega) (by decide) _
  rw [b0, bs, mp]
  refine wp_t (inb_iI (by omega) (by omega) (by omega)) ?_
  simp only [clN (n := A * a + b) (by omega)]
  generalize hK : A * a + b = K at *
  have b1 : F_MO_brings (iI (a : Int)) (iI (b : Int)) 1 (mSI N2 114 K (iI (br (M.1 95) a b 0))) = some (iI (br (M.1 95) a b 1)) := by
    have q := N_brings (x := a) (y := b) (p := 1) (by omega) (by omega) (by decide) (mSI N2 114 K (iI (br (M.1 95) a b 0)))
    have w : (mSI N2 114 K (iI (br (M.1 95) a b 0))).1 95 = M.1 95 := (funext fun j => mI_cell (by decide)).trans m95
    rw [w] at q
    exact q
  rw [b1, bs]
  simp only [mI_cell (show (94 : Nat) ≠ 114 by decide), mI_cell (show (94 : Nat) ≠ 115 by decide), mp]
  refine wp_t (inb_iI (by omega) (by omega) (by omega)) ?_
  simp only [clN (n := K) (by omega)]
  have br0 := h.br a b 0 (by omega) (by omega) (by decide)
  have br1 := h.br a b 1 (by omega) (by omega) (by decide)
  refine wp_some ⟨by omega, iI_succ b, ?_, ?_, ?_⟩
  · show (mSI (mSI (mSI N2 114 K _) 115 K _) 94 35 _).1 95 = _
    funext j
    rw [mI_cell (by decide), mI_cell (by decide), mI_cell (by decide), m95]
  · show (mSI (mSI (mSI N2 114 K _) 115 K _) 94 35 _).1 94 35 = _
    rw [mI_hit, iI_succ]
    congr 2
    omega
  · intro j hj
    have e114 : ptX (mSI (mSI (mSI N2 114 K (iI (br (M.1 95) a b 0))) 115 K (iI (br (M.1 95) a b 1))) 94 35 (iI (K : Int) + 1)) j = if j = K then br (M.1 95) a b 0 else ptX N2 j := by
      unfold ptX
      rw [mI_cell (by decide), mI_cell (by decide)]
      by_cases q : j = K
      · rw [if_pos q, q, mI_hit, iI_toInt (by omega) (by omega)]
      · rw [if_neg q, mI_ix q]
    have e115 : ptY (mSI (mSI (mSI N2 114 K (iI (br (M.1 95) a b 0))) 115 K (iI (br (M.1 95) a b 1))) 94 35 (iI (K : Int) + 1)) j = if j = K then br (M.1 95) a b 1 else ptY N2 j := by
      unfold ptY
      rw [mI_cell (by decide)]
      by_cases q : j = K
      · rw [if_pos q, q, mI_hit, iI_toInt (by omega) (by omega)]
      · rw [if_neg q, mI_ix q, mI_cell (by decide)]
    show (-99 ≤ ptX (mSI (mSI (mSI N2 114 K (iI (br (M.1 95) a b 0))) 115 K (iI (br (M.1 95) a b 1))) 94 35 (iI (K : Int) + 1)) j ∧ _) ∧ _
    rw [e114, e115]
    by_cases q : j = K
    · rw [if_pos q, if_pos q]
      exact ⟨br0, br1⟩
    · rw [if_neg q, if_neg q]
      exact mw j (by omega)
/-- the corner to begin with -/
theorem N_start {n : Nat} {M : Mem} (hp : M.1 94 35 = iI (n : Int)) (h1 : 1 ≤ n) (h9 : n ≤ 9) (hw : within99 (ptX M) (ptY M) n) : wpO (iter (F_MO_body_b83 M) FUEL (0, 1)) (fun r => ∃ a : Nat, r = iI (a : Int) ∧ a < n ∧ ext (ptX M) (ptY M) n a) := by
  have st0 : ∀ j, j < 0 + 1 → ptX M 0 < ptX M j ∨ (ptX M 0 = ptX M j ∧ ptY M 0 ≤ ptY M j) := by
    intro j hj
    have : j = 0 := by omega
    subst this
    exact Or.inr ⟨rfl, Int.le_refl _⟩
  refine wp_iterS (P := fun k z => z.2 = iI ((k + 1 : Nat) : Int) ∧ ∃ a : Nat, z.1 = iI (a : Int) ∧ a < n ∧ k + 1 ≤ n ∧ ∀ j, j < k + 1 → ptX M a < ptX M j ∨ (ptX M a = ptX M j ∧ ptY M a ≤ ptY M j)) n ?_ _ _ ⟨rfl, 0, rfl, by omega, by omega, st0⟩ (FUEL_big (by omega))
  rintro k ⟨z1, z2⟩ hk ⟨e2, a, e1, ha, hkn, hl⟩
  dsimp only at e1 e2
  subst e1
  subst e2
  unfold F_MO_body_b83
  dsimp only
  rw [hp]
  refine wp_if (fun c => wp_some ⟨a, rfl, ha, ?_⟩) (fun c => ?_)
  · rw [iI_le (by omega) (by omega) (by omega) (by omega)] at c
    refine ⟨1000, 1, fun j hj => ?_⟩
    have q := hl j (by omega)
    have b1 := hw j hj
    have b2 := hw a ha
    omega
  rw [iI_le (by omega) (by omega) (by omega) (by omega)] at c
  have i1 : inb (iI ((k + 1 : Nat) : Int)) 9 := inb_iI (by omega) (by omega) (by omega)
  have i2 : inb (iI (a : Int)) 9 := inb_iI (by omega) (by omega) (by omega)
  refine wp_t i1 (wp_t i2 ?_)
  have ck : (iI ((k + 1 : Nat) : Int)).toNatClampNeg = k + 1 := clamp_iI (by omega) (by omega)
  have ca : (iI (a : Int)).toNatClampNeg = a := clamp_iI (by omega) (by omega)
  simp only [ck, ca]
  have keep : (∀ j, j < k + 1 + 1 → ptX M a < ptX M j ∨ (ptX M a = ptX M j ∧ ptY M a ≤ ptY M j)) → wpO (some (Sum.inl (iI (a : Int), iI ((k + 1 : Nat) : Int) + 1)) : Option ((Int32 × Int32) ⊕ Int32)) (sumP (fun s' => k < n ∧ (s'.2 = iI ((k + 1 + 1 : Nat) : Int) ∧ ∃ a : Nat, s'.1 = iI (a : Int) ∧ a < n ∧ k + 1 + 1 ≤ n ∧ ∀ j, j < k + 1 + 1 → ptX M a < ptX M j ∨ (ptX M a = ptX M j ∧ ptY M a ≤ ptY M j))) (fun r => ∃ a : Nat, r = iI (a : Int) ∧ a < n ∧ ext (ptX M) (ptY M) n a)) := fun hq => wp_some ⟨by omega, iI_succ (k + 1), a, rfl, ha, by omega, hq⟩
  have take : (∀ j, j < k + 1 + 1 → ptX M (k + 1) < ptX M j ∨ (ptX M (k + 1) = ptX M j ∧ ptY M (k + 1) ≤ ptY M j)) → wpO (some (Sum.inl (iI ((k + 1 : Nat) : Int), iI ((k + 1 : Nat) : Int) + 1)) : Option ((Int32 × Int32) ⊕ Int32)) (sumP (fun s' => k < n ∧ (s'.2 = iI ((k + 1 + 1 : Nat) : Int) ∧ ∃ a : Nat, s'.1 = iI (a : Int) ∧ a < n ∧ k + 1 + 1 ≤ n ∧ ∀ j, j < k + 1 + 1 → ptX M a < ptX M j ∨ (ptX M a = ptX M j ∧ ptY M a ≤ ptY M j))) (fun r => ∃ a : Nat, r = iI (a : Int) ∧ a < n ∧ ext (ptX M) (ptY M) n a)) := fun hq => wp_some ⟨by omega, iI_succ (k + 1), k + 1, rfl, by omega, by omega, hq⟩
  have dx : (M.1 114 (k + 1) < M.1 114 a) ↔ ptX M (k + 1) < ptX M a := lt_i
  have ex : (M.1 114 (k + 1) = M.1 114 a) ↔ ptX M (k + 1) = ptX M a := Int32.toInt_inj.symm
  have dy : (M.1 115 a ≤ M.1 115 (k + 1)) ↔ ptY M a ≤ ptY M (k + 1) := le_i
  refine wp_if (fun c1 => take (fun j hj => ?_)) (fun c1 => ?_)
  · rw [dx] at c1
    by_cases q : j = k + 1
    · subst q
      omega
    · have := hl j (by omega)
      omega
  rw [dx] at c1
  refine wp_t i1 (wp_t i2 (wp_if (fun c2 => ?_) (fun c2 => keep (fun j hj => ?_))))
  · rw [ex] at c2
    refine wp_t i1 (wp_t i2 (wp_if (fun c3 => keep (fun j hj => ?_)) (fun c3 => take (fun j hj => ?_))))
    · rw [dy] at c3
      by_cases q : j = k + 1
      · subst q
        omega
      · exact hl j (by omega)
    · rw [dy] at c3
      by_cases q : j = k + 1
      · subst q
        omega
      · have := hl j (by omega)
        omega
  · rw [ex] at c2
    by_cases q : j = k + 1
    · subst q
      omega
    · exact hl j (by omega)
/-- the next corner -/
theorem N_nextC {n u : Nat} {x2 : Int32} {M : Mem} (hp : M.1 94 35 = iI (n : Int)) (h9 : n ≤ 9) (hw : within99 (ptX M) (ptY M) n) (hu : u < n) (he : ext (ptX M) (ptY M) n u) : wpO (iter (F_MO_body_b203 (iI (u : Int)) x2 M) FUEL (-1, 0)) (fun r => (r = -1 ∧ ∀ j, j < n → ptX M j = ptX M u ∧ ptY M j = ptY M u) ∨ ∃ v : Nat, r = iI (v : Int) ∧ v < n ∧ nxt (ptX M) (ptY M) n u v) := by
  refine wp_iterS (P := fun k z => z.2 = iI (k : Int) ∧ k ≤ n ∧ ((z.1 = -1 ∧ ∀ j, j < k → ptX M j = ptX M u ∧ ptY M j = ptY M u) ∨ ∃ v : Nat, z.1 = iI (v : Int) ∧ v < n ∧ nxt (ptX M) (ptY M) k u v)) n ?_ _ _ ⟨rfl, Nat.zero_le _, Or.inl ⟨rfl, fun j hj => absurd hj (Nat.not_lt_zero _)⟩⟩ (FUEL_big (by omega))
  rintro k ⟨z1, z2⟩ hk ⟨e2, -, hz⟩
  dsimp only at e2 hz
  subst e2
  unfold F_MO_body_b203
  dsimp only
  rw [hp]
  refine wp_if (fun c => wp_some ?_) (fun c => ?_)
  · rw [iI_le (by omega) (by omega) (by omega) (by omega)] at c
    have : k = n := by omega
    rw [← this]
    rw [← this] at hz
    exact hz
  rw [iI_le (by omega) (by omega) (by omega) (by omega)] at c
  have i1 : inb (iI (k : Int)) 9 := inb_iI (by omega) (by omega) (by omega)
  have i2 : inb (iI (u : Int)) 9 := inb_iI (by omega) (by omega) (by omega)
  have ck : (iI (k : Int)).toNatClampNeg = k := clamp_iI (by omega) (by omega)
  have cu : (iI (u : Int)).toNatClampNeg = u := clamp_iI (by omega) (by omega)
  refine wp_t i1 (wp_t i2 ?_)
  simp only [ck, cu]
  have ex : (M.1 114 k = M.1 114 u) ↔ ptX M k = ptX M u := Int32.toInt_inj.symm
  have ey : (M.1 115 k = M.1 115 u) ↔ ptY M k = ptY M u := Int32.toInt_inj.symm
  have go : ∀ z : Int32, ((z = -1 ∧ ∀ j, j < k + 1 → ptX M j = ptX M u ∧ ptY M j = ptY M u) ∨ ∃ v : Nat, z = iI (v : Int) ∧ v < n ∧ nxt (ptX M) (ptY M) (k + 1) u v) → wpO (some (Sum.inl (z, iI (k : Int) + 1)) : Option ((Int32 × Int32) ⊕ Int32)) (sumP (fun s' => k < n ∧ (s'.2 = iI ((k + 1 : Nat) : Int) ∧ k + 1 ≤ n ∧ ((s'.1 = -1 ∧ ∀ j, j < k + 1 → ptX M j = ptX M u ∧ ptY M j = ptY M u) ∨ ∃ v : Nat, s'.1 = iI (v : Int) ∧ v < n ∧ nxt (ptX M) (ptY M) (k + 1) u v))) (fun r => (r = -1 ∧ ∀ j, j < n → ptX M j = ptX M u ∧ ptY M j = ptY M u) ∨ ∃ v : Nat, r = iI (v : Int) ∧ v < n ∧ nxt (ptX M) (ptY M) n u v)) := fun z hq => wp_some ⟨by omega, iI_succ k, by omega, hq⟩
  have same : (ptX M k = ptX M u ∧ ptY M k = ptY M u) → ((z1 = -1 ∧ ∀ j, j < k + 1 → ptX M j = ptX M u ∧ ptY M j = ptY M u) ∨ ∃ v : Nat, z1 = iI (v : Int) ∧ v < n ∧ nxt (ptX M) (ptY M) (k + 1) u v) := by
    intro hq
    rcases hz with ⟨e, hall⟩ | ⟨v, e, hv, hn⟩
    · refine Or.inl ⟨e, fun j hj => ?_⟩
      by_cases q : j = k
      · rw [q]
        exact hq
      · exact hall j (by omega)
    · obtain ⟨c1, c2⟩ := crs_u (v := v) hq
      have := dst_nn (X := ptX M) (Y := ptY M) (u := u) (j := v)
      exact Or.inr ⟨v, e, hv, nxt_keep hn (Or.inr ⟨c1, by omega⟩)⟩
  have other : ¬ (ptX M k = ptX M u ∧ ptY M k = ptY M u) → wpO (F_MO_body_j247 (iI (u : Int)) x2 z1 (iI (k : Int)) M) (sumP (fun s' => k < n ∧ (s'.2 = iI ((k + 1 : Nat) : Int) ∧ k + 1 ≤ n ∧ ((s'.1 = -1 ∧ ∀ j, j < k + 1 → ptX M j = ptX M u ∧ ptY M j = ptY M u) ∨ ∃ v : Nat, s'.1 = iI (v : Int) ∧ v < n ∧ nxt (ptX M) (ptY M) (k + 1) u v))) (fun r => (r = -1 ∧ ∀ j, j < n → ptX M j = ptX M u ∧ ptY M j = ptY M u) ∨ ∃ v : Nat, r = iI (v : Int) ∧ v < n ∧ nxt (ptX M) (ptY M) n u v)) := by
    intro hq
    unfold F_MO_body_j247
    rcases hz with ⟨e, hall⟩ | ⟨v, e, hv, hn⟩
    · subst e
      exact wp_f (by decide) (go _ (Or.inr ⟨k, rfl, by omega, nxt_first hq hall⟩))
    · subst e
      have i3 : inb (iI (v : Int)) 9 := inb_iI (by omega) (by omega) (by omega)
      have cv : (iI (v : Int)).toNatClampNeg = v := clamp_iI (by omega) (by omega)
      have l0 : (0 : Int32) = iI 0 := rfl
      have z0 : (0 : Int64) = lI 0 := rfl
      have bu := hw u hu
      have bv := hw v hv
      have bk := hw k (by omega)
      refine wp_t (by rw [l0, iI_le] <;> omega) (wp_t i2 (wp_t i2 (wp_t i3 (wp_t i3 (wp_t i1 (wp_t i1 ?_))))))
      simp only [ck, cu, cv]
      simp only [to64]
      rw [N_turn, bs]
      have ct : ((M.1 114 v).toInt - (M.1 114 u).toInt) * ((M.1 115 k).toInt - (M.1 115 u).toInt) - ((M.1 115 v).toInt - (M.1 115 u).toInt) * ((M.1 114 k).toInt - (M.1 114 u).toInt) = crs (ptX M) (ptY M) u v k := rfl
      rw [ct]
      have cb : -78408 ≤ crs (ptX M) (ptY M) u v k ∧ crs (ptX M) (ptY M) u v k ≤ 78408 := by
        obtain ⟨d1, d2⟩ := mulb (a := ptX M v - ptX M u) (b := ptY M k - ptY M u) (m := 198) (n := 198) (by omega) (by omega) (by omega) (by omega)
        obtain ⟨d3, d4⟩ := mulb (a := ptY M v - ptY M u) (b := ptX M k - ptX M u) (m := 198) (n := 198) (by omega) (by omega) (by omega) (by omega)
        unfold crs
        omega
      have db : ∀ j, j < n → 0 ≤ dst (ptX M) (ptY M) u j ∧ dst (ptX M) (ptY M) u j ≤ 78408 := by
        intro j hj
        have bj := hw j hj
        obtain ⟨d1, d2⟩ := mulb (a := ptX M j - ptX M u) (b := ptX M j - ptX M u) (m := 198) (n := 198) (by omega) (by omega) (by omega) (by omega)
        obtain ⟨d3, d4⟩ := mulb (a := ptY M j - ptY M u) (b := ptY M j - ptY M u) (m := 198) (n := 198) (by omega) (by omega) (by omega) (by omega)
        refine ⟨dst_nn, ?_⟩
        unfold dst
        omega
      refine wp_if (fun c1 => ?_) (fun c1 => ?_)
      · rw [z0, lI_lt (by omega) (by omega) (by omega) (by omega)] at c1
        exact go _ (Or.inr ⟨k, rfl, by omega, nxt_new he hv (by omega) hn hq (Or.inl c1)⟩)
      rw [z0, lI_lt (by omega) (by omega) (by omega) (by omega)] at c1
      refine wp_if (fun c2 => ?_) (fun c2 => ?_)
      · rw [z0, lI_eq (by omega) (by omega) (by omega) (by omega)] at c2
        refine wp_t i2 (wp_t i2 (wp_t i1 (wp_t i1 ?_)))
        rw [N_apart, bs]
        have ak : ((M.1 114 k).toInt - (M.1 114 u).toInt) * ((M.1 114 k).toInt - (M.1 114 u).toInt) + ((M.1 115 k).toInt - (M.1 115 u).toInt) * ((M.1 115 k).toInt - (M.1 115 u).toInt) = dst (ptX M) (ptY M) u k := rfl
        rw [ak]
        refine wp_t i2 (wp_t i2 (wp_t i3 (wp_t i3 ?_)))
        rw [N_apart, bs]
        have av : ((M.1 114 v).toInt - (M.1 114 u).toInt) * ((M.1 114 v).toInt - (M.1 114 u).toInt) + ((M.1 115 v).toInt - (M.1 115 u).toInt) * ((M.1 115 v).toInt - (M.1 115 u).toInt) = dst (ptX M) (ptY M) u v := rfl
        rw [av]
        have dk := db k (by omega)
        have dv := db v hv
        refine wp_if (fun c3 => ?_) (fun c3 => ?_)
        · rw [lI_le (by omega) (by omega) (by omega) (by omega)] at c3
          exact go _ (Or.inr ⟨v, rfl, hv, nxt_keep hn (Or.inr ⟨c2, c3⟩)⟩)
        · rw [lI_le (by omega) (by omega) (by omega) (by omega)] at c3
          exact go _ (Or.inr ⟨k, rfl, by omega, nxt_new he hv (by omega) hn hq (Or.inr ⟨c2, by omega⟩)⟩)
      · rw [z0, lI_eq (by omega) (by omega) (by omega) (by omega)] at c2
        exact go _ (Or.inr ⟨v, rfl, hv, nxt_keep hn (Or.inl (by omega))⟩)
  refine wp_if (fun c1 => ?_) (fun c1 => other (fun q => c1 (ex.mpr q.1)))
  refine wp_t i1 (wp_t i2 (wp_if (fun c2 => go _ (same ⟨ex.mp c1, ey.mp c2⟩)) (fun c2 => other (fun q => c2 (ey.mpr q.2)))))
theorem N_body {M : Mem} (h : RIW (M.1 95)) : wpO (F_MO_body M) (fun N => N.1 95 = M.1 95 ∧ ∃ c : Nat, N.1 94 36 = iI (c : Int) ∧ 1 ≤ c ∧ c ≤ 9) := by
  unfold F_MO_body F_MO_body_l7
  refine wp_bind (N_points h) (fun N hN => ?_)
  obtain ⟨n, hp, h1, h9, hw, n95⟩ := hN
  unfold F_MO_body_l83
  refine wp_bind (N_start hp h1 h9 hw) (fun r hr => ?_)
  obtain ⟨a, rfl, ha, he⟩ := hr
  unfold F_MO_body_j144 F_MO_body_l153
  refine wp_bind (Ψ := fun N => N.1 95 = M.1 95 ∧ ∃ c : Nat, N.1 94 36 = iI (c : Int) ∧ 1 ≤ c ∧ c ≤ 9) ?_ (fun r hr => wp_some hr)
  refine wp_iterS (P := fun k z => (z.2.2.1 95 = M.1 95 ∧ z.2.2.1 114 = N.1 114 ∧ z.2.2.1 115 = N.1 115 ∧ z.2.2.1 94 35 = iI (n : Int)) ∧ ((z.2.1 = true ∧ z.2.2.1 94 36 = iI (k : Int) ∧ ∃ g : Nat → Nat, hst (ptX N) (ptY N) n a k g ∧ z.1 = iI (g k : Int)) ∨ (z.2.1 = false ∧ k ≤ 9 ∧ ∃ c : Nat, z.2.2.1 94 36 = iI (c : Int) ∧ 1 ≤ c ∧ c ≤ 9))) 10 ?_ _ _ ⟨⟨(funext fun j => mI_cell (by decide)).trans n95, funext fun j => mI_cell (by decide), funext fun j => mI_cell (by decide), (mI_ix (by decide)).trans hp⟩, Or.inl ⟨rfl, mI_hit, fun _ => a, ⟨rfl, fun i hi => ⟨ha, he⟩, fun i hi => absurd hi (Nat.not_lt_zero _), fun i h1 h2 => absurd h2 (by omega)⟩, rfl⟩⟩ (FUEL_big (by decide))
  rintro k ⟨z1, z2, N2⟩ hk ⟨⟨m95, m114, m115, mp⟩, hz⟩
  dsimp only at m95 m114 m115 mp hz
  unfold F_MO_body_b153
  dsimp only
  rcases hz with ⟨e2, hc, g, hg, e1⟩ | ⟨e2, k9, c, hc, c1, c9⟩
  · subst e2
    subst e1
    have kn := hst_le hg
    have gk := hg.2.1 k (Nat.le_refl _)
    refine wp_t rfl ?_
    have i1 : inb (iI (g k : Int)) 9 := inb_iI (by omega) (by omega) (by omega)
    refine wp_t i1 ?_
    rw [hc]
    have i2 : inb (iI (k : Int)) 10 := inb_iI (by omega) (by omega) (by omega)
    refine wp_t i2 (wp_t i1 ?_)
    simp only [mI_cell (show (94 : Nat) ≠ 116 by decide), mI_cell (show (94 : Nat) ≠ 117 by decide), hc]
    refine wp_t i2 ?_
    rw [iI_succ]
    generalize hN3 : mSI (mSI (mSI N2 116 (iI (k : Int)).toNatClampNeg (N2.1 114 (iI (g k : Int)).toNatClampNeg)) 117 (iI (k : Int)).toNatClampNeg ((mSI N2 116 (iI (k : Int)).toNatClampNeg (N2.1 114 (iI (g k : Int)).toNatClampNeg)).1 115 (iI (g k : Int)).toNatClampNeg)) 94 36 (iI ((k + 1 : Nat) : Int)) = N3
    have o95 : N3.1 95 = M.1 95 := by
      rw [← hN3]
      exact (funext fun j => by rw [mI_cell (by decide), mI_cell (by decide), mI_cell (by decide)]).trans m95
    have o114 : N3.1 114 = N.1 114 := by
      rw [← hN3]
      exact (funext fun j => by rw [mI_cell (by decide), mI_cell (by decide), mI_cell (by decide)]).trans m114
    have o115 : N3.1 115 = N.1 115 := by
      rw [← hN3]
      exact (funext fun j => by rw [mI_cell (by decide), mI_cell (by decide), mI_cell (by decide)]).trans m115
    have op : N3.1 94 35 = iI (n : Int) := by
      rw [← hN3, mI_ix (by decide), mI_cell (by decide), mI_cell (by decide), mp]
    have oc : N3.1 94 36 = iI ((k + 1 : Nat) : Int) := by
      rw [← hN3, mI_hit]
    have oX : ptX N3 = ptX N := by
      unfold ptX
      rw [o114]
    have oY : ptY N3 = ptY N := by
      unfold ptY
      rw [o115]
    unfold F_MO_body_l203
    refine wp_bind (N_nextC (n := n) (u := g k) (x2 := iI (a : Int)) (M := N3) op h9 (by rw [oX, oY]; exact hw) gk.1 (by rw [oX, oY]; exact gk.2)) (fun r hr => ?_)
    rw [oX, oY] at hr
    unfold F_MO_body_j404
    have stop : ∀ x : Int32, wpO (some (Sum.inl (x, false, N3)) : Option ((Int32 × Bool × Mem) ⊕ Mem)) (sumP (fun z => k < 10 ∧ ((z.2.2.1 95 = M.1 95 ∧ z.2.2.1 114 = N.1 114 ∧ z.2.2.1 115 = N.1 115 ∧ z.2.2.1 94 35 = iI (n : Int)) ∧ ((z.2.1 = true ∧ z.2.2.1 94 36 = iI ((k + 1 : Nat) : Int) ∧ ∃ g : Nat → Nat, hst (ptX N) (ptY N) n a (k + 1) g ∧ z.1 = iI (g (k + 1) : Int)) ∨ (z.2.1 = false ∧ k + 1 ≤ 9 ∧ ∃ c : Nat, z.2.2.1 94 36 = iI (c : Int) ∧ 1 ≤ c ∧ c ≤ 9)))) (fun N => N.1 95 = M.1 95 ∧ ∃ c : Nat, N.1 94 36 = iI (c : Int) ∧ 1 ≤ c ∧ c ≤ 9)) := fun x => wp_some ⟨by omega, ⟨o95, o114, o115, op⟩, Or.inr ⟨rfl, by omega, k + 1, oc, by omega, by omega⟩⟩
    rcases hr with ⟨rfl, -⟩ | ⟨v, rfl, hv, hn⟩
    · exact wp_t (by decide) (stop _)
    · have l0 : (0 : Int32) = iI 0 := rfl
      have i3 : inb (iI (v : Int)) 9 := inb_iI (by omega) (by omega) (by omega)
      have i4 : inb (iI (a : Int)) 9 := inb_iI (by omega) (by omega) (by omega)
      have cv : (iI (v : Int)).toNatClampNeg = v := clamp_iI (by omega) (by omega)
      have ca : (iI (a : Int)).toNatClampNeg = a := clamp_iI (by omega) (by omega)
      refine wp_f (by rw [l0, iI_lt] <;> omega) (wp_t i3 (wp_t i4 ?_))
      simp only [cv, ca]
      have ex : (N3.1 114 v = N3.1 114 a) ↔ ptX N v = ptX N a := by
        rw [o114]
        exact Int32.toInt_inj.symm
      have ey : (N3.1 115 v = N3.1 115 a) ↔ ptY N v = ptY N a := by
        rw [o115]
        exact Int32.toInt_inj.symm
      have more : ¬ (ptX N v = ptX N a ∧ ptY N v = ptY N a) → wpO (some (Sum.inl (iI (v : Int), true, N3)) : Option ((Int32 × Bool × Mem) ⊕ Mem)) (sumP (fun z => k < 10 ∧ ((z.2.2.1 95 = M.1 95 ∧ z.2.2.1 114 = N.1 114 ∧ z.2.2.1 115 = N.1 115 ∧ z.2.2.1 94 35 = iI (n : Int)) ∧ ((z.2.1 = true ∧ z.2.2.1 94 36 = iI ((k + 1 : Nat) : Int) ∧ ∃ g : Nat → Nat, hst (ptX N) (ptY N) n a (k + 1) g ∧ z.1 = iI (g (k + 1) : Int)) ∨ (z.2.1 = false ∧ k + 1 ≤ 9 ∧ ∃ c : Nat, z.2.2.1 94 36 = iI (c : Int) ∧ 1 ≤ c ∧ c ≤ 9)))) (fun N => N.1 95 = M.1 95 ∧ ∃ c : Nat, N.1 94 36 = iI (c : Int) ∧ 1 ≤ c ∧ c ≤ 9)) := by
        intro hq
        refine wp_some ⟨by omega, ⟨o95, o114, o115, op⟩, Or.inl ⟨rfl, oc, fun i => if i = k + 1 then v else g i, ⟨?_, ?_, ?_, ?_⟩, ?_⟩⟩
        · dsimp only
          rw [if_neg (by omega)]
          exact hg.1
        · intro i hi
          dsimp only
          by_cases q : i = k + 1
          · rw [if_pos q]
            exact ⟨hv, ext_next hw gk.1 hv hn⟩
          · rw [if_neg q]
            exact hg.2.1 i (by omega)
        · intro i hi
          dsimp only
          by_cases q : i = k
          · rw [if_neg (by omega), if_pos (by omega), q]
            exact hn
          · rw [if_neg (by omega), if_neg (by omega)]
            exact hg.2.2.1 i (by omega)
        · intro i h1 h2
          dsimp only
          by_cases q : i = k + 1
          · rw [if_pos q]
            exact hq
          · rw [if_neg q]
            exact hg.2.2.2 i h1 (by omega)
        · dsimp only
          rw [if_pos rfl]
      refine wp_if (fun c1 => ?_) (fun c1 => more (fun q => c1 (ex.mpr q.1)))
      exact wp_t i3 (wp_t i4 (wp_if (fun c2 => stop _) (fun c2 => more (fun q => c2 (ey.mpr q.2)))))
  · subst e2
    exact wp_f (by decide) (wp_some ⟨m95, c, hc, c1, c9⟩)
theorem E_corner {x y : Int32} {M : Mem} (h : RIW (M.1 95)) : wpO (F_MO_corner x y M) (fun _ => True) := by
  have h0 : RIW ((mSI M 94 0 0).1 95) := h
  unfold F_MO_corner
  refine wp_bind (N_body h0) (fun N hN => ?_)
  obtain ⟨-, c, hc, c1, c9⟩ := hN
  rw [hc]
  have e : iI (c : Int) - 1 = iI ((c : Int) - 1) := by rw [l32_1, iI_sub]
  rw [e]
  refine wp_within (fun q1 q2 => wp_tt ?_) (fun _ => wp_ff (wp_some trivial))
  rw [le_i, iI_toInt (by omega) (by omega)] at q2
  obtain ⟨k, rfl, hk⟩ := iI_of_le q1 q2
  have i : inb (iI (k : Int)) 10 := inb_iI (by omega) (by omega) (by omega)
  exact wp_if (fun _ => wp_t i (wp_some trivial)) (fun _ => wp_t i (wp_some trivial))
theorem N_isIn {x y d : Int64} {M : Mem} (h : RIW (M.1 95)) : wpO (F_MO_isIn x y d M) (fun r => r.2.1 95 = M.1 95) := by
  unfold F_MO_isIn
  refine wp_bind (N_body h) (fun N hN => ?_)
  obtain ⟨n95, c, hc, c1, c9⟩ := hN
  unfold F_MO_isIn_l10
  refine wp_bind (Ψ := fun _ => True) ?_ (fun r _ => ?_)
  · refine wp_iterS (P := fun k z => z.2 = iI (k : Int)) c ?_ _ _ rfl (FUEL_big (by omega))
    rintro k ⟨z1, z2⟩ hk e2
    dsimp only at e2
    subst e2
    unfold F_MO_isIn_b10
    dsimp only
    rw [hc]
    refine wp_if (fun _ => wp_some trivial) (fun cc => ?_)
    rw [iI_le (by omega) (by omega) (by omega) (by omega)] at cc
    have l0 : (0 : Int32) = iI 0 := rfl
    refine wp_t (by rw [l0, iI_eq] <;> omega) (wp_if (fun _ => ?_) (fun _ => wp_some ⟨by omega, iI_succ k⟩))
    have i1 : inb (iI (k : Int)) 10 := inb_iI (by omega) (by omega) (by omega)
    have i2 : inb (irm (iI (k : Int) + 1) (iI (c : Int))) 10 := by
      rw [iI_succ, irmN (by omega) (by omega)]
      have := Nat.mod_lt (k + 1) (show 0 < c by omega)
      exact inb_iI (by omega) (by omega) (by omega)
    refine wp_t i1 (wp_t i1 (wp_t i2 (wp_t i2 ?_)))
    exact wp_bind (Ψ := fun _ => True) ⟨_, rfl, trivial⟩ (fun r6 _ => wp_if (fun _ => wp_some ⟨by omega, iI_succ k⟩) (fun _ => wp_some ⟨by omega, iI_succ k⟩))
  · unfold F_MO_isIn_j102
    rw [hc]
    have e : iI (c : Int) - 1 = iI ((c - 1 : Nat) : Int) := by
      rw [l32_1, iI_sub]
      congr 1
      omega
    rw [e]
    have i0 : inb (0 : Int32) 10 := by decide
    have i1 : inb (iI ((c - 1 : Nat) : Int)) 10 := inb_iI (by omega) (by omega) (by omega)
    refine wp_if (fun _ => wp_if (fun _ => ?_) (fun _ => wp_some n95)) (fun _ => wp_some n95)
    refine wp_t i0 (wp_t i1 (wp_bind (T_Math_min_III _ _ _) (fun r2 _ => wp_if (fun _ => wp_some n95) (fun _ => ?_))))
    refine wp_t i0 (wp_t i1 (wp_bind (T_Math_max_III _ _ _) (fun r3 _ => wp_if (fun _ => wp_some n95) (fun _ => ?_))))
    refine wp_t i0 (wp_t i1 (wp_bind (T_Math_min_III _ _ _) (fun r4 _ => wp_if (fun _ => wp_some n95) (fun _ => ?_))))
    exact wp_t i0 (wp_t i1 (wp_bind (T_Math_max_III _ _ _) (fun r5 _ => wp_if (fun _ => wp_some n95) (fun _ => wp_some n95))))
theorem E_in {x1 x2 x3 x4 : Int32} {M : Mem} (h : RIW (M.1 95)) : wpO (F_MO_in x1 x2 x3 x4 M) (fun _ => True) := by
  have h0 : RIW ((mSI M 94 0 0).1 95) := h
  have j48 : ∀ s : Bool, wpO (F_MO_in_j48 x1 x2 x3 x4 s (mSI M 94 0 0)) (fun _ => True) := by
    intro s
    unfold F_MO_in_j48
    refine wp_thr (fun _ => thr_t (wp_some trivial)) (fun _ => thr_f ?_)
    dsimp only
    refine wp_bind (N_isIn h0) (fun r hr => ?_)
    have hr2 : RIW (r.2.1 95) := by rw [hr]; exact h0
    have k0 : wpO (F_MO_leastOf 0 r.2) (fun _ => True) := N_leastOf (p := 0) hr2 (by decide)
    have k1 : wpO (F_MO_leastOf 1 r.2) (fun _ => True) := N_leastOf (p := 1) hr2 (by decide)
    refine wp_if (fun _ => wp_if (fun _ => wp_some trivial) (fun _ => ?_)) (fun _ => wp_some trivial)
    refine wp_bind k0 (fun r4 _ => wp_if (fun _ => wp_some trivial) (fun _ => ?_))
    exact wp_bind k1 (fun r5 _ => wp_if (fun _ => wp_some trivial) (fun _ => wp_some trivial))
  unfold F_MO_in
  refine wp_within (fun _ _ => wp_tt ?_) (fun _ => wp_ff (j48 true))
  refine wp_within (fun _ _ => wp_tt ?_) (fun _ => wp_ff (j48 true))
  exact wp_within (fun _ _ => wp_tt (j48 false)) (fun _ => wp_ff (j48 true))
