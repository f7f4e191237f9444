/-! ===== values: the village on both sides ===== -/
theorem eb {c g m : Int} (c1 : 0 ≤ c) (c2 : c ≤ 999) (g1 : 1 ≤ g) (g2 : g ≤ 99) (m1 : -64 ≤ m) (m2 : m ≤ 64) : (0 ≤ eU c g m ∧ eU c g m ≤ 999) ∧ 1 ≤ eD c g m ∧ eD c g m ≤ 6435 := by
  have hmb := mulb (a := m - 1) (b := g) (m := 65) (n := 99) (by omega) (by omega) (by omega) (by omega)
  unfold eU eD
  by_cases h1 : g < c
  · rw [if_pos h1, if_pos h1]
    by_cases h2 : c - g < (m - 1) * g
    · rw [if_pos h2, if_pos h2]
      obtain ⟨q1, q2, q3, q4, q5, -⟩ := rUD (a := c - g) (b := (m - 1) * g) (by omega)
      have q6 : (rU (c - g) ((m - 1) * g)).natAbs ≤ (c - g).natAbs := rU_le (by omega)
      have q7 : 0 ≤ rU (c - g) ((m - 1) * g) := Int.ediv_nonneg (by omega) (by omega)
      omega
    · rw [if_neg h2, if_neg h2]
      omega
  · rw [if_neg h1, if_neg h1]
    omega
def wU (W : Nat → Int32) (m k : Nat) : Int := eU (W (552 + 2 * k)).toInt (W (553 + 2 * k)).toInt m
def wD (W : Nat → Int32) (m k : Nat) : Int := eD (W (552 + 2 * k)).toInt (W (553 + 2 * k)).toInt m
theorem wb {W : Nat → Int32} (h : RIW W) {k m : Nat} (hk : (k : Int) < (W 8).toInt) (hm : m ≤ 64) : (0 ≤ wU W m k ∧ wU W m k ≤ 999) ∧ 1 ≤ wD W m k ∧ wD W m k ≤ 6435 := by
  obtain ⟨⟨w1, w2⟩, w3, w4⟩ := h.vil k hk
  exact eb w1 w2 w3 w4 (by omega) (by omega)
theorem N_edgeW {k m : Nat} {M : Mem} (h : RIW (M.1 95)) (hk : (k : Int) < (M.1 95 8).toInt) (hm : m ≤ 64) : F_MO_edgeOf (iI (k : Int)) (iI (m : Int)) M = some (mSL (mSL M 94 15 (lI (wU (M.1 95) m k))) 94 16 (lI (wD (M.1 95) m k))) := N_edgeX h hk hm
theorem i64 (z : Int32) : z.toInt64 = lI z.toInt := by
  have a := i_lo z
  have b := i_hi z
  rw [← iI_l a b, iI_of]
/-- what the class's village has in common with the reference's -/
def relV (M : Mem) (n : Nat) : Prop := M.1 1 8 = iI (n : Int) ∧ M.1 95 8 = iI (n : Int) ∧ n ≤ 6 ∧ M.1 1 1 = M.1 95 1 ∧ M.1 1 2 = M.1 95 2 ∧ ∀ k : Nat, k < n → M.2 11 k = lI (M.1 95 (552 + 2 * k)).toInt ∧ M.2 13 k = lI (M.1 95 (553 + 2 * k)).toInt
theorem C_edgeW {o k m n : Nat} {M : Mem} (hr : relV M n) (h : RIW (M.1 95)) (hk : k < n) (hm : m ≤ 64) : F_Bridge_tellEdge o (iI (k : Int)) (iI (m : Int)) M = some (mSL (mSL M o 0 (lI (wU (M.1 95) m k))) o 1 (lI (wD (M.1 95) m k))) := by
  obtain ⟨f8, w8, hn, -, -, hv⟩ := hr
  have t8 : (M.1 95 8).toInt = n := by rw [w8, iI_toInt (by omega) (by omega)]
  obtain ⟨⟨w1, w2⟩, w3, w4⟩ := h.vil k (by omega)
  exact C_edgeX (hv k hk).1 (hv k hk).2 (by omega) w1 w2 w3 w4 (by omega) (by omega)
/-- WEAK among the first k of n: who, up, down -/
def wkN (W : Nat → Int32) (n : Nat) : Nat → Int × Int × Int
  | 0 => (-1, 0, 1)
  | k + 1 => if (wkN W n k).1 = -1 ∨ (wkN W n k).2.1 * wD W n k < wU W n k * (wkN W n k).2.2 then ((k : Int), wU W n k, wD W n k) else wkN W n k
theorem wkB {W : Nat → Int32} (h : RIW W) {n : Nat} (h8 : (W 8).toInt = n) : ∀ k : Nat, k ≤ n → (-1 ≤ (wkN W n k).1 ∧ (wkN W n k).1 ≤ k) ∧ (0 ≤ (wkN W n k).2.1 ∧ (wkN W n k).2.1 ≤ 999) ∧ 1 ≤ (wkN W n k).2.2 ∧ (wkN W n k).2.2 ≤ 6435
  | 0, _ => by
    show (-1 ≤ (-1 : Int) ∧ (-1 : Int) ≤ (0 : Nat)) ∧ (0 ≤ (0 : Int) ∧ (0 : Int) ≤ 999) ∧ 1 ≤ (1 : Int) ∧ (1 : Int) ≤ 6435
    omega
  | k + 1, hk => by
    obtain ⟨⟨a1, a2⟩, ⟨b1, b2⟩, c1, c2⟩ := wkB h h8 k (by omega)
    have r8 := h.vilN
    obtain ⟨⟨u1, u2⟩, u3, u4⟩ := wb (k := k) (m := n) h (by omega) (by omega)
    unfold wkN
    by_cases q : (wkN W n k).1 = -1 ∨ (wkN W n k).2.1 * wD W n k < wU W n k * (wkN W n k).2.2
    · rw [if_pos q]
      dsimp only
      omega
    · rw [if_neg q]
      omega
theorem wkN_s (W : Nat → Int32) (n k : Nat) : wkN W n (k + 1) = if (wkN W n k).1 = -1 ∨ (wkN W n k).2.1 * wD W n k < wU W n k * (wkN W n k).2.2 then ((k : Int), wU W n k, wD W n k) else wkN W n k := rfl
def sameV (M N : Mem) : Prop := N.1 = M.1 ∧ N.2 11 = M.2 11 ∧ N.2 13 = M.2 13
theorem sameV.w {M N : Mem} (h : sameV M N) {o : Nat} (h1 : o ≠ 11) (h2 : o ≠ 13) (a b : Int64) {i j : Nat} : sameV M (mSL (mSL N o i a) o j b) :=
  ⟨h.1, (funext fun _ => (mL_cell (Ne.symm h1)).trans (mL_cell (Ne.symm h1))).trans h.2.1, (funext fun _ => (mL_cell (Ne.symm h2)).trans (mL_cell (Ne.symm h2))).trans h.2.2⟩
def wkC (M : Mem) (n k : Nat) (z : Int32 × Int64 × Int64 × Int32 × Mem) : Prop := k ≤ n ∧ z.1 = iI (wkN (M.1 95) n k).1 ∧ z.2.1 = lI (wkN (M.1 95) n k).2.1 ∧ z.2.2.1 = lI (wkN (M.1 95) n k).2.2 ∧ z.2.2.2.1 = iI (k : Int) ∧ sameV M z.2.2.2.2
theorem wkC.up {M X : Mem} {n k : Nat} {z3 : Int32} (hn : k + 1 ≤ n) (c : (wkN (M.1 95) n k).1 = -1 ∨ (wkN (M.1 95) n k).2.1 * wD (M.1 95) n k < wU (M.1 95) n k * (wkN (M.1 95) n k).2.2) (e : z3 = iI ((k + 1 : Nat) : Int)) (hX : sameV M X) : wkC M n (k + 1) (iI (k : Int), lI (wU (M.1 95) n k), lI (wD (M.1 95) n k), z3, X) := by
  unfold wkC
  rw [wkN_s, if_pos c]
  exact ⟨hn, rfl, rfl, rfl, e, hX⟩
theorem wkC.no {M X : Mem} {n k : Nat} {z3 : Int32} (hn : k + 1 ≤ n) (c : ¬ ((wkN (M.1 95) n k).1 = -1 ∨ (wkN (M.1 95) n k).2.1 * wD (M.1 95) n k < wU (M.1 95) n k * (wkN (M.1 95) n k).2.2)) (e : z3 = iI ((k + 1 : Nat) : Int)) (hX : sameV M X) : wkC M n (k + 1) (iI (wkN (M.1 95) n k).1, lI (wkN (M.1 95) n k).2.1, lI (wkN (M.1 95) n k).2.2, z3, X) := by
  unfold wkC
  rw [wkN_s, if_neg c]
  exact ⟨hn, rfl, rfl, rfl, e, hX⟩
theorem m1_iI : ((-1) : Int32) = iI (-1) := rfl
theorem N_weakV {M : Mem} {n : Nat} (h : RIW (M.1 95)) (h8 : M.1 95 8 = iI (n : Int)) (hn : n ≤ 6) : wpO (F_MO_weak M) (fun r => r.1 = iI (wkN (M.1 95) n n).1 ∧ sameV M r.2) := by
  have t8 : (M.1 95 8).toInt = n := by rw [h8, iI_toInt (by omega) (by omega)]
  have z0 : (0 : Int32) = iI 0 := rfl
  unfold F_MO_weak F_MO_weak_l10
  refine wp_bind (Ψ := fun r => r.1 = iI (wkN (M.1 95) n n).1 ∧ sameV M r.2) ?_ (fun r hr => wp_some hr)
  refine wp_iterS (P := fun k z => wkC M n k z) 6 ?_ _ _ ⟨Nat.zero_le _, rfl, rfl, rfl, rfl, rfl, rfl, rfl⟩ (FUEL_big (by decide))
  rintro k ⟨z1, z2, z3, z4, N⟩ hk ⟨kn, e1, e2, e3, e4, m⟩
  dsimp only at e1 e2 e3 e4 m
  subst e1
  subst e2
  subst e3
  subst e4
  obtain ⟨⟨a1, a2⟩, ⟨b1, b2⟩, c1, c2⟩ := wkB h t8 k kn
  unfold F_MO_weak_b10
  dsimp only
  refine wp_t ib8 ?_
  simp only [tn8]
  rw [m.1, h8]
  refine wp_if (fun c => wp_some ?_) (fun c => ?_)
  · rw [iI_le (by omega) (by omega) (by omega) (by omega)] at c
    rw [show k = n by omega]
    exact ⟨rfl, m⟩
  · rw [iI_le (by omega) (by omega) (by omega) (by omega)] at c
    have hW : RIW (N.1 95) := by rw [m.1]; exact h
    refine wp_t ib8 ?_
    rw [N_edgeW (M := N) (k := k) (m := n) hW (by rw [m.1]; omega) (by omega), bs, m.1]
    obtain ⟨⟨u1, u2⟩, u3, u4⟩ := wb (k := k) (m := n) h (by omega) (by omega)
    have mX : sameV M (mSL (mSL N 94 15 (lI (wU (M.1 95) n k))) 94 16 (lI (wD (M.1 95) n k))) := m.w (by decide) (by decide) _ _
    have x15 : (mSL (mSL N 94 15 (lI (wU (M.1 95) n k))) 94 16 (lI (wD (M.1 95) n k))).2 94 15 = lI (wU (M.1 95) n k) := by rw [mL_ix (by decide), mL_hit]
    have x16 : (mSL (mSL N 94 15 (lI (wU (M.1 95) n k))) 94 16 (lI (wD (M.1 95) n k))).2 94 16 = lI (wD (M.1 95) n k) := mL_hit
    generalize mSL (mSL N 94 15 (lI (wU (M.1 95) n k))) 94 16 (lI (wD (M.1 95) n k)) = X at *
    have up : ((wkN (M.1 95) n k).1 = -1 ∨ (wkN (M.1 95) n k).2.1 * wD (M.1 95) n k < wU (M.1 95) n k * (wkN (M.1 95) n k).2.2) → wpO (F_MO_weak_j59 (iI (k : Int)) X) (sumP (fun s' => k < 6 ∧ wkC M n (k + 1) s') (fun r => r.1 = iI (wkN (M.1 95) n n).1 ∧ sameV M r.2)) := by
      intro c
      unfold F_MO_weak_j59
      rw [x15, x16]
      exact wp_some ⟨by omega, wkC.up (by omega) c (iI_succ k) mX⟩
    have p1 := mulb (a := (wkN (M.1 95) n k).2.1) (b := wD (M.1 95) n k) (m := 999) (n := 6435) (by omega) (by omega) (by omega) (by omega)
    have p2 := mulb (a := wU (M.1 95) n k) (b := (wkN (M.1 95) n k).2.2) (m := 999) (n := 6435) (by omega) (by omega) (by omega) (by omega)
    rw [x15, x16, lI_mul, lI_mul]
    refine wp_if (fun c => up (Or.inl ?_)) (fun c => wp_if (fun d => up (Or.inr ?_)) (fun d => wp_some ⟨by omega, wkC.no (by omega) ?_ (iI_succ k) mX⟩))
    · rw [z0, iI_lt (by omega) (by omega) (by omega) (by omega)] at c
      omega
    · rw [lI_lt (by omega) (by omega) (by omega) (by omega)] at d
      exact d
    · rw [z0, iI_lt (by omega) (by omega) (by omega) (by omega)] at c
      rw [lI_lt (by omega) (by omega) (by omega) (by omega)] at d
      omega
theorem sameV.rel {M N : Mem} {n : Nat} (s : sameV M N) (h : relV M n) : relV N n := by
  obtain ⟨a, b, c⟩ := s
  unfold relV
  rw [a, b, c]
  exact h
theorem C_weakV {M : Mem} {n : Nat} (hr : relV M n) (h : RIW (M.1 95)) : wpO (F_Bridge_weakest M) (fun r => r.1 = iI (wkN (M.1 95) n n).1) := by
  have f8 := hr.1
  have h8 := hr.2.1
  have hn := hr.2.2.1
  have t8 : (M.1 95 8).toInt = n := by rw [h8, iI_toInt (by omega) (by omega)]
  unfold F_Bridge_weakest F_Bridge_weakest_l10
  refine wp_bind (Ψ := fun r => r.1 = iI (wkN (M.1 95) n n).1) ?_ (fun r hr => wp_some hr)
  refine wp_iterS (P := fun k z => wkC M n k z) 6 ?_ _ _ ⟨Nat.zero_le _, rfl, rfl, rfl, rfl, rfl, rfl, rfl⟩ (FUEL_big (by decide))
  rintro k ⟨z1, z2, z3, z4, N⟩ hk ⟨kn, e1, e2, e3, e4, m⟩
  dsimp only at e1 e2 e3 e4 m
  subst e1
  subst e2
  subst e3
  subst e4
  obtain ⟨⟨a1, a2⟩, ⟨b1, b2⟩, c1, c2⟩ := wkB h t8 k kn
  unfold F_Bridge_weakest_b10
  dsimp only
  rw [m.1, f8]
  refine wp_if (fun c => wp_some ?_) (fun c => ?_)
  · rw [iI_le (by omega) (by omega) (by omega) (by omega)] at c
    rw [show k = n by omega]
  · rw [iI_le (by omega) (by omega) (by omega) (by omega)] at c
    rw [C_edgeW (M := N) (k := k) (m := n) (m.rel hr) (by rw [m.1]; exact h) (by omega) (by omega), bs, m.1]
    obtain ⟨⟨u1, u2⟩, u3, u4⟩ := wb (k := k) (m := n) h (by omega) (by omega)
    have mX : sameV M (mSL (mSL N 92 0 (lI (wU (M.1 95) n k))) 92 1 (lI (wD (M.1 95) n k))) := m.w (by decide) (by decide) _ _
    have x15 : (mSL (mSL N 92 0 (lI (wU (M.1 95) n k))) 92 1 (lI (wD (M.1 95) n k))).2 92 0 = lI (wU (M.1 95) n k) := by rw [mL_ix (by decide), mL_hit]
    have x16 : (mSL (mSL N 92 0 (lI (wU (M.1 95) n k))) 92 1 (lI (wD (M.1 95) n k))).2 92 1 = lI (wD (M.1 95) n k) := mL_hit
    generalize mSL (mSL N 92 0 (lI (wU (M.1 95) n k))) 92 1 (lI (wD (M.1 95) n k)) = X at *
    have up : ((wkN (M.1 95) n k).1 = -1 ∨ (wkN (M.1 95) n k).2.1 * wD (M.1 95) n k < wU (M.1 95) n k * (wkN (M.1 95) n k).2.2) → wpO (F_Bridge_weakest_j67 (iI (k : Int)) X) (sumP (fun s' => k < 6 ∧ wkC M n (k + 1) s') (fun r => r.1 = iI (wkN (M.1 95) n n).1)) := by
      intro c
      unfold F_Bridge_weakest_j67
      rw [x15, x16]
      exact wp_some ⟨by omega, wkC.up (by omega) c (iI_succ k) mX⟩
    have p1 := mulb (a := (wkN (M.1 95) n k).2.1) (b := wD (M.1 95) n k) (m := 999) (n := 6435) (by omega) (by omega) (by omega) (by omega)
    have p2 := mulb (a := wU (M.1 95) n k) (b := (wkN (M.1 95) n k).2.2) (m := 999) (n := 6435) (by omega) (by omega) (by omega) (by omega)
    rw [x15, x16, lI_mul, lI_mul]
    refine wp_if (fun c => up (Or.inl ?_)) (fun c => wp_if (fun d => wp_some ⟨by omega, wkC.no (by omega) ?_ (iI_succ k) mX⟩) (fun d => up (Or.inr ?_)))
    · rw [m1_iI, iI_eq (by omega) (by omega) (by omega) (by omega)] at c
      exact c
    · rw [m1_iI, iI_eq (by omega) (by omega) (by omega) (by omega)] at c
      rw [lI_le (by omega) (by omega) (by omega) (by omega)] at d
      omega
    · rw [lI_le (by omega) (by omega) (by omega) (by omega)] at d
      omega
