/-! ===== all ways of two moods: the world with one laid, on both sides ===== -/
def vlW (c j : Nat) : Int32 := if j = 131 then 2 else if j < 135 then iI (btv c (j - 132) : Int) else if (j - 135) % 3 = 2 then iI ((j - 135) / 3 : Nat) else iI (btv c (2 + 2 * ((j - 135) / 3) + (j - 135) % 3) : Int)
def layK (W : Nat → Int32) (c a b : Nat) : Nat → Int32 := fun j => if j = 131 ∨ (132 ≤ j ∧ j < 132 + a) ∨ (135 ≤ j ∧ j < 135 + b) then vlW c j else W j
abbrev layW (W : Nat → Int32) (c : Nat) : Nat → Int32 := layK W c 2 6
theorem layK_o {W : Nat → Int32} {c a b j : Nat} (ha : a ≤ 2) (hb : b ≤ 6) (h : j < 131 ∨ 141 ≤ j) : layK W c a b j = W j := if_neg (by omega)
theorem layK_st {W : Nat → Int32} {c a b a' b' i : Nat} {N : Mem} (h : ∀ j, N.1 95 j = layK W c a b j) (hi : ∀ j, (j = 131 ∨ (132 ≤ j ∧ j < 132 + a') ∨ (135 ≤ j ∧ j < 135 + b')) ↔ (j = i ∨ (j = 131 ∨ (132 ≤ j ∧ j < 132 + a) ∨ (135 ≤ j ∧ j < 135 + b)))) : ∀ j, (mSI N 95 i (vlW c i)).1 95 j = layK W c a' b' j := fun j => by
  unfold layK
  by_cases q : j = i
  · rw [if_pos ((hi j).mpr (Or.inl q)), q, mI_hit]
  · rw [mI_ix q, h j]
    unfold layK
    by_cases q2 : j = 131 ∨ (132 ≤ j ∧ j < 132 + a) ∨ (135 ≤ j ∧ j < 135 + b)
    · rw [if_pos q2, if_pos ((hi j).mpr (Or.inr q2))]
    · rw [if_neg q2, if_neg (fun w => by
        rcases (hi j).mp w with w | w
        · exact q w
        · exact q2 w)]
theorem R_lays {c : Nat} {M : Mem} (hc : c < 64) : wpO (F_MO_lays (iI (c : Int)) M) (fun N => (∀ j, N.1 95 j = layW (M.1 95) c j) ∧ (∀ k j, k ≠ 95 → N.1 k j = M.1 k j) ∧ N.2 = M.2) := by
  have l131 : (131 : Int32) = iI 131 := rfl
  have e131 : ((131 : Int32)).toNatClampNeg = 131 := by decide
  unfold F_MO_lays
  refine wp_t (by decide) ?_
  rw [e131]
  unfold F_MO_lays_l13
  refine wp_bind (Ψ := fun N => (∀ j, N.1 95 j = layW (M.1 95) c j) ∧ (∀ k j, k ≠ 95 → N.1 k j = M.1 k j) ∧ N.2 = M.2) ?_ (fun N hN => wp_some hN)
  refine wp_iterS (P := fun (k : Nat) (z : Int32 × Mem) => z.1 = iI (k : Int) ∧ k ≤ 2 ∧ (∀ j, z.2.1 95 j = layK (M.1 95) c k (3 * k) j) ∧ (∀ k j, k ≠ 95 → z.2.1 k j = M.1 k j) ∧ z.2.2 = M.2) 2 ?_ FUEL (0, mSI M 95 131 2) ⟨rfl, by decide, fun j => ?_, fun k j h => mI_cell h, rfl⟩ (FUEL_big (by decide))
  · rintro k ⟨z1, N⟩ hk ⟨e1, -, nv, nf, n2⟩
    dsimp only at e1 nv nf n2
    subst e1
    unfold F_MO_lays_b13
    dsimp only
    refine wp_if (fun cc => wp_some ⟨fun j => ?_, nf, n2⟩) (fun cc => ?_)
    · rw [l32_2, iI_le (by omega) (by omega) (by omega) (by omega)] at cc
      have ek : k = 2 := by omega
      subst ek
      exact nv j
    rw [l32_2, iI_le (by omega) (by omega) (by omega) (by omega)] at cc
    have hk2 : k < 2 := by omega
    have ea : ((131 : Int32) + 1) + iI (k : Int) = iI ((132 + k : Nat) : Int) := by
      rw [l131, l32_1, iI_add, iI_add]
      rfl
    rw [ea]
    refine wp_t (inb_iI (by omega) (by omega) (by omega)) ?_
    rw [clN (by omega), (bvtab c hc k (by omega)).1]
    have v0 : iI (btv c k : Int) = vlW c (132 + k) := by
      unfold vlW
      rw [if_neg (by omega), if_pos (by omega), show 132 + k - 132 = k by omega]
    rw [v0]
    have p1 : ∀ j, (mSI N 95 (132 + k) (vlW c (132 + k))).1 95 j = layK (M.1 95) c (k + 1) (3 * k) j := layK_st nv (fun j => by omega)
    have p2 : ∀ k' j, k' ≠ 95 → (mSI N 95 (132 + k) (vlW c (132 + k))).1 k' j = M.1 k' j := fun k' j h => (mI_cell h).trans (nf k' j h)
    have p3 : (mSI N 95 (132 + k) (vlW c (132 + k))).2 = M.2 := n2
    generalize mSI N 95 (132 + k) (vlW c (132 + k)) = N1 at *
    unfold F_MO_lays_l36
    refine wp_bind (Ψ := fun A => (∀ j, A.1 95 j = layK (M.1 95) c (k + 1) (3 * k + 2) j) ∧ (∀ k j, k ≠ 95 → A.1 k j = M.1 k j) ∧ A.2 = M.2) ?_ (fun A hA => ?_)
    · refine wp_iterS (P := fun (s : Nat) (z : Int32 × Mem) => z.1 = iI (s : Int) ∧ s ≤ 2 ∧ (∀ j, z.2.1 95 j = layK (M.1 95) c (k + 1) (3 * k + s) j) ∧ (∀ k j, k ≠ 95 → z.2.1 k j = M.1 k j) ∧ z.2.2 = M.2) 2 ?_ FUEL (0, N1) ⟨rfl, by decide, p1, p2, p3⟩ (FUEL_big (by decide))
      rintro s ⟨y1, A⟩ hs ⟨e1, -, a1, a2, a3⟩
      dsimp only at e1 a1 a2 a3
      subst e1
      unfold F_MO_lays_b36
      dsimp only
      refine wp_if (fun c2 => wp_some ⟨fun j => ?_, a2, a3⟩) (fun c2 => ?_)
      · rw [l32_2, iI_le (by omega) (by omega) (by omega) (by omega)] at c2
        have es : s = 2 := by omega
        subst es
        exact a1 j
      rw [l32_2, iI_le (by omega) (by omega) (by omega) (by omega)] at c2
      have hs2 : s < 2 := by omega
      have eb : (((131 : Int32) + 4) + (3 * iI (k : Int))) + iI (s : Int) = iI ((135 + 3 * k + s : Nat) : Int) := by
        rw [l131, l32_4, l32_3, iI_mul, iI_add, iI_add, iI_add]
        congr 1
      have es : ((2 : Int32) + (2 * iI (k : Int))) + iI (s : Int) = iI ((2 + 2 * k + s : Nat) : Int) := by
        rw [l32_2, iI_mul, iI_add, iI_add]
        congr 1
      rw [eb, es, (bvtab c hc (2 + 2 * k + s) (by omega)).1]
      refine wp_t (inb_iI (by omega) (by omega) (by omega)) ?_
      rw [clN (by omega)]
      have v1 : iI (btv c (2 + 2 * k + s) : Int) = vlW c (135 + 3 * k + s) := by
        unfold vlW
        rw [if_neg (by omega), if_neg (by omega), if_neg (by omega), show (135 + 3 * k + s - 135) / 3 = k by omega, show (135 + 3 * k + s - 135) % 3 = s by omega]
      rw [v1]
      exact wp_some ⟨by omega, iI_succ s, by omega, layK_st a1 (fun j => by omega), fun k' j h => (mI_cell h).trans (a2 k' j h), a3⟩
    · obtain ⟨a1, a2, a3⟩ := hA
      unfold F_MO_lays_j75
      have eb : (((131 : Int32) + 4) + (3 * iI (k : Int))) + 2 = iI ((135 + 3 * k + 2 : Nat) : Int) := by
        rw [l131, l32_4, l32_3, l32_2, iI_mul, iI_add, iI_add, iI_add]
        congr 1
      rw [eb]
      refine wp_t (inb_iI (by omega) (by omega) (by omega)) ?_
      rw [clN (by omega)]
      have v2 : iI (k : Int) = vlW c (135 + 3 * k + 2) := by
        unfold vlW
        rw [if_neg (by omega), if_neg (by omega), if_pos (by omega), show (135 + 3 * k + 2 - 135) / 3 = k by omega]
      rw [v2]
      refine wp_some ⟨by omega, ?_, by omega, layK_st a1 (fun j => by omega), fun k' j h => (mI_cell h).trans (a2 k' j h), a3⟩
      rw [← v2]
      exact iI_succ k
  · unfold layK
    by_cases q : j = 131
    · rw [if_pos (Or.inl q), q, mI_hit]
      rfl
    · rw [mI_ix q, if_neg (by omega)]
theorem layK_lay {W : Nat → Int32} {c c' : Nat} : layW (layW W c') c = layW W c := by
  funext j
  show (if j = 131 ∨ (132 ≤ j ∧ j < 132 + 2) ∨ (135 ≤ j ∧ j < 135 + 6) then vlW c j else layK W c' 2 6 j) = (if j = 131 ∨ (132 ≤ j ∧ j < 132 + 2) ∨ (135 ≤ j ∧ j < 135 + 6) then vlW c j else W j)
  by_cases q : j = 131 ∨ (132 ≤ j ∧ j < 132 + 2) ∨ (135 ≤ j ∧ j < 135 + 6)
  · rw [if_pos q, if_pos q]
  · rw [if_neg q, if_neg q]
    exact if_neg q
theorem btv1 {c t : Nat} (hc : c < 64) (ht : t < 6) : btv c t ≤ 1 := (bvtab c hc t ht).2
theorem lay_m {W : Nat → Int32} {c : Nat} : layW W c 131 = 2 := by
  show (if 131 = 131 ∨ (132 ≤ 131 ∧ 131 < 132 + 2) ∨ (135 ≤ 131 ∧ 131 < 135 + 6) then vlW c 131 else W 131) = 2
  rw [if_pos (Or.inl rfl)]
  rfl
theorem lay_a {W : Nat → Int32} {c m : Nat} (hm : m < 2) : layW W c (132 + m) = iI (btv c m : Int) := by
  show (if 132 + m = 131 ∨ (132 ≤ 132 + m ∧ 132 + m < 132 + 2) ∨ (135 ≤ 132 + m ∧ 132 + m < 135 + 6) then vlW c (132 + m) else W (132 + m)) = _
  rw [if_pos (by omega)]
  unfold vlW
  rw [if_neg (by omega), if_pos (by omega), show 132 + m - 132 = m by omega]
theorem lay_g {W : Nat → Int32} {c m s : Nat} (hm : m < 2) (hs : s < 3) : layW W c (135 + 3 * m + s) = iI ((if s = 2 then m else btv c (2 + 2 * m + s) : Nat) : Int) := by
  show (if 135 + 3 * m + s = 131 ∨ (132 ≤ 135 + 3 * m + s ∧ 135 + 3 * m + s < 132 + 2) ∨ (135 ≤ 135 + 3 * m + s ∧ 135 + 3 * m + s < 135 + 6) then vlW c (135 + 3 * m + s) else W (135 + 3 * m + s)) = _
  rw [if_pos (by omega)]
  unfold vlW
  rw [if_neg (by omega), if_neg (by omega), show (135 + 3 * m + s - 135) / 3 = m by omega, show (135 + 3 * m + s - 135) % 3 = s by omega]
  by_cases q : s = 2
  · rw [if_pos q, if_pos q]
  · rw [if_neg q, if_neg q]
theorem lay_ok {W : Nat → Int32} {c : Nat} (hc : c < 64) : WOKW (layW W c) 8 := by
  have c0 : (layW W c (27 + 13 * 8)).toInt = 2 := by
    rw [show 27 + 13 * 8 = 131 from rfl, lay_m]
    decide
  refine ⟨by omega, by omega, fun m hm => ?_⟩
  rw [c0] at hm ⊢
  have m2 : m < 2 := by omega
  refine ⟨?_, fun s hs => ?_⟩
  · have := btv1 hc (show m < 6 by omega)
    rw [show 28 + 13 * 8 + m = 132 + m by omega, lay_a m2, iI_toInt (by omega) (by omega)]
    omega
  · rw [show 31 + 13 * 8 + 3 * m + s = 135 + 3 * m + s by omega, lay_g m2 hs]
    have g : (if s = 2 then m else btv c (2 + 2 * m + s)) < 2 := by
      by_cases q : s = 2
      · rw [if_pos q]
        exact m2
      · rw [if_neg q]
        have := btv1 hc (show 2 + 2 * m + s < 6 by omega)
        omega
    generalize (if s = 2 then m else btv c (2 + 2 * m + s)) = g at *
    rw [iI_toInt (by omega) (by omega)]
    omega
theorem lay_RI {W : Nat → Int32} {c : Nat} (h : RIW W) (hc : c < 64) : RI8 (layW W c) := ⟨h.keep (fun j hj => layK_o (by decide) (by decide) (by omega)), lay_ok hc⟩
/-- the class lays the way likewise -/
theorem C_spare {c : Nat} {M : Mem} (hc : c < 64) : wpO (F_Well_putSpareWay (iI (c : Int)) M) (fun N => N.1 = M.1 ∧ (∀ k j, ¬ (k = 5 ∧ 104 ≤ j) → N.2 k j = M.2 k j) ∧ N.2 5 104 = lI 2 ∧ ∀ m, m < 2 → N.2 5 (105 + 4 * m) = lI (btv c m : Int) ∧ ∀ s, s < 3 → N.2 5 (106 + 4 * m + s) = lI ((if s = 2 then m else btv c (2 + 2 * m + s) : Nat) : Int)) := by
  have l104 : (104 : Int32) = iI ((104 : Nat) : Int) := rfl
  have l1 : (1 : Int32) = iI 1 := rfl
  have l2 : (2 : Int32) = iI 2 := rfl
  have l3 : (3 : Int32) = iI 3 := rfl
  have l4 : (4 : Int32) = iI 4 := rfl
  have ll2 : (2 : Int64) = lI 2 := rfl
  unfold F_Well_putSpareWay
  rw [l104, ll2, V_Row_put (by omega) (by omega) (by decide), bs, show ((104 : Nat) : Int).toNat = 104 from rfl]
  unfold F_Well_putSpareWay_l16
  refine wp_bind (Ψ := fun N => N.1 = M.1 ∧ (∀ k j, ¬ (k = 5 ∧ 104 ≤ j) → N.2 k j = M.2 k j) ∧ N.2 5 104 = lI 2 ∧ ∀ m, m < 2 → N.2 5 (105 + 4 * m) = lI (btv c m : Int) ∧ ∀ s, s < 3 → N.2 5 (106 + 4 * m + s) = lI ((if s = 2 then m else btv c (2 + 2 * m + s) : Nat) : Int)) ?_ (fun N hN => wp_some hN)
  refine wp_iterS (P := fun (k : Nat) (z : Int32 × Mem) => z.1 = iI (k : Int) ∧ k ≤ 2 ∧ z.2.1 = M.1 ∧ (∀ k j, ¬ (k = 5 ∧ 104 ≤ j) → z.2.2 k j = M.2 k j) ∧ z.2.2 5 104 = lI 2 ∧ ∀ m, m < k → z.2.2 5 (105 + 4 * m) = lI (btv c m : Int) ∧ ∀ s, s < 3 → z.2.2 5 (106 + 4 * m + s) = lI ((if s = 2 then m else btv c (2 + 2 * m + s) : Nat) : Int)) 2 ?_ FUEL (0, mSL M 5 104 (lI 2)) ⟨rfl, by decide, rfl, fun k j h => by rw [mSL_2, if_neg (fun w => h (by omega))], mL_hit, fun m hm => absurd hm (Nat.not_lt_zero _)⟩ (FUEL_big (by decide))
  rintro k ⟨z1, N⟩ hk ⟨e1, -, n1, nf, nm, nv⟩
  dsimp only at e1 n1 nf nm nv
  subst e1
  unfold F_Well_putSpareWay_b16
  dsimp only
  refine wp_if (fun cc => wp_some ⟨n1, nf, nm, fun m hm => nv m ?_⟩) (fun cc => ?_)
  · rw [l2, iI_le (by omega) (by omega) (by omega) (by omega)] at cc
    omega
  rw [l2, iI_le (by omega) (by omega) (by omega) (by omega)] at cc
  have hk2 : k < 2 := by omega
  have e0 : ((iI ((104 : Nat) : Int) + 1) + (4 * iI (k : Int))) = iI ((105 + 4 * k : Nat) : Int) := by
    rw [l1, l4, iI_mul, iI_add, iI_add]
    congr 1
  have e1 : iI ((105 + 4 * k : Nat) : Int) + 1 = iI ((106 + 4 * k : Nat) : Int) := by
    rw [l1, iI_add]
    congr 1
    omega
  have e2 : iI ((105 + 4 * k : Nat) : Int) + 2 = iI ((107 + 4 * k : Nat) : Int) := by
    rw [l2, iI_add]
    congr 1
    omega
  have e3 : iI ((105 + 4 * k : Nat) : Int) + 3 = iI ((108 + 4 * k : Nat) : Int) := by
    rw [l3, iI_add]
    congr 1
    omega
  have s2 : (2 : Int32) + 2 * iI (k : Int) = iI ((2 + 2 * k : Nat) : Int) := by
    rw [l2, iI_mul, iI_add]
    congr 1
  have s3 : (3 : Int32) + 2 * iI (k : Int) = iI ((2 + 2 * k + 1 : Nat) : Int) := by
    rw [l3, l2, iI_mul, iI_add]
    congr 1
    omega
  have b0 := bvtab c hc k (by omega)
  have b1 := bvtab c hc (2 + 2 * k) (by omega)
  have b2 := bvtab c hc (2 + 2 * k + 1) (by omega)
  rw [e0, e1, e2, e3, s2, s3, b0.1, b1.1, b2.1, l64n _ (by omega), l64n _ (by omega), l64n _ (by omega), l64n _ (by omega)]
  rw [V_Row_put (by omega) (by omega) (by decide), bs, V_Row_put (by omega) (by omega) (by decide), bs, V_Row_put (by omega) (by omega) (by decide), bs, V_Row_put (by omega) (by omega) (by decide), bs]
  show wpO (some (Sum.inl (iI (k : Int) + 1, mSL (mSL (mSL (mSL N 5 (105 + 4 * k) (lI (btv c k : Int))) 5 (106 + 4 * k) (lI (btv c (2 + 2 * k) : Int))) 5 (107 + 4 * k) (lI (btv c (2 + 2 * k + 1) : Int))) 5 (108 + 4 * k) (lI (k : Int)))) : Option ((Int32 × Mem) ⊕ Mem)) _
  have w : ∀ j, (mSL (mSL (mSL (mSL N 5 (105 + 4 * k) (lI (btv c k : Int))) 5 (106 + 4 * k) (lI (btv c (2 + 2 * k) : Int))) 5 (107 + 4 * k) (lI (btv c (2 + 2 * k + 1) : Int))) 5 (108 + 4 * k) (lI (k : Int))).2 5 j = if j = 108 + 4 * k then lI (k : Int) else if j = 107 + 4 * k then lI (btv c (2 + 2 * k + 1) : Int) else if j = 106 + 4 * k then lI (btv c (2 + 2 * k) : Int) else if j = 105 + 4 * k then lI (btv c k : Int) else N.2 5 j := fun j => by
    by_cases q1 : j = 108 + 4 * k
    · rw [if_pos q1, q1, mL_hit]
    · rw [if_neg q1, mL_ix q1]
      by_cases q2 : j = 107 + 4 * k
      · rw [if_pos q2, q2, mL_hit]
      · rw [if_neg q2, mL_ix q2]
        by_cases q3 : j = 106 + 4 * k
        · rw [if_pos q3, q3, mL_hit]
        · rw [if_neg q3, mL_ix q3]
          by_cases q4 : j = 105 + 4 * k
          · rw [if_pos q4, q4, mL_hit]
          · rw [if_neg q4, mL_ix q4]
  have wo : ∀ k' j, ¬ (k' = 5 ∧ 104 ≤ j) → (mSL (mSL (mSL (mSL N 5 (105 + 4 * k) (lI (btv c k : Int))) 5 (106 + 4 * k) (lI (btv c (2 + 2 * k) : Int))) 5 (107 + 4 * k) (lI (btv c (2 + 2 * k + 1) : Int))) 5 (108 + 4 * k) (lI (k : Int))).2 k' j = N.2 k' j := fun k' j h => by
    by_cases q : k' = 5
    · subst q
      rw [w j, if_neg (by omega), if_neg (by omega), if_neg (by omega), if_neg (by omega)]
    · rw [mL_cell q, mL_cell q, mL_cell q, mL_cell q]
  have w1 : (mSL (mSL (mSL (mSL N 5 (105 + 4 * k) (lI (btv c k : Int))) 5 (106 + 4 * k) (lI (btv c (2 + 2 * k) : Int))) 5 (107 + 4 * k) (lI (btv c (2 + 2 * k + 1) : Int))) 5 (108 + 4 * k) (lI (k : Int))).1 = M.1 := n1
  generalize mSL (mSL (mSL (mSL N 5 (105 + 4 * k) (lI (btv c k : Int))) 5 (106 + 4 * k) (lI (btv c (2 + 2 * k) : Int))) 5 (107 + 4 * k) (lI (btv c (2 + 2 * k + 1) : Int))) 5 (108 + 4 * k) (lI (k : Int)) = P at *
  refine wp_some ⟨by omega, iI_succ k, by omega, w1, fun k' j h => (wo k' j h).trans (nf k' j h), ?_, fun m hm => ?_⟩
  · show P.2 5 104 = lI 2
    rw [w, if_neg (by omega), if_neg (by omega), if_neg (by omega), if_neg (by omega)]
    exact nm
  · by_cases qm : m = k
    · subst qm
      refine ⟨?_, fun s hs => ?_⟩
      · show P.2 5 (105 + 4 * m) = _
        rw [w, if_neg (by omega), if_neg (by omega), if_neg (by omega), if_pos rfl]
      · show P.2 5 (106 + 4 * m + s) = _
        have s3 : s = 0 ∨ s = 1 ∨ s = 2 := by omega
        rcases s3 with rfl | rfl | rfl
        · rw [w, if_neg (by omega), if_neg (by omega), if_pos (by omega), if_neg (by decide)]
          rfl
        · rw [w, if_neg (by omega), if_pos (by omega), if_neg (by decide)]
        · rw [w, if_pos (by omega), if_pos rfl]
    · obtain ⟨v1, v2⟩ := nv m (by omega)
      refine ⟨?_, fun s hs => ?_⟩
      · show P.2 5 (105 + 4 * m) = _
        rw [w, if_neg (by omega), if_neg (by omega), if_neg (by omega), if_neg (by omega)]
        exact v1
      · show P.2 5 (106 + 4 * m + s) = _
        rw [w, if_neg (by omega), if_neg (by omega), if_neg (by omega), if_neg (by omega)]
        exact v2 s hs
/-- the class's state with the way laid is that of the laid world; and it still holds its own -/
theorem CW.spare {W : Nat → Int32} {c : Nat} {M N : Mem} (h : CW W M) (hc : c < 64) (n1 : N.1 = M.1) (nf : ∀ k j, ¬ (k = 5 ∧ 104 ≤ j) → N.2 k j = M.2 k j) (nm : N.2 5 104 = lI 2) (nv : ∀ m, m < 2 → N.2 5 (105 + 4 * m) = lI (btv c m : Int) ∧ ∀ s, s < 3 → N.2 5 (106 + 4 * m + s) = lI ((if s = 2 then m else btv c (2 + 2 * m + s) : Nat) : Int)) : CW W N ∧ CW8 (layW W c) N := by
  obtain ⟨w0, w1, ⟨h0, h1, h2, h3, h4, h5, h6, h7⟩, w2, w3, w4⟩ := h
  have e1 : ∀ j, N.1 1 j = M.1 1 j := fun j => by rw [n1]
  have o : ∀ j, (j < 131 ∨ 141 ≤ j) → layW W c j = W j := fun j hj => layK_o (by decide) (by decide) hj
  have wy : ∀ w : Nat, (w : Int) < (W 5).toInt → wyR (N.2 5) W w := fun w hw => by
    have := w1.ways
    exact (w2 w hw).cg (by omega) (w1.way w hw).2.1 (fun j hj => nf 5 j (by omega)) (fun _ _ _ => rfl)
  refine ⟨⟨by rw [n1]; exact w0, w1, ⟨(e1 0).trans h0, (e1 1).trans h1, (e1 2).trans h2, (e1 3).trans h3, (e1 4).trans h4, (e1 5).trans h5, (e1 6).trans h6, (e1 7).trans h7⟩, wy, fun j hj => (nf 3 j (by omega)).trans (w3 j hj), fun j hj => (nf 7 j (by omega)).trans (w4 j hj)⟩, trivial, lay_RI w1 hc, ?_, fun w hw => ?_, fun j hj => ?_, fun j hj => ?_⟩
  · rw [o 0 (by omega), o 1 (by omega), o 2 (by omega), o 3 (by omega), o 4 (by omega), o 5 (by omega), o 6 (by omega), o 7 (by omega)]
    exact ⟨(e1 0).trans h0, (e1 1).trans h1, (e1 2).trans h2, (e1 3).trans h3, (e1 4).trans h4, (e1 5).trans h5, (e1 6).trans h6, (e1 7).trans h7⟩
  · rcases hw with hw | hw
    · rw [o 5 (by omega)] at hw
      have := w1.ways
      exact (wy w hw).cg (by omega) (w1.way w hw).2.1 (fun _ _ => rfl) (fun j h1 h2 => o j (by omega))
    · subst hw
      have c0 : (layW W c (27 + 13 * 8)).toInt = 2 := by
        rw [show 27 + 13 * 8 = 131 from rfl, lay_m]
        decide
      refine ⟨?_, fun m hm => ?_⟩
      · show N.2 5 104 = (layW W c 131).toInt64
        rw [nm, lay_m]
        rfl
      · rw [c0] at hm
        have m2 : m < 2 := by omega
        obtain ⟨v1, v2⟩ := nv m m2
        have bm := btv1 hc (show m < 6 by omega)
        refine ⟨?_, fun s hs => ?_⟩
        · rw [show 13 * 8 + 1 + 4 * m = 105 + 4 * m by omega, show 28 + 13 * 8 + m = 132 + m by omega, v1, lay_a m2, l64n _ (by omega)]
        · rw [show 13 * 8 + 2 + 4 * m + s = 106 + 4 * m + s by omega, show 31 + 13 * 8 + 3 * m + s = 135 + 3 * m + s by omega, v2 s hs, lay_g m2 hs]
          have g : (if s = 2 then m else btv c (2 + 2 * m + s)) < 2 := by
            by_cases q : s = 2
            · rw [if_pos q]
              exact m2
            · rw [if_neg q]
              have := btv1 hc (show 2 + 2 * m + s < 6 by omega)
              omega
          rw [l64n _ (by omega)]
  · rw [o (9 + j) (by omega)]
    exact (nf 3 j (by omega)).trans (w3 j hj)
  · rw [o 7 (by omega)] at hj
    rw [o (152 + j) (by omega)]
    exact (nf 7 j (by omega)).trans (w4 j hj)
theorem KN.mv {W : Nat → Int32} {pr w : Nat} {f : Nat → Nat} {M N : Mem} (h : KN W pr w f M) (cw : CW W N) (e52 : ∀ j, N.1 52 j = M.1 52 j) (e2 : ∀ k, 53 ≤ k → k ≤ 65 → ∀ j, N.2 k j = M.2 k j) : KN W pr w f N ∧ nW W N = nW W M := by
  obtain ⟨⟨-, b1, b2, b3⟩, h2, h3⟩ := h
  have e59 : ∀ j, N.2 59 j = M.2 59 j := e2 59 (by omega) (by omega)
  have e61 : ∀ j, N.2 61 j = M.2 61 j := e2 61 (by omega) (by omega)
  refine ⟨⟨⟨cw, (e52 3).trans b1, (e52 4).trans b2, (e52 5).trans b3⟩, h2.of (fun k j hk => e2 k (by omega) (by omega) j), fun s hs => (h3 s hs).cg (e61 _) (e61 _) (fun pe _ => e59 _) (fun pe _ => e59 _)⟩, ?_⟩
  have u1 : ∀ s, uM 53 N s 0 = uM 53 M s 0 := fun s => congrArg Int64.toInt (e59 _)
  have u2 : ∀ s, dM 53 N s = dM 53 M s := fun s => congrArg Int64.toInt (e61 _)
  funext s
  show nA 53 (W 1).toInt (W 2).toInt N s = nA 53 (W 1).toInt (W 2).toInt M s
  unfold nA
  rw [u1, u2]
