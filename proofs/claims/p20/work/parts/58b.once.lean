/-! ===== values: once ===== -/
def onI (W : Nat → Int32) (A a : Nat) (s : Int32) : Nat → Int32
  | 0 => s
  | j + 1 => if br W a j 0 = mxN W 0 j A ∧ br W a j 1 = mxN W 1 a A then onI W A a s j ||| (1 <<< (((3 * iI (a : Int)) + iI (j : Int)) &&& 31)) else onI W A a s j
def onO (W : Nat → Int32) (A : Nat) : Nat → Int32
  | 0 => 0
  | a + 1 => onI W A a (onO W A a) A
theorem onI_s (W : Nat → Int32) (A a : Nat) (s : Int32) (j : Nat) : onI W A a s (j + 1) = if br W a j 0 = mxN W 0 j A ∧ br W a j 1 = mxN W 1 a A then onI W A a s j ||| (1 <<< (((3 * iI (a : Int)) + iI (j : Int)) &&& 31)) else onI W A a s j := rfl
theorem N_onceV {A : Nat} {M : Mem} (h : RIW (M.1 95)) (hA : M.1 95 0 = iI (A : Int)) (a2 : 2 ≤ A) (a3 : A ≤ 3) : wpO (F_MO_once M) (fun r => r.1 = onO (M.1 95) A A) := by
  have h0 : RIW ((mSI M 94 0 0).1 95) := h
  have hA0 : (mSI M 94 0 0).1 95 0 = iI (A : Int) := hA
  show wpO (F_MO_once M) (fun r => r.1 = onO ((mSI M 94 0 0).1 95) A A)
  unfold F_MO_once F_MO_once_l9
  generalize mSI M 94 0 0 = N at *
  refine wp_bind (Ψ := fun r => r = onO (N.1 95) A A) ?_ (fun r hr => wp_some hr)
  refine wp_iterS (P := fun k z => k ≤ A ∧ z.1 = onO (N.1 95) A k ∧ z.2 = iI (k : Int)) A ?_ _ _ ⟨Nat.zero_le _, rfl, rfl⟩ (FUEL_big (by omega))
  rintro k ⟨z1, z2⟩ hk ⟨kA, h1, h2⟩
  dsimp only at h1 h2
  subst h1
  subst h2
  unfold F_MO_once_b9
  dsimp only
  rw [S_actMany, bs, hA0]
  refine wp_if (fun c => wp_some ?_) (fun c => ?_)
  · rw [iI_le (by omega) (by omega) (by omega) (by omega)] at c
    rw [show k = A by omega]
  rw [iI_le (by omega) (by omega) (by omega) (by omega)] at c
  unfold F_MO_once_l19
  refine wp_bind (Ψ := fun r => r = onI (N.1 95) A k (onO (N.1 95) A k) A) ?_ (fun r hr => wp_some ⟨by omega, by omega, hr, iI_succ k⟩)
  refine wp_iterS (P := fun j z => j ≤ A ∧ z.1 = onI (N.1 95) A k (onO (N.1 95) A k) j ∧ z.2 = iI (j : Int)) A ?_ _ _ ⟨Nat.zero_le _, rfl, rfl⟩ (FUEL_big (by omega))
  rintro j ⟨y1, y2⟩ hj ⟨jA, h1, h2⟩
  dsimp only at h1 h2
  subst h1
  subst h2
  unfold F_MO_once_b19
  dsimp only
  rw [S_actMany, bs, hA0]
  refine wp_if (fun c2 => wp_some ?_) (fun c2 => ?_)
  · rw [iI_le (by omega) (by omega) (by omega) (by omega)] at c2
    rw [show j = A by omega]
  rw [iI_le (by omega) (by omega) (by omega) (by omega)] at c2
  have b0 : F_MO_brings (iI (k : Int)) (iI (j : Int)) 0 N = some (iI (br (N.1 95) k j 0)) := N_brings (p := 0) (by omega) (by omega) (by decide) _
  have b1 : F_MO_brings (iI (k : Int)) (iI (j : Int)) 1 N = some (iI (br (N.1 95) k j 1)) := N_brings (p := 1) (by omega) (by omega) (by decide) _
  have m0 : F_MO_mostBy 0 (iI (j : Int)) N = some (iI (mxN (N.1 95) 0 j A)) := N_mostByV (p := 0) h0 hA0 a3 (by decide) (by omega)
  have m1 : F_MO_mostBy 1 (iI (k : Int)) N = some (iI (mxN (N.1 95) 1 k A)) := N_mostByV (p := 1) h0 hA0 a3 (by decide) (by omega)
  have r0 := h0.br k j 0 (by omega) (by omega) (by decide)
  have r1 := h0.br k j 1 (by omega) (by omega) (by decide)
  have x0 := mxB (p := 0) h0.br (y := j) (by omega) A a3
  have x1 := mxB (p := 1) h0.br (y := k) (by omega) A a3
  rw [b0, bs, m0, bs, b1, bs, m1, bs]
  refine wp_if (fun d => wp_if (fun e => wp_some ⟨by omega, by omega, ?_, iI_succ j⟩) (fun e => wp_some ⟨by omega, by omega, ?_, iI_succ j⟩)) (fun d => wp_some ⟨by omega, by omega, ?_, iI_succ j⟩)
  · rw [iI_eq (by omega) (by omega) (by omega) (by omega)] at d e
    rw [onI_s, if_pos ⟨d, e⟩]
  · rw [iI_eq (by omega) (by omega) (by omega) (by omega)] at d e
    rw [onI_s, if_neg (fun q => e q.2)]
  · rw [iI_eq (by omega) (by omega) (by omega) (by omega)] at d
    rw [onI_s, if_neg (fun q => d q.1)]
theorem C_onceV {A : Nat} {M : Mem} (hr : relB M) (h : RIW (M.1 95)) (hA : M.1 95 0 = iI (A : Int)) (a2 : 2 ≤ A) (a3 : A ≤ 3) : wpO (F_KW_once M) (fun r => r = onO (M.1 95) A A) := by
  have f0 : M.1 1 0 = iI (A : Int) := hr.1.trans hA
  unfold F_KW_once F_Day_steadyPairs F_Day_steadyPairs_l4
  refine wp_bind (Ψ := fun r => r = onO (M.1 95) A A) ?_ (fun r hr => wp_some hr)
  refine wp_bind (Ψ := fun r => r = onO (M.1 95) A A) ?_ (fun r hr => wp_some hr)
  refine wp_iterS (P := fun k z => k ≤ A ∧ z.1 = onO (M.1 95) A k ∧ z.2 = iI (k : Int)) A ?_ _ _ ⟨Nat.zero_le _, rfl, rfl⟩ (FUEL_big (by omega))
  rintro k ⟨z1, z2⟩ hk ⟨kA, h1, h2⟩
  dsimp only at h1 h2
  subst h1
  subst h2
  unfold F_Day_steadyPairs_b4
  dsimp only
  rw [f0]
  refine wp_if (fun c => wp_some ?_) (fun c => ?_)
  · rw [iI_le (by omega) (by omega) (by omega) (by omega)] at c
    rw [show k = A by omega]
  rw [iI_le (by omega) (by omega) (by omega) (by omega)] at c
  unfold F_Day_steadyPairs_l17
  refine wp_bind (Ψ := fun r => r = onI (M.1 95) A k (onO (M.1 95) A k) A) ?_ (fun r hr => wp_some ⟨by omega, by omega, hr, iI_succ k⟩)
  refine wp_iterS (P := fun j z => j ≤ A ∧ z.1 = onI (M.1 95) A k (onO (M.1 95) A k) j ∧ z.2 = iI (j : Int)) A ?_ _ _ ⟨Nat.zero_le _, rfl, rfl⟩ (FUEL_big (by omega))
  rintro j ⟨y1, y2⟩ hj ⟨jA, h1, h2⟩
  dsimp only at h1 h2
  subst h1
  subst h2
  unfold F_Day_steadyPairs_b17
  dsimp only
  rw [f0]
  refine wp_if (fun c2 => wp_some ?_) (fun c2 => ?_)
  · rw [iI_le (by omega) (by omega) (by omega) (by omega)] at c2
    rw [show j = A by omega]
  rw [iI_le (by omega) (by omega) (by omega) (by omega)] at c2
  have b0 : F_Well_bringsTo 0 (iI (k : Int)) (iI (j : Int)) M = some (iI (br (M.1 95) k j 0)) := C_bringsTo (p := 0) hr (by omega) (by omega) (by decide)
  have b1 : F_Well_bringsTo 1 (iI (k : Int)) (iI (j : Int)) M = some (iI (br (M.1 95) k j 1)) := C_bringsTo (p := 1) hr (by omega) (by omega) (by decide)
  have m0 : F_Day_mostAgainst 0 (iI (j : Int)) M = some (iI (mxN (M.1 95) 0 j A)) := C_mostV (p := 0) hr h hA a2 a3 (by decide) (by omega)
  have m1 : F_Day_mostAgainst 1 (iI (k : Int)) M = some (iI (mxN (M.1 95) 1 k A)) := C_mostV (p := 1) hr h hA a2 a3 (by decide) (by omega)
  have r0 := h.br k j 0 (by omega) (by omega) (by decide)
  have r1 := h.br k j 1 (by omega) (by omega) (by decide)
  have x0 := mxB (p := 0) h.br (y := j) (by omega) A a3
  have x1 := mxB (p := 1) h.br (y := k) (by omega) A a3
  have g0 : br (M.1 95) k j 0 ≤ mxN (M.1 95) 0 j A := mx_ge (W := M.1 95) (p := 0) (y := j) k (by omega)
  have g1 : br (M.1 95) k j 1 ≤ mxN (M.1 95) 1 k A := mx_ge (W := M.1 95) (p := 1) (y := k) j (by omega)
  rw [b0, bs, m0, bs, b1, bs, m1, bs]
  refine wp_if (fun d => wp_some ⟨by omega, by omega, ?_, iI_succ j⟩) (fun d => wp_if (fun e => wp_some ⟨by omega, by omega, ?_, iI_succ j⟩) (fun e => wp_some ⟨by omega, by omega, ?_, iI_succ j⟩))
  · rw [iI_lt (by omega) (by omega) (by omega) (by omega)] at d
    rw [onI_s, if_neg (fun q => by omega)]
  · rw [iI_lt (by omega) (by omega) (by omega) (by omega)] at d e
    rw [onI_s, if_neg (fun q => by omega)]
  · rw [iI_lt (by omega) (by omega) (by omega) (by omega)] at d e
    rw [onI_s, if_pos ⟨by omega, by omega⟩]
theorem V_once {M : Mem} (h : RS M) : wpO (F_KW_once M) (fun r1 => wpO (F_MO_once M) (fun r2 => RS r2.2 ∧ r1 = r2.1)) := by
  obtain ⟨r1, e1, r2, e2, rs⟩ := G_once h
  refine ⟨r1, e1, r2, e2, rs, ?_⟩
  obtain ⟨A, hA, a2, a3⟩ := h.1.1.actN
  have c := wpO_of (C_onceV h.2.1.1.relB h.1.1 hA a2 a3) e1
  have n := wpO_of (N_onceV h.1.1 hA a2 a3) e2
  exact c.trans n.symm
