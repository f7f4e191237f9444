/-! ===== values: least, once ===== -/
/-- what the class's table of gains has in common with the reference's -/
def relB (M : Mem) : Prop := M.1 1 0 = M.1 95 0 ∧ ∀ j : Nat, j < 18 → M.2 3 j = lI (M.1 95 (9 + j)).toInt
theorem relW.relB {M : Mem} (h : relW (M.1 1) (M.2 3) (M.2 11) (M.2 13) (M.1 95)) : relB M := by
  obtain ⟨h0, h1, h2, h3, h4, h5, h8, hb, hc⟩ := h
  exact ⟨h0, fun j hj => (hb j hj).trans (i64 _)⟩
theorem V_max {a b : Int} (a1 : -2147483648 ≤ a) (a2 : a < 2147483648) (b1 : -2147483648 ≤ b) (b2 : b < 2147483648) (M : Mem) : F_Math_max_III (iI a) (iI b) M = some (iI (max a b)) := by
  unfold F_Math_max_III
  by_cases h : a < b
  · rw [if_pos (by rw [iI_lt] <;> omega), show max a b = b by omega]
  · rw [if_neg (by rw [iI_lt] <;> omega), show max a b = a by omega]
theorem C_bringsTo {p x y : Nat} {M : Mem} (hr : relB M) (hx : x < 3) (hy : y < 3) (hp : p < 2) : F_Well_bringsTo (iI (p : Int)) (iI (x : Int)) (iI (y : Int)) M = some (iI (br (M.1 95) x y p)) := by
  unfold F_Well_bringsTo
  have e : (2 * ((3 * iI (x : Int)) + iI (y : Int))) + iI (p : Int) = iI ((2 * (3 * x + y) + p : Nat) : Int) := by
    rw [l32_2, l32_3, iI_mul, iI_add, iI_mul, iI_add]
    rfl
  rw [e, V_Row_small (by omega) (by omega) (by decide), bs, show (((2 * (3 * x + y) + p : Nat) : Int)).toNat = 2 * (3 * x + y) + p by omega, hr.2 _ (by omega), lI_i]
  rfl
theorem C_bringsOwn {p x y : Nat} {M : Mem} (hr : relB M) (hp : p < 2) (hx : x < 3) (hy : y < 3) : F_Well_bringsOwn (iI (p : Int)) (iI (x : Int)) (iI (y : Int)) M = some (iI (ownW (M.1 95) p x y)) := by
  have key : ∀ j : Nat, j < 18 → F_Well_bringsOwn_j27 (iI (j : Int)) M = some (M.1 95 (9 + j)) := by
    intro j hj
    unfold F_Well_bringsOwn_j27
    rw [V_Row_small (by omega) (by omega) (by decide), bs, show ((j : Int)).toNat = j by omega, hr.2 j hj, lI_i, iI_of]
  have rb : ∀ a b q : Nat, iI (br (M.1 95) a b q) = M.1 95 (9 + (2 * (3 * a + b) + q)) := fun a b q => iI_of _
  unfold F_Well_bringsOwn
  have hp2 : p = 0 ∨ p = 1 := by omega
  rcases hp2 with rfl | rfl
  · rw [if_pos (show iI ((0 : Nat) : Int) = 0 from rfl)]
    have e : 2 * ((3 * iI (x : Int)) + iI (y : Int)) = iI ((2 * (3 * x + y) : Nat) : Int) := by
      rw [l32_2, l32_3, iI_mul, iI_add, iI_mul]
      rfl
    rw [e, key _ (by omega)]
    unfold ownW
    rw [if_pos rfl, rb]
    rfl
  · rw [if_neg (by decide)]
    have e : (2 * ((3 * iI (y : Int)) + iI (x : Int))) + 1 = iI ((2 * (3 * y + x) + 1 : Nat) : Int) := by
      rw [l32_2, l32_3, l32_1, iI_mul, iI_add, iI_mul, iI_add]
      rfl
    rw [e, key _ (by omega)]
    unfold ownW
    rw [if_neg (by decide), rb]
/-- the most that a person's first k acts bring it against one of the other's -/
def mxN (W : Nat → Int32) (p y : Nat) : Nat → Int
  | 0 => -99
  | k + 1 => max (mxN W p y k) (ownW W p k y)
theorem mxB {W : Nat → Int32} (h : brOK W) {p y : Nat} (hy : y < 3) : ∀ k : Nat, k ≤ 3 → -99 ≤ mxN W p y k ∧ mxN W p y k ≤ 99
  | 0, _ => by
    show -99 ≤ (-99 : Int) ∧ (-99 : Int) ≤ 99
    omega
  | k + 1, hk => by
    have a := mxB (p := p) h hy k (by omega)
    have b := ownW_le (p := p) h (x := k) (y := y) (by omega) hy
    unfold mxN
    omega
theorem mx_ge {W : Nat → Int32} {p y : Nat} : ∀ {k : Nat} (j : Nat), j < k → ownW W p j y ≤ mxN W p y k
  | 0, j, h => absurd h (Nat.not_lt_zero _)
  | k + 1, j, h => by
    unfold mxN
    rcases Nat.lt_or_ge j k with q | q
    · have := mx_ge (W := W) (p := p) (y := y) j q
      omega
    · rw [show j = k by omega]
      omega
theorem N_mostByV {p y A : Nat} {M : Mem} (h : RIW (M.1 95)) (hA : M.1 95 0 = iI (A : Int)) (a3 : A ≤ 3) (hp : p < 2) (hy : y < 3) : F_MO_mostBy (iI (p : Int)) (iI (y : Int)) M = some (iI (mxN (M.1 95) p y A)) := by
  apply wp_of
  unfold F_MO_mostBy F_MO_mostBy_l6
  refine wp_bind (Ψ := fun r => r = iI (mxN (M.1 95) p y A)) ?_ (fun r hr => wp_some hr)
  refine wp_iterS (P := fun k z => k ≤ A ∧ z.1 = iI (mxN (M.1 95) p y k) ∧ z.2 = iI (k : Int)) A ?_ _ _ ⟨Nat.zero_le _, rfl, rfl⟩ (FUEL_big (by omega))
  rintro k ⟨z1, z2⟩ hk ⟨kA, h1, h2⟩
  dsimp only at h1 h2
  subst h1
  subst h2
  unfold F_MO_mostBy_b6
  dsimp only
  rw [S_actMany, bs, hA]
  refine wp_if (fun c => wp_some ?_) (fun c => ?_)
  · rw [iI_le (by omega) (by omega) (by omega) (by omega)] at c
    rw [show k = A by omega]
  rw [iI_le (by omega) (by omega) (by omega) (by omega)] at c
  have b1 := mxB (p := p) h.br hy k (by omega)
  have b2 := ownW_le (p := p) h.br (x := k) (y := y) (by omega) hy
  rw [N_own hp (by omega) hy, bs, V_max (by omega) (by omega) (by omega) (by omega), bs]
  exact wp_some ⟨by omega, by omega, rfl, iI_succ k⟩
theorem C_mostV {p y A : Nat} {M : Mem} (hr : relB M) (h : RIW (M.1 95)) (hA : M.1 95 0 = iI (A : Int)) (a2 : 2 ≤ A) (a3 : A ≤ 3) (hp : p < 2) (hy : y < 3) : F_Day_mostAgainst (iI (p : Int)) (iI (y : Int)) M = some (iI (mxN (M.1 95) p y A)) := by
  apply wp_of
  have f0 : M.1 1 0 = iI (A : Int) := hr.1.trans hA
  unfold F_Day_mostAgainst
  have b0 : F_Well_bringsOwn (iI (p : Int)) 0 (iI (y : Int)) M = some (iI (ownW (M.1 95) p 0 y)) := C_bringsOwn (x := 0) hr hp (by omega) hy
  rw [b0, bs]
  unfold F_Day_mostAgainst_l14
  refine wp_bind (Ψ := fun r => r = iI (mxN (M.1 95) p y A)) ?_ (fun r hr => wp_some hr)
  have b3 := ownW_le (p := p) h.br (x := 0) (y := y) (by omega) hy
  refine wp_iterS (P := fun k z => k + 1 ≤ A ∧ z.1 = iI (mxN (M.1 95) p y (k + 1)) ∧ z.2 = iI ((k + 1 : Nat) : Int)) A ?_ _ _ ⟨by omega, ?_, rfl⟩ (FUEL_big (by omega))
  · rintro k ⟨z1, z2⟩ hk ⟨kA, h1, h2⟩
    dsimp only at h1 h2
    subst h1
    subst h2
    unfold F_Day_mostAgainst_b14
    dsimp only
    rw [f0]
    refine wp_if (fun c => wp_some ?_) (fun c => ?_)
    · rw [iI_le (by omega) (by omega) (by omega) (by omega)] at c
      rw [show k + 1 = A by omega]
    rw [iI_le (by omega) (by omega) (by omega) (by omega)] at c
    have b1 := mxB (p := p) h.br hy (k + 1) (by omega)
    have b2 := ownW_le (p := p) h.br (x := k + 1) (y := y) (by omega) hy
    rw [C_bringsOwn hr hp (by omega) hy, bs, V_max (by omega) (by omega) (by omega) (by omega), bs]
    exact wp_some ⟨by omega, by omega, rfl, iI_succ (k + 1)⟩
  · show iI (ownW (M.1 95) p 0 y) = iI (max (-99) (ownW (M.1 95) p 0 y))
    congr 1
    omega
/-- the act that threatens: among the first k + 1 -/
def thN (W : Nat → Int32) (A p : Nat) : Nat → Nat
  | 0 => 0
  | k + 1 => if mxN W p (k + 1) A < mxN W p (thN W A p k) A then k + 1 else thN W A p k
theorem thB (W : Nat → Int32) (A p : Nat) : ∀ k : Nat, thN W A p k ≤ k
  | 0 => Nat.le_refl _
  | k + 1 => by
    have a := thB W A p k
    unfold thN
    by_cases q : mxN W p (k + 1) A < mxN W p (thN W A p k) A
    · rw [if_pos q]
      omega
    · rw [if_neg q]
      omega
theorem thN_s (W : Nat → Int32) (A p k : Nat) : thN W A p (k + 1) = if mxN W p (k + 1) A < mxN W p (thN W A p k) A then k + 1 else thN W A p k := rfl
theorem N_threatOfV {p A : Nat} {M : Mem} (h : RIW (M.1 95)) (hA : M.1 95 0 = iI (A : Int)) (a2 : 2 ≤ A) (a3 : A ≤ 3) (hp : p < 2) : F_MO_threatOf (iI (p : Int)) M = some (iI (thN (M.1 95) A p (A - 1) : Int)) := by
  apply wp_of
  unfold F_MO_threatOf F_MO_threatOf_l4
  refine wp_bind (Ψ := fun r => r = iI (thN (M.1 95) A p (A - 1) : Int)) ?_ (fun r hr => wp_some hr)
  refine wp_iterS (P := fun k z => k + 1 ≤ A ∧ z.1 = iI (thN (M.1 95) A p k : Int) ∧ z.2 = iI ((k + 1 : Nat) : Int)) A ?_ _ _ ⟨by omega, rfl, rfl⟩ (FUEL_big (by omega))
  rintro k ⟨z1, z2⟩ hk ⟨kA, h1, h2⟩
  dsimp only at h1 h2
  subst h1
  subst h2
  unfold F_MO_threatOf_b4
  dsimp only
  rw [S_actMany, bs, hA]
  refine wp_if (fun c => wp_some ?_) (fun c => ?_)
  · rw [iI_le (by omega) (by omega) (by omega) (by omega)] at c
    rw [show A - 1 = k by omega]
  rw [iI_le (by omega) (by omega) (by omega) (by omega)] at c
  have t := thB (M.1 95) A p k
  have b1 := mxB (p := p) h.br (y := k + 1) (by omega) A a3
  have b2 := mxB (p := p) h.br (y := thN (M.1 95) A p k) (by omega) A a3
  rw [N_mostByV h hA a3 hp (by omega), bs, N_mostByV h hA a3 hp (by omega), bs]
  refine wp_if (fun d => wp_some ⟨by omega, by omega, ?_, iI_succ (k + 1)⟩) (fun d => wp_some ⟨by omega, by omega, ?_, iI_succ (k + 1)⟩)
  · rw [iI_le (by omega) (by omega) (by omega) (by omega)] at d
    rw [thN_s, if_neg (by omega)]
  · rw [iI_le (by omega) (by omega) (by omega) (by omega)] at d
    rw [thN_s, if_pos (by omega)]
theorem C_threatV {p A : Nat} {M : Mem} (hr : relB M) (h : RIW (M.1 95)) (hA : M.1 95 0 = iI (A : Int)) (a2 : 2 ≤ A) (a3 : A ≤ 3) (hp : p < 2) : F_Day_threatTo (iI (p : Int)) M = some (iI (thN (M.1 95) A p (A - 1) : Int)) := by
  apply wp_of
  have f0 : M.1 1 0 = iI (A : Int) := hr.1.trans hA
  unfold F_Day_threatTo F_Day_threatTo_l4
  refine wp_bind (Ψ := fun r => r = iI (thN (M.1 95) A p (A - 1) : Int)) ?_ (fun r hr => wp_some hr)
  refine wp_iterS (P := fun k z => k + 1 ≤ A ∧ z.1 = iI (thN (M.1 95) A p k : Int) ∧ z.2 = iI ((k + 1 : Nat) : Int)) A ?_ _ _ ⟨by omega, rfl, rfl⟩ (FUEL_big (by omega))
  rintro k ⟨z1, z2⟩ hk ⟨kA, h1, h2⟩
  dsimp only at h1 h2
  subst h1
  subst h2
  unfold F_Day_threatTo_b4
  dsimp only
  rw [f0]
  refine wp_if (fun c => wp_some ?_) (fun c => ?_)
  · rw [iI_le (by omega) (by omega) (by omega) (by omega)] at c
    rw [show A - 1 = k by omega]
  rw [iI_le (by omega) (by omega) (by omega) (by omega)] at c
  have t := thB (M.1 95) A p k
  have b1 := mxB (p := p) h.br (y := k + 1) (by omega) A a3
  have b2 := mxB (p := p) h.br (y := thN (M.1 95) A p k) (by omega) A a3
  rw [C_mostV hr h hA a2 a3 hp (by omega), bs, C_mostV hr h hA a2 a3 hp (by omega), bs]
  refine wp_if (fun d => wp_some ⟨by omega, by omega, ?_, iI_succ (k + 1)⟩) (fun d => wp_some ⟨by omega, by omega, ?_, iI_succ (k + 1)⟩)
  · rw [iI_le (by omega) (by omega) (by omega) (by omega)] at d
    rw [thN_s, if_neg (by omega)]
  · rw [iI_le (by omega) (by omega) (by omega) (by omega)] at d
    rw [thN_s, if_pos (by omega)]
def lstW (W : Nat → Int32) (A p : Nat) : Int := mxN W p (thN W A p (A - 1)) A
theorem N_leastOfV {p A : Nat} {M : Mem} (h : RIW (M.1 95)) (hA : M.1 95 0 = iI (A : Int)) (a2 : 2 ≤ A) (a3 : A ≤ 3) (hp : p < 2) : F_MO_leastOf (iI (p : Int)) M = some (iI (lstW (M.1 95) A p)) := by
  have t := thB (M.1 95) A p (A - 1)
  unfold F_MO_leastOf
  rw [N_threatOfV h hA a2 a3 hp, bs, N_mostByV h hA a3 hp (by omega), bs]
  rfl
theorem C_leastOfV {p A : Nat} {M : Mem} (hr : relB M) (h : RIW (M.1 95)) (hA : M.1 95 0 = iI (A : Int)) (a2 : 2 ≤ A) (a3 : A ≤ 3) (hp : p < 2) : F_Day_leastOf (iI (p : Int)) M = some (iI (lstW (M.1 95) A p)) := by
  have t := thB (M.1 95) A p (A - 1)
  unfold F_Day_leastOf
  rw [C_threatV hr h hA a2 a3 hp, bs, C_mostV hr h hA a2 a3 hp (by omega), bs]
  rfl
def leV (W : Nat → Int32) (A p : Nat) (y : Int32) : Int32 := if y = 0 then iI (lstW W A p) else iI (thN W A p (A - 1) : Int)
theorem N_leastV {x y : Int32} {A : Nat} {M : Mem} (h : RIW (M.1 95)) (hA : M.1 95 0 = iI (A : Int)) (a2 : 2 ≤ A) (a3 : A ≤ 3) : wpO (F_MO_least x y M) (fun r => ((0 ≤ x ∧ x ≤ 1) ∧ r.2.1 94 0 = 0 ∧ r.1 = leV (M.1 95) A x.toInt.toNat y) ∨ (¬ (0 ≤ x ∧ x ≤ 1) ∧ r.2.1 94 0 = 1)) := by
  have h0 : RIW ((mSI M 94 0 0).1 95) := h
  have hA0 : (mSI M 94 0 0).1 95 0 = iI (A : Int) := hA
  have t0 : (mSI M 94 0 0).1 94 0 = 0 := mI_hit
  show wpO (F_MO_least x y M) (fun r => ((0 ≤ x ∧ x ≤ 1) ∧ r.2.1 94 0 = 0 ∧ r.1 = leV ((mSI M 94 0 0).1 95) A x.toInt.toNat y) ∨ (¬ (0 ≤ x ∧ x ≤ 1) ∧ r.2.1 94 0 = 1))
  unfold F_MO_least
  generalize mSI M 94 0 0 = N at *
  rw [S_noPerson, bs]
  by_cases q : 0 ≤ x ∧ x ≤ 1
  · rw [decide_eq_true q]
    refine wp_thr (fun q => nomatch q) (fun _ => thr_f ?_)
    dsimp only
    have q2 := q
    rw [le_i, le_i, li0, li1] at q2
    obtain ⟨p, rfl, hp⟩ := iI_of_le (n := 1) q.1 q2.2
    rw [N_leastOfV h0 hA0 a2 a3 (by omega), bs, N_threatOfV h0 hA0 a2 a3 (by omega), bs]
    have ek : (iI (p : Int)).toInt.toNat = p := by rw [iI_toInt (by omega) (by omega)]; omega
    rw [ek]
    unfold leV
    refine wp_if (fun c => wp_some (Or.inl ⟨q, t0, ?_⟩)) (fun c => wp_some (Or.inl ⟨q, t0, ?_⟩))
    · rw [if_pos c]
    · rw [if_neg c]
  · rw [decide_eq_false q]
    exact wp_thr (fun _ => thr_t (wp_some (Or.inr ⟨q, mI_hit⟩))) (fun q => nomatch q)
theorem C_leastV {x y : Int32} {A : Nat} {M : Mem} (hr : relB M) (h : RIW (M.1 95)) (hA : M.1 95 0 = iI (A : Int)) (a2 : 2 ≤ A) (a3 : A ≤ 3) : wpO (F_LAW_least x y M) (fun r => ((0 ≤ x ∧ x ≤ 1) ∧ r.1 = 0 ∧ r.2.2 121 0 = (leV (M.1 95) A x.toInt.toNat y).toInt64) ∨ (¬ (0 ≤ x ∧ x ≤ 1) ∧ r.1 = 1)) := by
  unfold F_LAW_least F_KW_least
  by_cases q : 0 ≤ x ∧ x ≤ 1
  · rw [S_person_ok q, xb_inr]
    have q2 := q
    rw [le_i, le_i, li0, li1] at q2
    obtain ⟨p, rfl, hp⟩ := iI_of_le (n := 1) q.1 q2.2
    rw [C_leastOfV hr h hA a2 a3 (by omega), bs, C_threatV hr h hA a2 a3 (by omega), bs]
    have ek : (iI (p : Int)).toInt.toNat = p := by rw [iI_toInt (by omega) (by omega)]; omega
    rw [ek]
    unfold leV
    by_cases c : y = 0
    · rw [if_pos c, if_pos c, hb_inr]
      refine wp_t ib01 (wp_some (Or.inl ⟨q, rfl, ?_⟩))
      rw [tn0]
      dsimp only
      rw [mL_hit]
    · rw [if_neg c, if_neg c, hb_inr]
      refine wp_t ib01 (wp_some (Or.inl ⟨q, rfl, ?_⟩))
      rw [tn0]
      dsimp only
      rw [mL_hit]
  · rw [S_person_no q, xb_inl, hb_inl]
    exact wp_t rfl (wp_some (Or.inr ⟨q, rfl⟩))
theorem V_least {x y : Int32} {M : Mem} (h : RS M) : wpO (F_LAW_least x y M) (fun r1 => wpO (F_MO_least x y r1.2) (fun r2 => RS r2.2 ∧ r2.2.1 94 0 = r1.1 ∧ (r1.1 = 0 → r2.2.2 121 0 = r2.1.toInt64))) := by
  obtain ⟨r1, e1, r2, e2, rs⟩ := G_least (x1 := x) (x2 := y) h
  refine ⟨r1, e1, r2, e2, rs, ?_⟩
  obtain ⟨A, hA, a2, a3⟩ := h.1.1.actN
  have t := wpO_of (T_LAW_least x y M) e1
  have q := Q_MO_least x y r1.2 r2 e2
  have w : r1.2.1 95 = M.1 95 := funext (t 95 (by omega)).1
  have c := wpO_of (C_leastV (x := x) (y := y) h.2.1.1.relB h.1.1 hA a2 a3) e1
  have n := wpO_of (N_leastV (x := x) (y := y) (M := r1.2) (by rw [w]; exact h.1.1) (by rw [w]; exact hA) a2 a3) e2
  have o := (q 121 0 (by omega)).2
  rw [w] at n
  rcases c with ⟨a1, a2, a3⟩ | ⟨a1, a2⟩
  · rcases n with ⟨b1, b2, b3⟩ | ⟨b1, b2⟩
    · exact ⟨b2.trans a2.symm, fun _ => by rw [o, a3, b3]⟩
    · exact absurd a1 b1
  · rcases n with ⟨b1, b2, b3⟩ | ⟨b1, b2⟩
    · exact absurd b1 a1
    · exact ⟨b2.trans a2.symm, fun z => by rw [a2] at z; exact absurd z (by decide)⟩
