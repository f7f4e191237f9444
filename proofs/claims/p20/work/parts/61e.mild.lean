/-! ===== values: mild, the class's side ===== -/
theorem C_mostO {pe own y A : Nat} {M : Mem} (hr : relB M) (h : RIW (M.1 95)) (hA : M.1 95 0 = iI (A : Int)) (a2 : 2 ≤ A) (a3 : A ≤ 3) (hp : pe < 2) (ho : own < 3) (hy : y < 3) : ∃ m : Int, F_Day_mostOtherwise (iI (pe : Int)) (iI (own : Int)) (iI (y : Int)) M = some (iI m) ∧ (-99 ≤ m ∧ m ≤ 99) ∧ (∃ k, k < A ∧ k ≠ own ∧ m = ownW (M.1 95) pe k y) ∧ ∀ k, k < A → k ≠ own → ownW (M.1 95) pe k y ≤ m := by
  have bo : ∀ k, k < 3 → -99 ≤ ownW (M.1 95) pe k y ∧ ownW (M.1 95) pe k y ≤ 99 := fun k hk => ownW_le h.br hk hy
  have core : ∀ j0 : Nat, j0 < A → j0 ≠ own → wpO (F_Day_mostOtherwise_l23 (iI (pe : Int)) (iI (own : Int)) (iI (y : Int)) (iI (ownW (M.1 95) pe j0 y)) 0 M) (fun r => ∃ m : Int, r = iI m ∧ (-99 ≤ m ∧ m ≤ 99) ∧ (∃ k, k < A ∧ k ≠ own ∧ m = ownW (M.1 95) pe k y) ∧ ∀ k, k < A → k ≠ own → ownW (M.1 95) pe k y ≤ m) := by
    intro j0 h0 h1
    unfold F_Day_mostOtherwise_l23
    refine wp_bind (Ψ := fun r => ∃ m : Int, r = iI m ∧ (-99 ≤ m ∧ m ≤ 99) ∧ (∃ k, k < A ∧ k ≠ own ∧ m = ownW (M.1 95) pe k y) ∧ ∀ k, k < A → k ≠ own → ownW (M.1 95) pe k y ≤ m) ?_ (fun r hr => wp_some hr)
    refine wp_iterS (P := fun (k : Nat) (z : Int32 × Int32) => z.2 = iI (k : Int) ∧ k ≤ A ∧ ∃ m : Int, z.1 = iI m ∧ (-99 ≤ m ∧ m ≤ 99) ∧ (∃ k, k < A ∧ k ≠ own ∧ m = ownW (M.1 95) pe k y) ∧ ∀ j, j < k → j ≠ own → ownW (M.1 95) pe j y ≤ m) A ?_ FUEL (iI (ownW (M.1 95) pe j0 y), 0) ⟨rfl, Nat.zero_le _, _, rfl, bo j0 (by omega), ⟨j0, h0, h1, rfl⟩, fun j hj => absurd hj (Nat.not_lt_zero _)⟩ (FUEL_big (by omega))
    rintro k ⟨z1, z2⟩ hk ⟨e2, kA, m, e1, hb, hex, hle⟩
    dsimp only at e1 e2
    subst e1
    subst e2
    unfold F_Day_mostOtherwise_b23
    dsimp only
    rw [hr.1, hA]
    refine wp_if (fun c => wp_some ⟨m, rfl, hb, hex, fun j h1 h2 => hle j ?_ h2⟩) (fun c => ?_)
    · rw [iI_le (by omega) (by omega) (by omega) (by omega)] at c
      omega
    rw [iI_le (by omega) (by omega) (by omega) (by omega)] at c
    refine wp_if (fun d => wp_some ⟨by omega, iI_succ k, by omega, m, rfl, hb, hex, fun j hj hj2 => hle j ?_ hj2⟩) (fun d => ?_)
    · rw [iI_eq (by omega) (by omega) (by omega) (by omega)] at d
      omega
    rw [iI_eq (by omega) (by omega) (by omega) (by omega)] at d
    have bk := bo k (by omega)
    rw [C_bringsOwn hr hp (by omega) hy, bs, V_max (by omega) (by omega) (by omega) (by omega), bs]
    refine wp_some ⟨by omega, iI_succ k, by omega, max m (ownW (M.1 95) pe k y), rfl, by omega, ?_, fun j hj hj2 => ?_⟩
    · by_cases c3 : m ≤ ownW (M.1 95) pe k y
      · exact ⟨k, by omega, by omega, by omega⟩
      · rw [show max m (ownW (M.1 95) pe k y) = m by omega]
        exact hex
    · by_cases q : j = k
      · rw [q]
        omega
      · have := hle j (by omega) hj2
        omega
  unfold F_Day_mostOtherwise
  by_cases c : own = 0
  · obtain ⟨r, er, m, rfl, hm⟩ := core 1 (by omega) (by omega)
    refine ⟨m, ?_, hm⟩
    have c0 : iI (own : Int) = 0 := by
      rw [c]
      rfl
    rw [if_pos c0]
    unfold F_Day_mostOtherwise_j14
    show (F_Well_bringsOwn (iI (pe : Int)) (iI ((1 : Nat) : Int)) (iI (y : Int)) M).bind _ = _
    rw [C_bringsOwn hr hp (by decide) hy, bs]
    exact er
  · obtain ⟨r, er, m, rfl, hm⟩ := core 0 (by omega) (by omega)
    refine ⟨m, ?_, hm⟩
    have c0 : ¬ iI (own : Int) = 0 := by
      rw [show (0 : Int32) = iI 0 from rfl, iI_eq (by omega) (by omega) (by omega) (by omega)]
      omega
    rw [if_neg c0]
    unfold F_Day_mostOtherwise_j14
    show (F_Well_bringsOwn (iI (pe : Int)) (iI ((0 : Nat) : Int)) (iI (y : Int)) M).bind _ = _
    rw [C_bringsOwn hr hp (by decide) hy, bs]
    exact er
theorem C_later {p q X : Int} {l : Nat} {M : Mem} (hP : M.1 1 1 = iI p) (hQ : M.1 1 2 = iI q) (p0 : 0 ≤ p) (pq : p ≤ q) (q2 : 2 ≤ q) (q9 : q ≤ 9) (hl : l < 10) (h : M.2 78 l = lI (q * X)) (b1 : -9223372036854775808 < q * X) (b2 : q * X < 9223372036854775808) : F_Day_laterWorth (iI (l : Int)) M = some (lI (X * p)) := by
  have z0 : ¬ iI q = 0 := by
    rw [show (0 : Int32) = iI 0 from rfl, iI_eq (by omega) (by omega) (by omega) (by omega)]
    omega
  have z1 : ¬ lI q = 0 := by
    rw [show (0 : Int64) = lI 0 from rfl, lI_eq (by omega) (by omega) (by omega) (by omega)]
    omega
  unfold F_Day_laterWorth
  rw [hQ, if_neg z0, V_Row_at (by omega) (by omega) (by decide), bs, show ((l : Nat) : Int).toNat = l from rfl, h, hP, iI_l (a := q) (by omega) (by omega), iI_l (a := p) (by omega) (by omega), if_pos z1, ldiv_lI b1 b2 (by omega) (by omega), Int.mul_tdiv_cancel_left _ (show q ≠ 0 by omega), lI_mul]
theorem gain_iff {W : Nat → Int32} {A pe own y l D : Nat} {p q keep thr m : Int} (p0 : 1 ≤ p) (pq : p < q) (hl : l ≤ D) (hD : D ≤ 9) (hex : ∃ k, k < A ∧ k ≠ own ∧ m = ownW W pe k y) (hle : ∀ k, k < A → k ≠ own → ownW W pe k y ≤ m) : q ^ (10 - D) * eM p q keep thr D * p + (q - p) * q ^ 10 * m ≤ q ^ (11 - l) * eM p q keep thr l ↔ ¬ ∃ k, gainW W A pe own y p q keep thr l D k := by
  have e1 : q ^ (11 - l) = q ^ (9 - D) * q ^ (D + 2 - l) := by rw [← Int.pow_add, show 9 - D + (D + 2 - l) = 11 - l by omega]
  have e2 : q ^ 10 = q ^ (9 - D) * q ^ (D + 1) := by rw [← Int.pow_add, show 9 - D + (D + 1) = 10 by omega]
  have e3 : q ^ (10 - D) = q ^ (9 - D) * q := by rw [show 10 - D = 9 - D + 1 by omega, Int.pow_succ]
  have c0 : 0 < q ^ (9 - D) := Int.pow_pos (by omega)
  have u0 : 0 < (q - p) * q ^ (D + 1) := Int.mul_pos (by omega) (Int.pow_pos (by omega))
  unfold gainW
  rw [e1, e2, e3]
  generalize q ^ (D + 2 - l) = B at *
  generalize eM p q keep thr l = El at *
  generalize eM p q keep thr D = ED at *
  generalize q ^ (9 - D) = C at *
  generalize q ^ (D + 1) = Q1 at *
  have f1 : C * q * ED * p + (q - p) * (C * Q1) * m = C * (q * ED * p + (q - p) * Q1 * m) := by grind
  rw [f1, Int.mul_assoc C B El]
  generalize hX : B * El = X at *
  generalize hY : q * ED * p = Y at *
  generalize hU : (q - p) * Q1 = U at *
  have g : C * (Y + U * m) ≤ C * X ↔ Y + U * m ≤ X := ⟨fun w => Int.le_of_mul_le_mul_left w c0, fun w => Int.mul_le_mul_of_nonneg_left w (Int.le_of_lt c0)⟩
  rw [g]
  refine ⟨fun w => ?_, fun w => ?_⟩
  · rintro ⟨k, h1, h2, h3⟩
    have h4 := Int.mul_le_mul_of_nonneg_right (hle k h1 h2) (Int.le_of_lt u0)
    rw [Int.mul_comm U m] at w
    omega
  · obtain ⟨k, h1, h2, h3⟩ := hex
    rcases Int.lt_or_le X (Y + U * m) with c | c
    · refine absurd ⟨k, h1, h2, ?_⟩ w
      rw [← h3, Int.mul_comm m U]
      omega
    · exact c
theorem C_enough {pe ow ot tw tt D A : Nat} {p q : Int} {M : Mem} (hr : relB M) (h : RIW (M.1 95)) (hA : M.1 95 0 = iI (A : Int)) (a2 : 2 ≤ A) (a3 : A ≤ 3) (hpe : pe < 2) (h1 : ow < 3) (h2 : ot < 3) (h3 : tw < 3) (h4 : tt < 3) (hP : M.1 1 1 = iI p) (hQ : M.1 1 2 = iI q) (p0 : 1 ≤ p) (pq : p < q) (q9 : q ≤ 9) (hD : D ≤ 9) : wpO (F_Day_isThreatEnough (iI (pe : Int)) (iI (ow : Int)) (iI (ot : Int)) (iI (tw : Int)) (iI (tt : Int)) (iI (D : Int)) M) (fun r => Same (fun k => k = 78) M r.2 ∧ (r.1 = true ↔ ¬ ((∃ k, gainW (M.1 95) A pe ow ot p q (ownW (M.1 95) pe ow ot) (ownW (M.1 95) pe tw tt) 0 D k) ∨ ∃ l, 1 ≤ l ∧ l ≤ D ∧ ∃ k, gainW (M.1 95) A pe tw tt p q (ownW (M.1 95) pe ow ot) (ownW (M.1 95) pe tw tt) l D k))) := by
  have bk := ownW_le (p := pe) h.br h1 h2
  have bt := ownW_le (p := pe) h.br h3 h4
  have ek : ∀ N : Mem, Same (fun k => k = 78) M N → F_Well_bringsOwn (iI (pe : Int)) (iI (ow : Int)) (iI (ot : Int)) N = some (iI (ownW (M.1 95) pe ow ot)) := fun N f => by
    have e95 : N.1 95 = M.1 95 := funext (f 95 (by decide)).1
    rw [C_bringsOwn ⟨by rw [(f 1 (by decide)).1 0, e95]; exact hr.1, fun j hj => by rw [(f 3 (by decide)).2 j, e95]; exact hr.2 j hj⟩ hpe h1 h2, e95]
  have et : ∀ N : Mem, Same (fun k => k = 78) M N → F_Well_bringsOwn (iI (pe : Int)) (iI (tw : Int)) (iI (tt : Int)) N = some (iI (ownW (M.1 95) pe tw tt)) := fun N f => by
    have e95 : N.1 95 = M.1 95 := funext (f 95 (by decide)).1
    rw [C_bringsOwn ⟨by rw [(f 1 (by decide)).1 0, e95]; exact hr.1, fun j hj => by rw [(f 3 (by decide)).2 j, e95]; exact hr.2 j hj⟩ hpe h3 h4, e95]
  have em : ∀ N : Mem, Same (fun k => k = 78) M N → ∀ own y : Nat, own < 3 → y < 3 → ∃ m : Int, F_Day_mostOtherwise (iI (pe : Int)) (iI (own : Int)) (iI (y : Int)) N = some (iI m) ∧ (-99 ≤ m ∧ m ≤ 99) ∧ (∃ k, k < A ∧ k ≠ own ∧ m = ownW (M.1 95) pe k y) ∧ ∀ k, k < A → k ≠ own → ownW (M.1 95) pe k y ≤ m := fun N f own y ho hy => by
    have e95 : N.1 95 = M.1 95 := funext (f 95 (by decide)).1
    have r := C_mostO (pe := pe) (own := own) (y := y) (A := A) (M := N) ⟨by rw [(f 1 (by decide)).1 0, e95]; exact hr.1, fun j hj => by rw [(f 3 (by decide)).2 j, e95]; exact hr.2 j hj⟩ (by rw [e95]; exact h) (by rw [e95]; exact hA) a2 a3 hpe ho hy
    rw [e95] at r
    exact r
  have hPN : ∀ N : Mem, Same (fun k => k = 78) M N → N.1 1 1 = iI p ∧ N.1 1 2 = iI q := fun N f => ⟨((f 1 (by decide)).1 1).trans hP, ((f 1 (by decide)).1 2).trans hQ⟩
  generalize ownW (M.1 95) pe ow ot = keep at *
  generalize ownW (M.1 95) pe tw tt = thr at *
  have i0 : (0 : Int32) = iI ((0 : Nat) : Int) := rfl
  have lq : (iI q).toInt64 = lI q := iI_l (by omega) (by omega)
  have lqp : (iI (q - p)).toInt64 = lI (q - p) := iI_l (by omega) (by omega)
  have pw10 := powB (q := q) (n := 10) (by omega) q9 (by decide)
  have pw11 := powB (q := q) (n := 11) (by omega) q9 (by decide)
  have pp10 : 0 < q ^ 10 := Int.pow_pos (by omega)
  have eb : ∀ l, l ≤ 11 → -(99 * q ^ 11) ≤ q ^ (11 - l) * eM p q keep thr l ∧ q ^ (11 - l) * eM p q keep thr l ≤ 99 * q ^ 11 := fun l hl => eM_w (by omega) (by omega) bk.1 bk.2 bt.1 bt.2 hl
  have eb2 : ∀ l, l ≤ 10 → -(99 * q ^ 10) ≤ q ^ (10 - l) * eM p q keep thr l ∧ q ^ (10 - l) * eM p q keep thr l ≤ 99 * q ^ 10 := fun l hl => eM_w (by omega) (by omega) bk.1 bk.2 bt.1 bt.2 hl
  have eq11 : ∀ l, l ≤ 10 → q ^ (11 - l) * eM p q keep thr l = q * (q ^ (10 - l) * eM p q keep thr l) := fun l hl => by
    rw [show 11 - l = 10 - l + 1 by omega, Int.pow_succ]
    grind
  unfold F_Day_isThreatEnough F_Day_isThreatEnough_l21
  rw [hQ, hP, iI_sub, lqp]
  refine wp_bind (Ψ := fun r => r = lI ((q - p) * q ^ 10)) ?_ (fun r hr => ?_)
  · refine wp_iterS (P := fun (k : Nat) (z : Int64 × Int32) => z.1 = lI ((q - p) * q ^ k) ∧ z.2 = iI (k : Int) ∧ k ≤ 10) 10 ?_ FUEL (lI (q - p), 0) ⟨by rw [Int.pow_zero, Int.mul_one], rfl, by decide⟩ (FUEL_big (by decide))
    rintro k ⟨z1, z2⟩ hk ⟨e1, e2, k10⟩
    dsimp only at e1 e2
    subst e1
    subst e2
    unfold F_Day_isThreatEnough_b21
    dsimp only
    refine wp_if (fun c => wp_some ?_) (fun c => ?_)
    · rw [show (9 : Int32) = iI 9 from rfl, iI_lt (by omega) (by omega) (by omega) (by omega)] at c
      rw [show k = 10 by omega]
    · rw [show (9 : Int32) = iI 9 from rfl, iI_lt (by omega) (by omega) (by omega) (by omega)] at c
      rw [hQ, lq, lI_mul]
      refine wp_some ⟨by omega, ?_, iI_succ k, by omega⟩
      rw [Int.mul_assoc, ← Int.pow_succ]
  subst hr
  have sb := mulb (a := q - p) (b := q ^ 10) (m := 9) (n := 31381059609) (by omega) (by omega) (by omega) (by omega)
  unfold F_Day_isThreatEnough_j47
  rw [hQ, hP, iI_sub, lqp, lq]
  refine wp_t (by rw [show (0 : Int32) = iI 0 from rfl, iI_lt (by omega) (by omega) (by omega) (by omega)]; omega) ?_
  refine wp_t (by rw [show (0 : Int64) = lI 0 from rfl, lI_eq (by omega) (by omega) (by omega) (by omega)]; omega) ?_
  rw [ldiv_lI (by omega) (by omega) (by omega) (by omega), Int.mul_tdiv_cancel_left _ (show q - p ≠ 0 by omega), lI_mul, ← Int.pow_succ]
  unfold F_Day_isThreatEnough_j97
  rw [ek M Same.rfl', bs, iI_l (by omega) (by omega), lI_mul, i0, V_Row_put (by omega) (by omega) (by decide), bs, show ((0 : Nat) : Int).toNat = 0 from rfl]
  have f0 : Same (fun k => k = 78) M (mSL M 78 0 (lI (q ^ (10 + 1) * keep))) := Same.sL (S := fun k => k = 78) Same.rfl' rfl
  have v0 : (mSL M 78 0 (lI (q ^ (10 + 1) * keep))).2 78 0 = lI (q ^ (11 - 0) * eM p q keep thr 0) := by
    rw [mL_hit]
    congr 1
    unfold eM
    show q ^ 11 * keep = q ^ 11 * ((q - p) * thr * 0 + keep * p ^ 0)
    rw [Int.mul_zero, Int.zero_add, Int.pow_zero, Int.mul_one]
  generalize mSL M 78 0 (lI (q ^ (10 + 1) * keep)) = N0 at *
  unfold F_Day_isThreatEnough_l124
  refine wp_bind (Ψ := fun N => Same (fun k => k = 78) M N ∧ ∀ l, l ≤ D → N.2 78 l = lI (q ^ (11 - l) * eM p q keep thr l)) ?_ (fun N hN => ?_)
  · refine wp_iterS (P := fun (k : Nat) (z : Int32 × Mem) => z.1 = iI ((k + 1 : Nat) : Int) ∧ k ≤ D ∧ Same (fun k => k = 78) M z.2 ∧ ∀ l, l ≤ k → z.2.2 78 l = lI (q ^ (11 - l) * eM p q keep thr l)) D ?_ FUEL (1, N0) ⟨rfl, Nat.zero_le _, f0, fun l hl => by rw [show l = 0 by omega]; exact v0⟩ (FUEL_big (by omega))
    rintro k ⟨z1, N⟩ hk ⟨e1, kD, fN, nv⟩
    dsimp only at e1 fN nv
    subst e1
    unfold F_Day_isThreatEnough_b124
    dsimp only
    refine wp_if (fun c => wp_some ⟨fN, fun l hl => nv l ?_⟩) (fun c => ?_)
    · rw [iI_lt (by omega) (by omega) (by omega) (by omega)] at c
      omega
    rw [iI_lt (by omega) (by omega) (by omega) (by omega)] at c
    have kb := eb k (by omega)
    have kb2 := eb2 k (by omega)
    have e11 := eq11 k (by omega)
    have km : iI ((k + 1 : Nat) : Int) - 1 = iI (k : Int) := by
      rw [show (1 : Int32) = iI 1 from rfl, iI_sub]
      congr 1
      omega
    have nk := nv k (Nat.le_refl k)
    rw [e11] at nk kb
    rw [et N fN, bs, km, C_later (hPN N fN).1 (hPN N fN).2 (by omega) (by omega) (by omega) q9 (by omega) nk (by omega) (by omega), bs, iI_l (by omega) (by omega), lI_mul, lI_add, V_Row_put (by omega) (by omega) (by decide), bs, show ((k + 1 : Nat) : Int).toNat = k + 1 from rfl]
    have ev : (q - p) * q ^ 10 * thr + q ^ (10 - k) * eM p q keep thr k * p = q ^ (11 - (k + 1)) * eM p q keep thr (k + 1) := by
      have e10 : q ^ 10 = q ^ (10 - k) * q ^ k := by rw [← Int.pow_add, show 10 - k + k = 10 by omega]
      rw [eM_s, show 11 - (k + 1) = 10 - k by omega, e10]
      grind
    rw [ev]
    refine wp_some ⟨by omega, iI_succ (k + 1), by omega, fN.sL rfl, fun l hl => ?_⟩
    show (mSL N 78 (k + 1) _).2 78 l = _
    by_cases ql : l = k + 1
    · rw [ql, mL_hit]
    · rw [mL_ix ql]
      exact nv l (by omega)
  · obtain ⟨fN, nv⟩ := hN
    have kb := eb D (by omega)
    have kb2 := eb2 D (by omega)
    have nk := nv D (Nat.le_refl D)
    rw [eq11 D (by omega)] at nk kb
    obtain ⟨m0, o1, o2, o3, o4⟩ := em N fN ow ot h1 h2
    obtain ⟨m1, r1, r2, r3, r4⟩ := em N fN tw tt h3 h4
    have yb := mulb (a := q ^ (10 - D) * eM p q keep thr D) (b := p) (m := 99 * q ^ 10) (n := 9) (by omega) (by omega) (by omega) (by omega)
    have sm : ∀ m : Int, -99 ≤ m → m ≤ 99 → -27960524111619 ≤ (q - p) * q ^ 10 * m ∧ (q - p) * q ^ 10 * m ≤ 27960524111619 := fun m b1 b2 => by
      have := mulb (a := (q - p) * q ^ 10) (b := m) (m := 282429536481) (n := 99) (by omega) (by omega) b1 b2
      omega
    have s0 := sm m0 o2.1 o2.2
    have s1 := sm m1 r2.1 r2.2
    unfold F_Day_isThreatEnough_j171
    rw [C_later (hPN N fN).1 (hPN N fN).2 (by omega) (by omega) (by omega) q9 (by omega) nk (by omega) (by omega), bs, i0, V_Row_at (by omega) (by omega) (by decide), bs, show ((0 : Nat) : Int).toNat = 0 from rfl, nv 0 (Nat.zero_le _), o1, bs, iI_l (by omega) (by omega), lI_mul, lI_add]
    have b0 := eb 0 (by omega)
    have fin : ∀ (b : Bool), (b = true ↔ ∃ k, gainW (M.1 95) A pe ow ot p q keep thr 0 D k) → wpO (F_Day_isThreatEnough_l215 (iI (pe : Int)) (iI (tw : Int)) (iI (tt : Int)) (iI (D : Int)) (lI ((q - p) * q ^ 10)) (lI (q ^ (10 - D) * eM p q keep thr D * p)) b 1 N) (fun r => Same (fun k => k = 78) M r.2 ∧ (r.1 = true ↔ ¬ ((∃ k, gainW (M.1 95) A pe ow ot p q keep thr 0 D k) ∨ ∃ l, 1 ≤ l ∧ l ≤ D ∧ ∃ k, gainW (M.1 95) A pe tw tt p q keep thr l D k))) := by
      intro b hb
      unfold F_Day_isThreatEnough_l215
      refine wp_bind (Ψ := fun r => r = true ↔ ((∃ k, gainW (M.1 95) A pe ow ot p q keep thr 0 D k) ∨ ∃ l, 1 ≤ l ∧ l ≤ D ∧ ∃ k, gainW (M.1 95) A pe tw tt p q keep thr l D k)) ?_ (fun r hr => ?_)
      · refine wp_iterS (P := fun (k : Nat) (z : Bool × Int32) => z.2 = iI ((k + 1 : Nat) : Int) ∧ k ≤ D ∧ (z.1 = true ↔ ((∃ k, gainW (M.1 95) A pe ow ot p q keep thr 0 D k) ∨ ∃ l, 1 ≤ l ∧ l ≤ k ∧ ∃ k, gainW (M.1 95) A pe tw tt p q keep thr l D k))) D ?_ FUEL (b, 1) ⟨rfl, Nat.zero_le _, hb.trans ⟨fun w => Or.inl w, fun w => w.resolve_right (fun ⟨l, q1, q2, _⟩ => by omega)⟩⟩ (FUEL_big (by omega))
        rintro k ⟨z1, z2⟩ hk ⟨e2, kD, hz⟩
        dsimp only at e2 hz
        subst e2
        unfold F_Day_isThreatEnough_b215
        dsimp only
        refine wp_if (fun c => wp_some ?_) (fun c => ?_)
        · rw [iI_lt (by omega) (by omega) (by omega) (by omega)] at c
          have ek : k = D := by omega
          rw [ek] at hz
          exact hz
        rw [iI_lt (by omega) (by omega) (by omega) (by omega)] at c
        refine wp_if (fun z => wp_some ⟨by omega, iI_succ (k + 1), by omega, ⟨fun _ => ?_, fun _ => rfl⟩⟩) (fun z => ?_)
        · rcases hz.mp z with w | ⟨l, q1, q2, q3⟩
          · exact Or.inl w
          · exact Or.inr ⟨l, q1, by omega, q3⟩
        have old : ¬ ((∃ k, gainW (M.1 95) A pe ow ot p q keep thr 0 D k) ∨ ∃ l, 1 ≤ l ∧ l ≤ k ∧ ∃ k, gainW (M.1 95) A pe tw tt p q keep thr l D k) := fun w => z (hz.mpr w)
        have bk1 := eb (k + 1) (by omega)
        rw [V_Row_at (by omega) (by omega) (by decide), bs, show ((k + 1 : Nat) : Int).toNat = k + 1 from rfl, nv (k + 1) (by omega), r1, bs, iI_l (by omega) (by omega), lI_mul, lI_add]
        have gi := gain_iff (W := M.1 95) (A := A) (pe := pe) (own := tw) (y := tt) (l := k + 1) (D := D) (keep := keep) (thr := thr) p0 pq (by omega) hD r3 r4
        refine wp_if (fun w => ?_) (fun w => ?_)
        · rw [lI_le (by omega) (by omega) (by omega) (by omega)] at w
          refine wp_some ⟨by omega, iI_succ (k + 1), by omega, ⟨fun v => Bool.noConfusion v, fun v => ?_⟩⟩
          exfalso
          rcases v with v | ⟨l, q1, q2, q3⟩
          · exact old (Or.inl v)
          · by_cases e : l = k + 1
            · rw [e] at q3
              exact gi.mp w q3
            · exact old (Or.inr ⟨l, q1, by omega, q3⟩)
        · rw [lI_le (by omega) (by omega) (by omega) (by omega)] at w
          refine wp_some ⟨by omega, iI_succ (k + 1), by omega, ⟨fun _ => Or.inr ⟨k + 1, by omega, Nat.le_refl _, ?_⟩, fun _ => rfl⟩⟩
          exact Classical.byContradiction (fun v => w (gi.mpr v))
      · unfold F_Day_isThreatEnough_j269
        refine wp_if (fun w => wp_some ⟨fN, ⟨fun v => Bool.noConfusion v, fun v => absurd (hr.mp w) v⟩⟩) (fun w => wp_some ⟨fN, ⟨fun _ v => w (hr.mpr v), fun _ => rfl⟩⟩)
    have gi := gain_iff (W := M.1 95) (A := A) (pe := pe) (own := ow) (y := ot) (l := 0) (D := D) (keep := keep) (thr := thr) p0 pq (Nat.zero_le _) hD o3 o4
    refine wp_if (fun w => fin false ?_) (fun w => fin true ?_)
    · rw [lI_le (by omega) (by omega) (by omega) (by omega)] at w
      exact ⟨fun v => Bool.noConfusion v, fun v => absurd v (gi.mp w)⟩
    · rw [lI_le (by omega) (by omega) (by omega) (by omega)] at w
      exact ⟨fun _ => Classical.byContradiction (fun v => w (gi.mpr v)), fun _ => rfl⟩
