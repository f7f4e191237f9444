/-! ===== days that are lived: meet, stays ===== -/
theorem nz1 : ¬ ((1 : Int32) = 0) := by decide
theorem nz2 : ¬ ((2 : Int32) = 0) := by decide
theorem nz3 : ¬ ((3 : Int32) = 0) := by decide
theorem nz4 : ¬ ((4 : Int32) = 0) := by decide
theorem f79 {M N : Mem} {j : Nat} {v : Int32} (f : Same (fun k => k = 79) M N) : Same (fun k => k = 79) M (mSI N 79 j v) := f.sI rfl
theorem f79r {M : Mem} : Same (fun k => k = 79) M M := Same.rfl'
def WK (W : Nat → Int32) (a b x y : Nat) (M : Mem) : Prop := CW W M ∧ M.1 79 1 = iI (a : Int) ∧ M.1 79 2 = iI (b : Int) ∧ M.1 79 3 = iI (x : Int) ∧ M.1 79 4 = iI (y : Int)
theorem C_start {W : Nat → Int32} {a b : Nat} {M : Mem} (h : CW W M) : wpO (F_Walk_start (iI (a : Int)) (iI (b : Int)) M) (fun N => WK W a b 0 0 N ∧ Same (fun k => k = 79) M N) := by
  unfold F_Walk_start
  have f : Same (fun k => k = 79) M (mSI (mSI (mSI (mSI M 79 1 (iI (a : Int))) 79 2 (iI (b : Int))) 79 3 0) 79 4 0) := f79 (f79 (f79 (f79 f79r)))
  refine wp_some ⟨⟨h.sm f (fun k q => by omega), ?_, ?_, ?_, ?_⟩, f⟩
  · rw [mI_ix (by decide), mI_ix (by decide), mI_ix (by decide), mI_hit]
  · rw [mI_ix (by decide), mI_ix (by decide), mI_hit]
  · rw [mI_ix (by decide), mI_hit]
    rfl
  · rw [mI_hit]
    rfl
theorem C_goOn {W : Nat → Int32} {a b x y s u : Nat} {M : Mem} (h : WK W a b x y M) (ha : (a : Int) < (W 5).toInt) (hb : (b : Int) < (W 5).toInt) (hx : x < mo W a) (hy : y < mo W b) (hs : s < 3) (hu : u < 3) : wpO (F_Walk_goOn (iI (s : Int)) (iI (u : Int)) M) (fun N => WK W a b (gz W a x s) (gz W b y u) N ∧ Same (fun k => k = 79) M N ∧ N.1 79 5 = M.1 79 5) := by
  obtain ⟨cw, h1, h2, h3, h4⟩ := h
  unfold F_Walk_goOn
  rw [h1, h3, C_nextOf cw ha hx hs, bs]
  have e2 : (mSI M 79 3 (iI (gz W a x s : Int))).1 79 2 = iI (b : Int) := (mI_ix (by decide)).trans h2
  have e4 : (mSI M 79 3 (iI (gz W a x s : Int))).1 79 4 = iI (y : Int) := (mI_ix (by decide)).trans h4
  have f1 : Same (fun k => k = 79) M (mSI M 79 3 (iI (gz W a x s : Int))) := f79 f79r
  rw [e2, e4, C_nextOf (cw.sm f1 (fun k q => by omega)) hb hy hu, bs]
  refine wp_some ⟨⟨cw.sm (f79 f1) (fun k q => by omega), ?_, ?_, ?_, ?_⟩, f79 f1, ?_⟩
  · rw [mI_ix (by decide), mI_ix (by decide), h1]
  · rw [mI_ix (by decide), mI_ix (by decide), h2]
  · rw [mI_ix (by decide), mI_hit]
  · rw [mI_hit]
  · rw [mI_ix (by decide), mI_ix (by decide)]
def mtS (W : Nat → Int32) (a b : Nat) : Nat → Nat × Nat × Int32
  | 0 => (0, 0, 0)
  | k + 1 => (gz W a (mtS W a b k).1 (dz W b (mtS W a b k).2.1), gz W b (mtS W a b k).2.1 (dz W a (mtS W a b k).1), (mtS W a b k).2.2 + (iI (br W (dz W a (mtS W a b k).1) (dz W b (mtS W a b k).2.1) 0) + 99))
theorem mtS_s {W : Nat → Int32} {a b k : Nat} : mtS W a b (k + 1) = (gz W a (mtS W a b k).1 (dz W b (mtS W a b k).2.1), gz W b (mtS W a b k).2.1 (dz W a (mtS W a b k).1), (mtS W a b k).2.2 + (iI (br W (dz W a (mtS W a b k).1) (dz W b (mtS W a b k).2.1) 0) + 99)) := rfl
theorem mtS_b {W : Nat → Int32} {a b : Nat} (hA : WOKW W a) (hB : WOKW W b) : ∀ k, (mtS W a b k).1 < mo W a ∧ (mtS W a b k).2.1 < mo W b := by
  intro k
  induction k with
  | zero => exact ⟨hA.moK.1, hB.moK.1⟩
  | succ k ih =>
    rw [mtS_s]
    have d1 := (hA.dzK ih.1).1
    have d2 := (hB.dzK ih.2).1
    exact ⟨(hA.gzK ih.1 (by omega)).1, (hB.gzK ih.2 (by omega)).1⟩
def mt (W : Nat → Int32) (a b : Nat) : Int32 := (mtS W a b (W 6).toInt.toNat).2.2
theorem C_meet {W : Nat → Int32} {a b : Nat} {M : Mem} (h : CW W M) (ha : (a : Int) < (W 5).toInt) (hb : (b : Int) < (W 5).toInt) : wpO (F_Walk_gotInRounds (iI (a : Int)) (iI (b : Int)) M) (fun r => r.1 = mt W a b ∧ Same (fun k => k = 79) M r.2) := by
  have hA := h.wk ha
  have hB := h.wk hb
  have r6 := h.2.1.rnds
  obtain ⟨R, hR⟩ : ∃ R : Nat, (W 6).toInt = R := ⟨(W 6).toInt.toNat, by omega⟩
  have e6 : W 6 = iI (R : Int) := by rw [← hR, iI_of]
  have i0 : (0 : Int32) = iI ((0 : Nat) : Int) := rfl
  unfold F_Walk_gotInRounds
  refine wp_bind (C_start h) (fun N hN => ?_)
  unfold F_Walk_gotInRounds_l11
  refine wp_bind (Ψ := fun r => r.1 = mt W a b ∧ Same (fun k => k = 79) M r.2) ?_ (fun r hr => wp_some hr)
  refine wp_iterS (P := fun (k : Nat) (z : Int32 × Int32 × Mem) => z.1 = (mtS W a b k).2.2 ∧ z.2.1 = iI (k : Int) ∧ WK W a b (mtS W a b k).1 (mtS W a b k).2.1 z.2.2 ∧ Same (fun k => k = 79) M z.2.2) R ?_ FUEL (0, 0, N) ⟨rfl, rfl, hN.1, hN.2⟩ (FUEL_big (by omega))
  rintro k ⟨z1, z2, N⟩ hk ⟨e1, e2, wk, f⟩
  dsimp only at e1 e2 wk f
  subst e2
  have mb := mtS_b hA hB k
  have d1 := hA.dzK mb.1
  have d2 := hB.dzK mb.2
  unfold F_Walk_gotInRounds_b11
  dsimp only
  rw [wk.1.2.2.1.2.2.2.2.2.1, e6]
  refine wp_if (fun c => wp_some ⟨?_, f⟩) (fun c => ?_)
  · rw [iI_le (by omega) (by omega) (by omega) (by omega)] at c
    show z1 = mt W a b
    unfold mt
    rw [e1, hR, show ((R : Nat) : Int).toNat = k by omega]
  rw [iI_le (by omega) (by omega) (by omega) (by omega)] at c
  rw [wk.2.1, wk.2.2.1, wk.2.2.2.1, wk.2.2.2.2, C_actOf wk.1 ha mb.1, bs, C_actOf wk.1 hb mb.2, bs, i0, C_brW wk.1 (by omega) (by omega) (by decide), bs]
  refine wp_bind (C_goOn wk ha hb mb.1 mb.2 (by omega) (by omega)) (fun P hP => wp_some ⟨by omega, ?_, iI_succ k, hP.1, f.trans hP.2.1⟩)
  show z1 + _ = _
  rw [e1, mtS_s]
theorem R_meets {W : Nat → Int32} {a b : Nat} {M : Mem} (hW : M.1 95 = W) (h : RIW W) (ha : (a : Int) < (W 5).toInt) (hb : (b : Int) < (W 5).toInt) : F_MO_meets (iI (a : Int)) (iI (b : Int)) M = some (mt W a b) := by
  subst hW
  have hA := h.way a ha
  have hB := h.way b hb
  have r6 := h.rnds
  have r5 := h.ways
  obtain ⟨R, hR⟩ : ∃ R : Nat, (M.1 95 6).toInt = R := ⟨(M.1 95 6).toInt.toNat, by omega⟩
  have e6 : M.1 95 6 = iI (R : Int) := by rw [← hR, iI_of]
  have i0 : (0 : Int32) = iI ((0 : Nat) : Int) := rfl
  apply wp_of
  unfold F_MO_meets F_MO_meets_l11
  refine wp_bind (Ψ := fun r => r = mt (M.1 95) a b) ?_ (fun r hr => wp_some hr)
  refine wp_iterS (P := fun k z => z.1 = iI ((mtS (M.1 95) a b k).1 : Int) ∧ z.2.1 = iI ((mtS (M.1 95) a b k).2.1 : Int) ∧ z.2.2.1 = (mtS (M.1 95) a b k).2.2 ∧ z.2.2.2 = iI (k : Int)) R ?_ _ _ ⟨rfl, rfl, rfl, rfl⟩ (FUEL_big (by omega))
  rintro k ⟨z1, z2, z3, z4⟩ hk ⟨e1, e2, e3, e4⟩
  dsimp only at e1 e2 e3 e4
  subst e1
  subst e2
  subst e4
  have mb := mtS_b hA hB k
  have d1 := hA.dzK mb.1
  have d2 := hB.dzK mb.2
  unfold F_MO_meets_b11
  dsimp only
  refine wp_t ib6 ?_
  rw [tn6, e6]
  refine wp_if (fun c => wp_some ?_) (fun c => ?_)
  · rw [iI_le (by omega) (by omega) (by omega) (by omega)] at c
    show z3 = mt (M.1 95) a b
    unfold mt
    rw [e3, hR, show ((R : Nat) : Int).toNat = k by omega]
  rw [iI_le (by omega) (by omega) (by omega) (by omega)] at c
  rw [N_doesW (by omega) hA mb.1, bs, N_doesW (by omega) hB mb.2, bs, i0, N_brings (by omega) (by omega) (by decide), bs, N_goesW (by omega) hA mb.1 d2.1, bs, N_goesW (by omega) hB mb.2 d1.1, bs]
  refine wp_some ⟨by omega, rfl, rfl, ?_, iI_succ k⟩
  show z3 + _ = _
  rw [e3, mtS_s]
theorem V_meet {x y : Int32} {M : Mem} (h : RY M) : wpO (F_LAW_meet x y M) (fun r1 => wpO (F_MO_meet x y r1.2) (fun r2 => RY r2.2 ∧ r2.2.1 94 0 = r1.1 ∧ (r1.1 = 0 → r2.2.2 121 0 = r2.1.toInt64))) := by
  refine wp2 (B := fun r1 r2 => r2.2.1 94 0 = r1.1 ∧ (r1.1 = 0 → r2.2.2 121 0 = r2.1.toInt64)) (Y_meet h) (fun r1 r2 e1 e2 => ?_) (fun r s p q => ⟨p, q⟩)
  have f1 := wpO_of (T_LAW_meet x y M) e1
  have f2 := Q_MO_meet x y r1.2 r2 e2
  have cw := h.cw
  have e95 : r1.2.1 95 = M.1 95 := funext (f1 95 (by omega)).1
  have e121 : r2.2.2 121 0 = r1.2.2 121 0 := (f2 121 0 (by omega)).2
  have hN : (mSI r1.2 94 0 0).1 95 = M.1 95 := e95
  have n0 : (mSI r1.2 94 0 0).1 94 0 = 0 := mI_hit
  unfold F_LAW_meet F_KW_meet at e1
  unfold F_MO_meet at e2
  generalize mSI r1.2 94 0 0 = N at *
  rw [R_ways hN cw.2.1 (J := fun b => F_MO_meet_j27 x y b N)] at e2
  by_cases c : wOk2 (M.1 95) x y
  · rw [decide_eq_true c] at e2
    obtain ⟨a, rfl, ha⟩ := wOk_nat c.1
    obtain ⟨b, rfl, hb⟩ := wOk_nat c.2
    rw [cw.pair ha hb] at e1
    change F_MO_meet_j27 (iI (a : Int)) (iI (b : Int)) false N = some r2 at e2
    unfold F_MO_meet_j27 at e2
    rw [S_throws_f, bs, if_f1, R_areB hN cw.2.1 ha hb, bs] at e2
    cases hq : (barW (M.1 95) a || barW (M.1 95) b) with
    | true =>
      rw [hq, if_pos rfl, xb_inl, hb_inl, if_neg (by decide), if_pos rfl] at e1
      rw [hq, S_throws_t, bs, if_pos rfl] at e2
      cases e1
      cases e2
      exact ⟨mI_hit, fun w => absurd w nz2⟩
    | false =>
      rw [hq, if_neg (by decide), xb_inr] at e1
      rw [hq, S_throws_f, bs, if_f1] at e2
      obtain ⟨q, eq, q1, q2⟩ := C_meet cw ha hb
      rw [eq, bs, hb_inr, if_pos ib01] at e1
      rw [R_meets hN cw.2.1 ha hb, bs] at e2
      cases e1
      cases e2
      refine ⟨n0, fun _ => ?_⟩
      rw [e121]
      show (mSL q.2 121 ((0 : Int32)).toNatClampNeg q.1.toInt64).2 121 0 = _
      rw [tn0, mL_hit, q1]
  · rw [decide_eq_false c] at e2
    rw [cw.pair_no c, xb_inl, hb_inl, if_pos rfl] at e1
    change F_MO_meet_j27 x y true N = some r2 at e2
    unfold F_MO_meet_j27 at e2
    rw [S_throws_t, bs, if_pos rfl] at e2
    cases e1
    cases e2
    exact ⟨mI_hit, fun w => absurd w nz1⟩
/-! stays -/
def kp (W : Nat → Int32) (a o : Nat) : Bool := decide (mt W o a < mt W a a ∨ (mt W a a = mt W o a ∧ ¬ mt W a o ≤ mt W o o))
theorem C_keepsOut {W : Nat → Int32} {a b : Nat} {M : Mem} (h : CW W M) (ha : (a : Int) < (W 5).toInt) (hb : (b : Int) < (W 5).toInt) : wpO (F_Crowd_keepsOut (iI (a : Int)) (iI (b : Int)) M) (fun r => r.1 = kp W a b ∧ Same (fun k => k = 79) M r.2) := by
  unfold F_Crowd_keepsOut
  refine wp_bind (C_meet h ha ha) (fun r1 h1 => ?_)
  have w1 := h.sm h1.2 (fun k q => by omega)
  refine wp_bind (C_meet w1 hb ha) (fun r2 h2 => ?_)
  have w2 := w1.sm h2.2 (fun k q => by omega)
  rw [h1.1, h2.1]
  refine wp_if (fun c => wp_some ⟨(decide_eq_true (Or.inl c)).symm, h1.2.trans h2.2⟩) (fun c => ?_)
  refine wp_if (fun c2 => ?_) (fun c2 => wp_some ⟨(decide_eq_false (fun w => w.elim c (fun w => c2 w.1))).symm, h1.2.trans h2.2⟩)
  refine wp_bind (C_meet w2 ha hb) (fun r3 h3 => ?_)
  have w3 := w2.sm h3.2 (fun k q => by omega)
  refine wp_bind (C_meet w3 hb hb) (fun r4 h4 => ?_)
  rw [h3.1, h4.1]
  refine wp_if (fun c3 => wp_some ⟨(decide_eq_false (fun w => w.elim c (fun w => w.2 c3))).symm, ((h1.2.trans h2.2).trans h3.2).trans h4.2⟩) (fun c3 => wp_some ⟨(decide_eq_true (Or.inr ⟨c2, c3⟩)).symm, ((h1.2.trans h2.2).trans h3.2).trans h4.2⟩)
def isTh (W : Nat → Int32) (o : Nat) : Bool := decide ((o : Int) < (W 5).toInt ∧ barW W o = false)
def okO (W : Nat → Int32) (a o : Nat) : Bool := !isTh W o || decide (o = a) || kp W a o
def stS (W : Nat → Int32) (a : Nat) : Bool := (List.range 8).all (okO W a)
theorem okO_i {W : Nat → Int32} {a o : Nat} : okO W a o = true ↔ (isTh W o = true → o ≠ a → kp W a o = true) := by
  unfold okO
  cases isTh W o with
  | false => exact ⟨(fun _ w => nomatch w), fun _ => rfl⟩
  | true =>
    by_cases q : o = a
    · rw [decide_eq_true q]
      exact ⟨fun _ _ w => absurd q w, fun _ => rfl⟩
    · rw [decide_eq_false q]
      cases kp W a o with
      | false => exact ⟨(fun w => nomatch w), fun w => w rfl q⟩
      | true => exact ⟨fun _ _ _ => rfl, fun _ => rfl⟩
theorem stS_t {W : Nat → Int32} {a : Nat} (h : ∀ o, o < 8 → isTh W o = true → o ≠ a → kp W a o = true) : stS W a = true := by
  unfold stS
  rw [List.all_eq_true]
  exact fun o ho => okO_i.mpr (h o (List.mem_range.mp ho))
theorem stS_f {W : Nat → Int32} {a k : Nat} (hk : k < 8) (h1 : isTh W k = true) (h2 : k ≠ a) (h3 : kp W a k = false) : stS W a = false := by
  cases hs : stS W a with
  | false => rfl
  | true =>
    unfold stS at hs
    rw [List.all_eq_true] at hs
    have := okO_i.mp (hs k (List.mem_range.mpr hk)) h1 h2
    rw [h3] at this
    cases this
theorem C_see {W : Nat → Int32} {M : Mem} (h : CW W M) : wpO (F_Crowd_seeWhoIsThere M) (fun N => Same (fun k => k = 82) M N ∧ ∀ o, o < 8 → N.2 82 o = if isTh W o = true then 1 else 0) := by
  have l8 : (8 : Int32) = iI 8 := rfl
  have r5 := h.2.1.ways
  unfold F_Crowd_seeWhoIsThere F_Crowd_seeWhoIsThere_l2
  refine wp_bind (Ψ := fun N => Same (fun k => k = 82) M N ∧ ∀ o, o < 8 → N.2 82 o = if isTh W o = true then 1 else 0) ?_ (fun N hN => wp_some hN)
  refine wp_iterS (P := fun k z => z.1 = iI (k : Int) ∧ Same (fun k => k = 82) M z.2 ∧ ∀ o, o < k → z.2.2 82 o = if isTh W o = true then 1 else 0) 8 ?_ _ _ ⟨rfl, Same.rfl', fun o q => absurd q (Nat.not_lt_zero _)⟩ (FUEL_big (by decide))
  rintro k ⟨z1, N⟩ hk ⟨e1, f, hz⟩
  dsimp only at e1 f hz
  subst e1
  have cw := h.sm f (fun k q => by omega)
  unfold F_Crowd_seeWhoIsThere_b2
  dsimp only
  refine wp_if (fun c => wp_some ⟨f, fun o ho => hz o ?_⟩) (fun c => ?_)
  · rw [l8, iI_le (by omega) (by omega) (by omega) (by omega)] at c
    omega
  rw [l8, iI_le (by omega) (by omega) (by omega) (by omega)] at c
  have put : ∀ v : Int64, v = (if isTh W k = true then 1 else 0) → wpO (F_Crowd_seeWhoIsThere_j40 (iI (k : Int)) (iI (k : Int)) v N) (sumP (fun s' => k < 8 ∧ s'.1 = iI ((k + 1 : Nat) : Int) ∧ Same (fun k => k = 82) M s'.2 ∧ ∀ o, o < k + 1 → s'.2.2 82 o = if isTh W o = true then 1 else 0) (fun N => Same (fun k => k = 82) M N ∧ ∀ o, o < 8 → N.2 82 o = if isTh W o = true then 1 else 0)) := by
    intro v hv
    unfold F_Crowd_seeWhoIsThere_j40
    rw [V_Row_put (by omega) (by omega) (by decide), bs]
    refine wp_some ⟨by omega, iI_succ k, f.sL rfl, fun o ho => ?_⟩
    show (mSL N 82 k v).2 82 o = _
    by_cases q : o = k
    · rw [q, mL_hit, hv]
    · rw [mL_ix q]
      exact hz o (by omega)
  have e5 : W 5 = iI ((W 5).toInt) := (iI_of _).symm
  rw [cw.2.2.1.2.2.2.2.2.2.1, e5]
  refine wp_if (fun c2 => put _ ?_) (fun c2 => ?_)
  · rw [iI_le (by omega) (by omega) (by omega) (by omega)] at c2
    rw [if_neg]
    intro w
    have := (of_decide_eq_true w).1
    omega
  · rw [iI_le (by omega) (by omega) (by omega) (by omega)] at c2
    rw [C_isBarred cw (by omega), bs]
    cases hb : barW W k with
    | true =>
      refine wp_tt (put _ ?_)
      rw [if_neg]
      intro w
      have := (of_decide_eq_true w).2
      rw [hb] at this
      cases this
    | false =>
      refine wp_ff (put _ ?_)
      have ht : isTh W k = true := decide_eq_true ⟨by omega, hb⟩
      rw [if_pos ht]
theorem C_stays {W : Nat → Int32} {a : Nat} {M : Mem} (h : CW W M) (ha : (a : Int) < (W 5).toInt) : wpO (F_Crowd_keepsOthersOut (iI (a : Int)) M) (fun r => r.1 = stS W a) := by
  have l8 : (8 : Int32) = iI 8 := rfl
  have r5 := h.2.1.ways
  unfold F_Crowd_keepsOthersOut
  refine wp_bind (C_see h) (fun N hN => ?_)
  obtain ⟨f, th⟩ := hN
  have cw := h.sm f (fun k q => by omega)
  unfold F_Crowd_keepsOthersOut_l6
  refine wp_bind (Ψ := fun q => match q with | .inl _ => stS W a = false | .inr _ => stS W a = true) ?_ (fun q hq => ?_)
  · refine wp_iterS (P := fun k z => z.1 = iI (k : Int) ∧ Same (fun k => k = 79) N z.2 ∧ ∀ o, o < k → isTh W o = true → o ≠ a → kp W a o = true) 8 ?_ _ _ ⟨rfl, Same.rfl', fun o q => absurd q (Nat.not_lt_zero _)⟩ (FUEL_big (by decide))
    rintro k ⟨z1, O⟩ hk ⟨e1, g, hz⟩
    dsimp only at e1 g hz
    subst e1
    have cO := cw.sm g (fun k q => by omega)
    unfold F_Crowd_keepsOthersOut_b6
    dsimp only
    refine wp_if (fun c => wp_some ?_) (fun c => ?_)
    · rw [l8, iI_le (by omega) (by omega) (by omega) (by omega)] at c
      exact stS_t (fun o ho => hz o (by omega))
    rw [l8, iI_le (by omega) (by omega) (by omega) (by omega)] at c
    have nx : ∀ P : Mem, Same (fun k => k = 79) N P → (isTh W k = true → k ≠ a → kp W a k = true) → wpO (some (.inl ((iI (k : Int) + 1, P))) : Option ((Int32 × Mem) ⊕ (Mem ⊕ Mem))) (sumP (fun s' => k < 8 ∧ s'.1 = iI ((k + 1 : Nat) : Int) ∧ Same (fun k => k = 79) N s'.2 ∧ ∀ o, o < k + 1 → isTh W o = true → o ≠ a → kp W a o = true) (fun q => match q with | .inl _ => stS W a = false | .inr _ => stS W a = true)) := fun P hP w => by
      refine wp_some ⟨by omega, iI_succ k, hP, fun o ho h1 h2 => ?_⟩
      by_cases q : o = k
      · rw [q] at h1 h2 ⊢
        exact w h1 h2
      · exact hz o (by omega) h1 h2
    refine wp_if (fun c2 => nx _ g (fun _ w => absurd ?_ w)) (fun c2 => ?_)
    · rw [iI_eq (by omega) (by omega) (by omega) (by omega)] at c2
      omega
    rw [iI_eq (by omega) (by omega) (by omega) (by omega)] at c2
    unfold F_Crowd_isThere
    rw [V_Row_at (by omega) (by omega) (by decide), bs]
    have eth : O.2 82 ((k : Int)).toNat = if isTh W k = true then 1 else 0 := by
      rw [(g 82 (by decide)).2]
      exact th k (by omega)
    rw [eth]
    cases ht : isTh W k with
    | false =>
      rw [if_neg (show ¬ false = true by decide), if_neg (show ¬ (0 : Int64) = 1 by decide), bs]
      exact wp_ff (nx _ g (fun w => by rw [ht] at w; cases w))
    | true =>
      have tk := of_decide_eq_true ht
      rw [if_pos rfl, if_pos rfl, bs]
      refine wp_tt ?_
      refine wp_bind (C_keepsOut cO ha tk.1) (fun r3 h3 => ?_)
      rw [h3.1]
      cases hkp : kp W a k with
      | true => exact wp_tt (nx _ (g.trans h3.2) (fun _ _ => hkp))
      | false =>
        exact wp_ff (wp_some (stS_f (by omega) ht (by omega) hkp))
  · rcases q with q | q
    · exact wp_some (show false = stS W a from hq.symm)
    · exact wp_some (show true = stS W a from hq.symm)
theorem R_stays {W : Nat → Int32} {a : Nat} {M : Mem} (hW : M.1 95 = W) (h : RIW W) (ha : (a : Int) < (W 5).toInt) : wpO (F_MO_stays_l37 (iI (a : Int)) true 0 M) (fun r => r.1 = stS W a ∧ r.2 = M) := by
  have r5 := h.ways
  obtain ⟨n, hn⟩ : ∃ n : Nat, (W 5).toInt = n := ⟨(W 5).toInt.toNat, by omega⟩
  have e5 : W 5 = iI (n : Int) := by rw [← hn, iI_of]
  unfold F_MO_stays_l37
  refine wp_bind (Ψ := fun r => r = stS W a) ?_ (fun r hr => wp_some ⟨hr, rfl⟩)
  refine wp_iterS (P := fun k z => z.2 = iI (k : Int) ∧ k ≤ n ∧ z.1 = (List.range k).all (okO W a)) n ?_ _ _ ⟨rfl, Nat.zero_le _, rfl⟩ (FUEL_big (by omega))
  rintro k ⟨z1, z2⟩ hk ⟨e2, -, e1⟩
  dsimp only at e1 e2
  subst e2
  unfold F_MO_stays_b37
  dsimp only
  refine wp_t ib5 ?_
  rw [tn5, hW, e5]
  refine wp_if (fun c => wp_some ?_) (fun c => ?_)
  · rw [iI_le (by omega) (by omega) (by omega) (by omega)] at c
    show z1 = stS W a
    rw [e1]
    cases hs : stS W a with
    | true =>
      unfold stS at hs
      rw [List.all_eq_true] at hs ⊢
      exact fun o ho => hs o (List.mem_range.mpr (by have := List.mem_range.mp ho; omega))
    | false =>
      cases hk2 : (List.range k).all (okO W a) with
      | false => rfl
      | true =>
        rw [List.all_eq_true] at hk2
        have := stS_t (W := W) (a := a) (fun o ho h1 h2 => okO_i.mp (hk2 o (List.mem_range.mpr (by have := (of_decide_eq_true h1).1; omega))) h1 h2)
        rw [hs] at this
        cases this
  rw [iI_le (by omega) (by omega) (by omega) (by omega)] at c
  have nx : ∀ b : Bool, b = (List.range (k + 1)).all (okO W a) → wpO (some (.inl ((b, iI (k : Int) + 1))) : Option ((Bool × Int32) ⊕ Bool)) (sumP (fun s' => k < n ∧ s'.2 = iI ((k + 1 : Nat) : Int) ∧ k + 1 ≤ n ∧ s'.1 = (List.range (k + 1)).all (okO W a)) (fun r => r = stS W a)) := fun b hb => wp_some ⟨by omega, iI_succ k, by omega, hb⟩
  have as : (List.range (k + 1)).all (okO W a) = ((List.range k).all (okO W a) && okO W a k) := by
    rw [List.range_succ, List.all_append]
    show ((List.range k).all (okO W a) && (okO W a k && true)) = ((List.range k).all (okO W a) && okO W a k)
    rw [Bool.and_true]
  have skip : ¬ (isTh W k = true ∧ k ≠ a) → z1 = (List.range (k + 1)).all (okO W a) := fun w => by
    have : okO W a k = true := okO_i.mpr (fun h1 h2 => absurd ⟨h1, h2⟩ w)
    rw [as, this, Bool.and_true, e1]
  have take : ∀ b : Bool, isTh W k = true → k ≠ a → b = (z1 && kp W a k) → b = (List.range (k + 1)).all (okO W a) := fun b h1 h2 hb => by
    have : okO W a k = kp W a k := by
      unfold okO
      rw [h1, decide_eq_false h2]
      rfl
    rw [as, this, hb, e1]
  refine wp_if (fun c2 => nx _ (skip (fun w => w.2 ?_))) (fun c2 => ?_)
  · rw [iI_eq (by omega) (by omega) (by omega) (by omega)] at c2
    omega
  rw [iI_eq (by omega) (by omega) (by omega) (by omega)] at c2
  have hk5 : (k : Int) < (W 5).toInt := by omega
  rw [show F_MO_isBarred (iI (k : Int)) M = some (barW W k) by subst hW; exact N_isBarred (by omega) (h.way k hk5), bs]
  cases hb : barW W k with
  | true =>
    refine wp_tt (nx _ (skip (fun w => ?_)))
    have := (of_decide_eq_true w.1).2
    rw [hb] at this
    cases this
  | false =>
    have ht : isTh W k = true := decide_eq_true ⟨hk5, hb⟩
    refine wp_ff ?_
    rw [R_meets hW h ha ha, bs, R_meets hW h hk5 ha, bs]
    have kpv : kp W a k = decide (mt W k a < mt W a a ∨ (mt W a a = mt W k a ∧ ¬ mt W a k ≤ mt W k k)) := rfl
    cases hz : z1 with
    | false =>
      refine wp_ff (nx _ (take _ ht (by omega) ?_))
      rw [hz]
      rfl
    | true =>
      refine wp_tt ?_
      refine wp_if (fun c3 => nx _ (take _ ht (by omega) ?_)) (fun c3 => ?_)
      · rw [hz, kpv, decide_eq_true (Or.inl c3)]
        rfl
      refine wp_if (fun c4 => ?_) (fun c4 => nx _ (take _ ht (by omega) ?_))
      · rw [R_meets hW h ha hk5, bs, R_meets hW h hk5 hk5, bs]
        refine wp_if (fun c5 => nx _ (take _ ht (by omega) ?_)) (fun c5 => nx _ (take _ ht (by omega) ?_))
        · rw [hz, kpv, decide_eq_false (fun w => w.elim c3 (fun w => w.2 c5))]
          rfl
        · rw [hz, kpv, decide_eq_true (Or.inr ⟨c4, c5⟩)]
          rfl
      · rw [hz, kpv, decide_eq_false (fun w => w.elim c3 (fun w => c4 w.1))]
        rfl
theorem V_stays {x : Int32} {M : Mem} (h : RY M) : wpO (F_LAW_stays x M) (fun r1 => wpO (F_MO_stays x r1.2) (fun r2 => RY r2.2 ∧ r2.2.1 94 0 = r1.1 ∧ (r1.1 = 0 → (r2.1 = true → r2.2.2 121 0 = 1) ∧ (¬ r2.1 = true → r2.2.2 121 0 = 0)))) := by
  refine wp2 (B := fun r1 r2 => r2.2.1 94 0 = r1.1 ∧ (r1.1 = 0 → (r2.1 = true → r2.2.2 121 0 = 1) ∧ (¬ r2.1 = true → r2.2.2 121 0 = 0))) (Y_stays h) (fun r1 r2 e1 e2 => ?_) (fun r s p q => ⟨p, q⟩)
  have f1 := wpO_of (T_LAW_stays x M) e1
  have f2 := Q_MO_stays x r1.2 r2 e2
  have cw := h.cw
  have e95 : r1.2.1 95 = M.1 95 := funext (f1 95 (by omega)).1
  have e121 : r2.2.2 121 0 = r1.2.2 121 0 := (f2 121 0 (by omega)).2
  have hN : (mSI r1.2 94 0 0).1 95 = M.1 95 := e95
  have n0 : (mSI r1.2 94 0 0).1 94 0 = 0 := mI_hit
  unfold F_LAW_stays F_KW_stays at e1
  unfold F_MO_stays at e2
  generalize mSI r1.2 94 0 0 = N at *
  rw [R_noWay hN cw.2.1, bs] at e2
  by_cases c : wOk (M.1 95) x
  · rw [decide_eq_true c] at e2
    rw [cw.way_ok c, xb_inr] at e1
    obtain ⟨a, rfl, ha⟩ := wOk_nat c
    change ((F_MO_throwsIf (b2i false) 1 N).bind _) = some r2 at e2
    rw [S_throws_f, bs, if_f1] at e2
    have r5 := cw.2.1.ways
    have eb : F_MO_isBarred (iI (a : Int)) N = some (barW (M.1 95) a) := by
      rw [← hN]
      exact N_isBarred (by omega) (by rw [hN]; exact cw.2.1.way a ha)
    rw [eb, bs] at e2
    rw [cw.free ha] at e1
    cases hq : barW (M.1 95) a with
    | true =>
      rw [hq, if_pos rfl, xb_inl, hb_inl, if_neg (by decide), if_pos rfl] at e1
      rw [hq, S_throws_t, bs, if_pos rfl] at e2
      cases e1
      cases e2
      exact ⟨mI_hit, fun w => absurd w nz2⟩
    | false =>
      rw [hq, if_neg (by decide), xb_inr] at e1
      rw [hq, S_throws_f, bs, if_f1] at e2
      obtain ⟨q, eq, q1⟩ := C_stays cw ha
      obtain ⟨u, eu, u1, u2⟩ := R_stays hN cw.2.1 ha
      rw [eq, bs, hb_inr] at e1
      rw [eu] at e2
      cases e2
      refine ⟨?_, fun _ => ?_⟩
      · rw [u2, n0]
        cases hs : q.1 with
        | true =>
          rw [hs, if_pos rfl, if_pos ib01] at e1
          cases e1
          rfl
        | false =>
          rw [hs, if_neg (by decide), if_pos ib01] at e1
          cases e1
          rfl
      · rw [e121, u1, ← q1]
        cases hs : q.1 with
        | true =>
          rw [hs, if_pos rfl, if_pos ib01] at e1
          cases e1
          refine ⟨fun _ => ?_, fun w => absurd rfl w⟩
          show (mSL q.2 121 ((0 : Int32)).toNatClampNeg _).2 121 0 = _
          rw [tn0, mL_hit]
        | false =>
          rw [hs, if_neg (by decide), if_pos ib01] at e1
          cases e1
          refine ⟨(fun w => nomatch w), fun _ => ?_⟩
          show (mSL q.2 121 ((0 : Int32)).toNatClampNeg _).2 121 0 = _
          rw [tn0, mL_hit]
  · rw [decide_eq_false c] at e2
    rw [cw.way_no c, xb_inl, hb_inl, if_pos rfl] at e1
    change ((F_MO_throwsIf (b2i true) 1 N).bind _) = some r2 at e2
    rw [S_throws_t, bs, if_pos rfl] at e2
    cases e1
    cases e2
    exact ⟨mI_hit, fun w => absurd w nz1⟩
