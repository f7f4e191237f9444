/-! ===== row: both sides; all: the class's ways stay ===== -/
def rowG (t : Nat → Int) (n : Nat) : Bool := decide (n % 2 = 0 ∧ ∀ j, j < n → 0 ≤ t j ∧ t j ≤ 2)
theorem irm2 {n : Nat} (h : n < 1000) : irm (iI (n : Int)) 2 = iI ((n % 2 : Nat) : Int) := irmN (A := 2) h (by decide)
theorem C_isRow {t : Nat → Int} {n : Nat} {M : Mem} (hT : CTp t n M) : F_Tape_isRowOfDays M = some (rowG t n) := by
  have hn := hT.2.1
  have l3 : (3 : Int32) = iI 3 := rfl
  have i0 : (0 : Int32) = iI 0 := rfl
  apply wp_of
  unfold F_Tape_isRowOfDays F_Tape_isRowOfDays_l2
  refine wp_bind (Ψ := fun q => (q = .inl () ∧ rowG t n = false) ∨ (q = .inr () ∧ ∀ j, j < n → 0 ≤ t j ∧ t j ≤ 2)) ?_ (fun q hq => ?_)
  · refine wp_iterS (P := fun k z => z = iI (k : Int) ∧ ∀ j, j < k → 0 ≤ t j ∧ t j ≤ 2) n ?_ _ _ ⟨rfl, fun j q => absurd q (Nat.not_lt_zero _)⟩ (FUEL_big (by omega))
    rintro k z hk ⟨rfl, hz⟩
    unfold F_Tape_isRowOfDays_b2
    rw [hT.1]
    refine wp_if (fun c => wp_some (Or.inr ⟨rfl, fun j hj => hz j ?_⟩)) (fun c => ?_)
    · rw [iI_le (by omega) (by omega) (by omega) (by omega)] at c
      omega
    rw [iI_le (by omega) (by omega) (by omega) (by omega)] at c
    obtain ⟨-, b1, b2⟩ := hT.2.2 k (by omega)
    rw [C_byte hT (by omega), bs, l3]
    refine wp_if (fun c2 => wp_some ⟨by omega, iI_succ k, fun j hj => ?_⟩) (fun c2 => wp_some (Or.inl ⟨rfl, decide_eq_false (fun w => ?_)⟩))
    · rw [iI_lt (by omega) (by omega) (by omega) (by omega)] at c2
      by_cases q : j = k
      · rw [q]
        omega
      · exact hz j (by omega)
    · rw [iI_lt (by omega) (by omega) (by omega) (by omega)] at c2
      have := w.2 k (by omega)
      omega
  · rcases hq with ⟨rfl, e⟩ | ⟨rfl, e⟩
    · exact wp_some e.symm
    · show wpO (F_Tape_isRowOfDays_j27 M) _
      unfold F_Tape_isRowOfDays_j27
      rw [hT.1, irm2 (by omega)]
      refine wp_if (fun c => wp_some ?_) (fun c => wp_some ?_)
      · rw [i0, iI_eq (by omega) (by omega) (by omega) (by omega)] at c
        exact (decide_eq_true ⟨by omega, e⟩).symm
      · rw [i0, iI_eq (by omega) (by omega) (by omega) (by omega)] at c
        exact (decide_eq_false (fun w => c (by omega))).symm
theorem R_rowV {t : Nat → Int} {n : Nat} {M : Mem} (h : InvR M) (hT : RTp t n (useM M)) : wpO (F_MO_row M) (fun r => (rowG t n = false → r.2.1 94 0 = 1 ∧ ∀ j, r.2.1 95 j = M.1 95 j) ∧ (rowG t n = true → r.2.1 94 0 = 0 ∧ r.1 = iI ((n / 2 : Nat) : Int) ∧ r.2.1 95 7 = iI ((n / 2 : Nat) : Int) ∧ (∀ j, j < n → r.2.1 95 (152 + j) = iI (t j)) ∧ ∀ j : Nat, j ≠ 7 → (j < 152 ∨ 552 ≤ j) → r.2.1 95 j = M.1 95 j)) := by
  unfold F_MO_row
  rw [useM_f, bs]
  have u95 : (useM M).1 95 = M.1 95 := rfl
  have u0 : (useM M).1 94 0 = 0 := by
    unfold useM
    rw [mI_ix (by decide), mI_ix (by decide), mI_ix (by decide), mI_hit]
  obtain ⟨e7, hn, htp⟩ := hT
  have i0 : (0 : Int32) = iI 0 := rfl
  have i2 : (2 : Int32) = iI 2 := rfl
  generalize useM M = N at *
  have thr : rowG t n = false → wpO (F_MO_row_j69 true N) (fun r => (rowG t n = false → r.2.1 94 0 = 1 ∧ ∀ j, r.2.1 95 j = M.1 95 j) ∧ (rowG t n = true → r.2.1 94 0 = 0 ∧ r.1 = iI ((n / 2 : Nat) : Int) ∧ r.2.1 95 7 = iI ((n / 2 : Nat) : Int) ∧ (∀ j, j < n → r.2.1 95 (152 + j) = iI (t j)) ∧ ∀ j : Nat, j ≠ 7 → (j < 152 ∨ 552 ≤ j) → r.2.1 95 j = M.1 95 j)) := by
    intro hg
    unfold F_MO_row_j69
    exact wp_thr (fun _ => thr_t (wp_some ⟨fun _ => ⟨mI_hit, fun j => (mI_cell (by decide)).trans (congrFun u95 j)⟩, fun w => by rw [hg] at w; cases w⟩)) (fun q => nomatch q)
  have l21 : ∀ b : Bool, b = decide (n % 2 = 0) → wpO (F_MO_row_l21 b 0 N) (fun r => (rowG t n = false → r.2.1 94 0 = 1 ∧ ∀ j, r.2.1 95 j = M.1 95 j) ∧ (rowG t n = true → r.2.1 94 0 = 0 ∧ r.1 = iI ((n / 2 : Nat) : Int) ∧ r.2.1 95 7 = iI ((n / 2 : Nat) : Int) ∧ (∀ j, j < n → r.2.1 95 (152 + j) = iI (t j)) ∧ ∀ j : Nat, j ≠ 7 → (j < 152 ∨ 552 ≤ j) → r.2.1 95 j = M.1 95 j)) := by
    intro b hb
    unfold F_MO_row_l21
    refine wp_bind (Ψ := fun r => r = rowG t n) ?_ (fun r hr => ?_)
    · refine wp_iterS (P := fun k z => z.2 = iI (k : Int) ∧ z.1 = decide (n % 2 = 0 ∧ ∀ j, j < k → 0 ≤ t j ∧ t j ≤ 2)) n ?_ _ _ ⟨rfl, ?_⟩ (FUEL_big (by omega))
      · rintro k ⟨z1, z2⟩ hk ⟨e2, hz⟩
        dsimp only at e2 hz
        subst e2
        unfold F_MO_row_b21
        dsimp only
        rw [e7]
        refine wp_if (fun c => wp_some ?_) (fun c => ?_)
        · rw [iI_le (by omega) (by omega) (by omega) (by omega)] at c
          rw [hz, show k = n by omega]
          rfl
        rw [iI_le (by omega) (by omega) (by omega) (by omega)] at c
        refine wp_if (fun cz => ?_) (fun cz => wp_some ⟨by omega, iI_succ k, ?_⟩)
        · rw [hz] at cz
          have cz2 := of_decide_eq_true cz
          refine wp_t (inb_iI (by omega) (by omega) (by omega)) ?_
          obtain ⟨v, v1, v2⟩ := htp k (by omega)
          rw [clN (by omega), v]
          refine wp_within (fun q1 q2 => wp_tt (wp_some ⟨by omega, iI_succ k, ?_⟩)) (fun q1 => wp_ff (wp_some ⟨by omega, iI_succ k, ?_⟩))
          · rw [i0, iI_le (by omega) (by omega) (by omega) (by omega)] at q1
            rw [i2, iI_le (by omega) (by omega) (by omega) (by omega)] at q2
            refine (decide_eq_true ⟨cz2.1, fun j hj => ?_⟩).symm
            by_cases q : j = k
            · rw [q]
              exact ⟨q1, q2⟩
            · exact cz2.2 j (by omega)
          · rw [i0, i2, iI_le (by omega) (by omega) (by omega) (by omega), iI_le (by omega) (by omega) (by omega) (by omega)] at q1
            exact (decide_eq_false (fun w => q1 (w.2 k (by omega)))).symm
        · rw [hz] at cz
          refine (decide_eq_false (fun w => cz (decide_eq_true ⟨w.1, fun j hj => w.2 j (by omega)⟩))).symm
      · have g0 : ∀ m : Nat, m = 0 → b = decide (n % 2 = 0 ∧ ∀ j, j < m → 0 ≤ t j ∧ t j ≤ 2) := fun m hm => by
          rw [hb]
          by_cases q : n % 2 = 0
          · rw [decide_eq_true q, decide_eq_true ⟨q, fun j hj => absurd hj (by omega)⟩]
          · rw [decide_eq_false q, decide_eq_false (fun w => q w.1)]
        exact g0 0 rfl
    · unfold F_MO_row_j59
      rw [hr]
      refine wp_if (fun c => ?_) (fun c => thr (by cases hq : rowG t n with | true => exact absurd hq c | false => rfl))
      unfold F_MO_row_j69
      refine wp_thr (fun q => nomatch q) (fun _ => thr_f ?_)
      dsimp only
      unfold F_MO_row_l80
      refine wp_bind (Ψ := fun O => (∀ j : Nat, j < n → O.1 95 (152 + j) = N.1 97 j) ∧ (∀ j : Nat, ¬ (152 ≤ j ∧ j < 152 + n) → O.1 95 j = N.1 95 j) ∧ (∀ c j, c ≠ 95 → O.1 c j = N.1 c j)) ?_ (fun O hO => ?_)
      · refine wp_iterS (P := fun k z => z.1 = iI (k : Int) ∧ k ≤ n ∧ (∀ j : Nat, j < k → z.2.1 95 (152 + j) = N.1 97 j) ∧ (∀ j : Nat, ¬ (152 ≤ j ∧ j < 152 + n) → z.2.1 95 j = N.1 95 j) ∧ (∀ c j, c ≠ 95 → z.2.1 c j = N.1 c j)) n ?_ _ _ ⟨rfl, Nat.zero_le _, fun j q => absurd q (Nat.not_lt_zero _), fun _ _ => rfl, fun _ _ _ => rfl⟩ (FUEL_big (by omega))
        rintro k ⟨z1, O⟩ hk ⟨e1, -, o1, o2, o3⟩
        dsimp only at e1 o1 o2 o3
        subst e1
        unfold F_MO_row_b80
        dsimp only
        rw [o3 94 7 (by decide), e7]
        refine wp_if (fun cc => wp_some ⟨fun j hj => o1 j ?_, o2, o3⟩) (fun cc => ?_)
        · rw [iI_le (by omega) (by omega) (by omega) (by omega)] at cc
          omega
        rw [iI_le (by omega) (by omega) (by omega) (by omega)] at cc
        have e3 : 152 + iI (k : Int) = iI ((152 + k : Nat) : Int) := by
          rw [l32_152, iI_add]
          rfl
        rw [e3]
        refine wp_t (inb_iI (by omega) (by omega) (by omega)) (wp_t (inb_iI (by omega) (by omega) (by omega)) (wp_some ⟨by omega, iI_succ k, by omega, fun j hj => ?_, fun j hj => ?_, fun c j hc => (mI_cell hc).trans (o3 c j hc)⟩))
        · show (mSI O 95 _ _).1 95 (152 + j) = _
          rw [clN (by omega), clN (by omega)]
          by_cases q : j = k
          · rw [q, mI_hit, o3 97 k (by decide)]
          · rw [mI_ix (by omega)]
            exact o1 j (by omega)
        · show (mSI O 95 _ _).1 95 j = _
          rw [clN (by omega), mI_ix (by omega)]
          exact o2 j hj
      · obtain ⟨o1, o2, o3⟩ := hO
        unfold F_MO_row_j110
        have ed : iI (n : Int) / 2 = iI ((n / 2 : Nat) : Int) := idivN (A := 2) (by omega) (by decide)
        refine wp_t ib7 (wp_some ⟨fun w => ?_, fun _ => ⟨?_, ?_, ?_, fun j hj => ?_, fun j j7 hj => ?_⟩⟩)
        · rw [w] at c
          cases c
        · show (mSI O 95 _ _).1 94 0 = _
          rw [mI_cell (by decide), o3 94 0 (by decide), u0]
        · show (mSI O 95 _ _).1 94 7 / 2 = _
          rw [mI_cell (by decide), o3 94 7 (by decide), e7, ed]
        · show (mSI O 95 _ _).1 95 7 = _
          rw [tn7, mI_hit, o3 94 7 (by decide), e7, ed]
        · show (mSI O 95 _ _).1 95 (152 + j) = _
          rw [tn7, mI_ix (by omega), o1 j hj, (htp j hj).1]
        · show (mSI O 95 _ _).1 95 j = _
          rw [tn7, mI_ix j7, o2 j (by omega), u95]
  rw [e7, irm2 (by omega)]
  refine wp_if (fun c => l21 true ?_) (fun c => l21 false ?_)
  · rw [i0, iI_eq (by omega) (by omega) (by omega) (by omega)] at c
    exact (decide_eq_true (by omega)).symm
  · rw [i0, iI_eq (by omega) (by omega) (by omega) (by omega)] at c
    exact (decide_eq_false (by omega)).symm
theorem C_rowV {t : Nat → Int} {n : Nat} {M : Mem} (hT : CTp t n M) : wpO (F_LAW_row M) (fun r => (rowG t n = false → r.1 = 1 ∧ r.2.1 1 7 = M.1 1 7 ∧ ∀ j, r.2.2 7 j = M.2 7 j) ∧ (rowG t n = true → r.1 = 0 ∧ r.2.1 1 7 = iI ((n / 2 : Nat) : Int) ∧ (∀ j, j < 400 → r.2.2 7 j = M.2 29 j) ∧ r.2.2 121 0 = lI ((n / 2 : Nat) : Int))) := by
  have hn := hT.2.1
  unfold F_LAW_row F_KW_row
  rw [C_isRow hT, bs]
  cases hg : rowG t n with
  | false =>
    rw [if_neg (by decide)]
    unfold F_KW_row_j45
    rw [if_neg (by decide), hb_inl]
    exact wp_t rfl (wp_some ⟨fun _ => ⟨rfl, mI_cell (by decide), fun j => rfl⟩, fun w => nomatch w⟩)
  | true =>
    rw [if_pos rfl]
    obtain ⟨r2, e2, f2, c2⟩ := T_Row_takeFromQ 7 400 29 400 M (by decide)
    have ed : iI (n : Int) / 2 = iI ((n / 2 : Nat) : Int) := idivN (A := 2) (by omega) (by decide)
    rw [e2, bs, (f2 27 (by decide)).1 1, hT.1, ed]
    unfold F_KW_row_j45
    rw [if_pos rfl, hb_inr]
    have e17 : (mSI (mSI r2 1 7 (iI ((n / 2 : Nat) : Int))) 27 1 0).1 1 7 = iI ((n / 2 : Nat) : Int) := (mI_cell (by decide)).trans mI_hit
    refine wp_t ib01 (wp_some ⟨(fun w => nomatch w), fun _ => ⟨rfl, e17, fun j hj => ?_, ?_⟩⟩)
    · show (mSL _ 121 _ _).2 7 j = _
      rw [mL_cell (by decide)]
      exact c2 j hj (by decide) rfl
    · show (mSL _ 121 ((0 : Int32)).toNatClampNeg _).2 121 0 = _
      rw [tn0, mL_hit, e17, iI_l (by omega) (by omega)]
theorem V_row {M : Mem} (h : RY M) : wpO (F_LAW_row M) (fun r1 => wpO (F_MO_row r1.2) (fun r2 => RY r2.2 ∧ r2.2.1 94 0 = r1.1 ∧ (r1.1 = 0 → r2.2.2 121 0 = r2.1.toInt64))) := by
  refine wp2 (B := fun r1 r2 => RelY r2.2 ∧ r2.2.1 94 0 = r1.1 ∧ (r1.1 = 0 → r2.2.2 121 0 = r2.1.toInt64)) (G_row h.1) (fun r1 r2 e1 e2 => ?_) (fun r s p q => ⟨⟨p, q.1⟩, q.2⟩)
  obtain ⟨i, ra, tt⟩ := h.1
  obtain ⟨y1, y2, y3⟩ := h.2
  obtain ⟨n, hn⟩ : ∃ n : Nat, (M.1 94 5).toInt = n := ⟨(M.1 94 5).toInt.toNat, by have := i.2.2.1; omega⟩
  have hn4 : n ≤ 400 := by have := i.2.2.2; omega
  have e5 : M.1 94 5 = iI (n : Int) := by rw [← hn, iI_of]
  have hT : CTp (fun j => (M.1 97 j).toInt) n M := ⟨by rw [tt, e5], hn4, fun j hj => y3.2 j (by omega)⟩
  have f1 := wpO_of (T_LAW_row M) e1
  obtain ⟨cf, ct⟩ := wpO_of (C_rowV hT) e1
  obtain ⟨rk, ek1, ck1, ck2, ck4, ck5⟩ := C_row (M := M)
  have d16 : r1.2.1 1 6 = M.1 1 6 := by
    unfold F_LAW_row at e1
    rw [ek1] at e1
    obtain ⟨rq, N⟩ := rk
    cases rq with
    | inl E =>
      rw [hb_inl] at e1
      have := ck1 E rfl
      subst this
      rw [if_pos rfl] at e1
      cases e1
      exact ck2 6 (by decide)
    | inr v =>
      rw [hb_inr, if_pos ib01] at e1
      cases e1
      exact ck2 6 (by decide)
  have d95 : ∀ k j, 94 ≤ k → k ≤ 120 → r1.2.1 k j = M.1 k j := fun k j h1 h2 => (f1 k (by omega)).1 j
  have iN : InvR r1.2 := i.sm f1 (fun k q => by first | omega | (dsimp only at q; omega))
  have hRT : RTp (fun j => (M.1 97 j).toInt) n (useM r1.2) := by
    refine ⟨by rw [useM_7, d95 94 5 (by decide) (by decide), e5], hn4, fun j hj => ⟨?_, (y3.2 j (by omega)).2⟩⟩
    show r1.2.1 97 j = _
    rw [d95 97 j (by decide) (by decide), iI_of]
  obtain ⟨qf, qt⟩ := wpO_of (R_rowV iN hRT) e2
  have f2 := Q_MO_row r1.2 r2 e2
  have k5 := (wpO_of (K_rowS iN) e2).2.2
  have z04 : r2.2.1 0 4 = r2.2.1 94 9 := by rw [(f2 0 4 (by omega)).1, (f2 94 9 (by omega)).1, (f1 0 (by omega)).1 4, d95 94 9 (by decide) (by decide), y3.1]
  have zT : RelT r2.2 := ⟨z04, fun j hj => by rw [k5, li0] at hj; omega⟩
  have z3 : r2.2.1 94 3 = M.1 94 3 := (f2 94 3 (by omega)).1.trans (d95 94 3 (by decide) (by decide))
  have zI : ¬ r2.2.1 94 3 = 0 → relY (r2.2.1 14) (r2.2.2 18) (r2.2.2 20) (r2.2.1 96) := fun q => by
    rw [z3] at q
    exact (y2 q).cg (i.2.1 q) ((f2 14 6 (by omega)).1.trans ((f1 14 (by omega)).1 6)) ((f2 14 7 (by omega)).1.trans ((f1 14 (by omega)).1 7)) (fun j _ => (f2 18 j (by omega)).2.trans ((f1 18 (by omega)).2 j)) (fun j _ => (f2 20 j (by omega)).2.trans ((f1 20 (by omega)).2 j)) (fun j _ => (f2 96 j (by omega)).1.trans (d95 96 j (by decide) (by decide)))
  have z16 : r2.2.1 1 6 = M.1 1 6 := (f2 1 6 (by omega)).1.trans d16
  have z17 : r2.2.1 1 7 = r1.2.1 1 7 := (f2 1 7 (by omega)).1
  have z5 : ∀ j, r2.2.2 5 j = M.2 5 j := fun j => (f2 5 j (by omega)).2.trans ((f1 5 (by omega)).2 j)
  have z7 : ∀ j, r2.2.2 7 j = r1.2.2 7 j := fun j => (f2 7 j (by omega)).2
  cases hg : rowG (fun j => (M.1 97 j).toInt) n with
  | false =>
    obtain ⟨g1, g2⟩ := qf hg
    obtain ⟨h1, h2, h3⟩ := cf hg
    refine ⟨⟨y1.cg i.1 z16 (z17.trans h2) (fun j _ => z5 j) (fun j _ => (z7 j).trans (h3 j)) (fun j _ => (g2 j).trans (d95 95 j (by decide) (by decide))), zI, zT⟩, by rw [g1, h1], fun w => ?_⟩
    rw [h1] at w
    exact absurd w (by decide)
  | true =>
    obtain ⟨g1, g2, g3, g4, g6⟩ := qt hg
    obtain ⟨h1, h2, h3, h4⟩ := ct hg
    have gg := of_decide_eq_true hg
    have w95 : ∀ j : Nat, j ≠ 7 → (j < 152 ∨ 552 ≤ j) → r2.2.1 95 j = M.1 95 j := fun j a b => (g6 j a b).trans (d95 95 j (by decide) (by decide))
    have w5 := i.1.ways
    refine ⟨⟨⟨by rw [z16, y1.1, w95 5 (by decide) (by omega)], by rw [z17, h2, g3], fun w hw => ?_, fun j hj => ?_⟩, zI, zT⟩, by rw [g1, h1], fun _ => ?_⟩
    · rw [w95 5 (by decide) (by omega)] at hw
      exact (y1.2.2.1 w hw).cg (by omega) (i.1.way w hw).2.1 (fun j _ => z5 j) (fun j a b => w95 j (by omega) (by omega))
    · rw [g3, iI_toInt (by omega) (by omega)] at hj
      have hjn : j < n := by omega
      have b : 0 ≤ (M.1 97 j).toInt ∧ (M.1 97 j).toInt ≤ 2 := gg.2 j hjn
      rw [z7, h3 j (by omega), g4 j hjn, (y3.2 j (by omega)).1, iI_l (by omega) (by omega), show (M.1 97 j).toInt % 256 = (M.1 97 j).toInt by omega]
    · rw [(f2 121 0 (by omega)).2, h4, g2, iI_l (by omega) (by omega)]
/-! all -/
def U5 (M N : Mem) : Prop := ∀ j, j < 104 → N.2 5 j = M.2 5 j
theorem U5.rf {M : Mem} : U5 M M := fun _ _ => rfl
theorem U5.tr {M N O : Mem} (h : U5 M N) (h2 : U5 N O) : U5 M O := fun j hj => (h2 j hj).trans (h j hj)
theorem Same.U5 {S : Nat → Prop} {M N : Mem} (f : Same S M N) (hs : ¬ S 5) : U5 M N := fun j _ => (f 5 hs).2 j
theorem U5_put {i : Nat} {v : Int64} {M : Mem} (h : 104 ≤ i) (h2 : i < 117) : wpO (F_Row_put 5 117 (iI (i : Int)) v M) (fun N => U5 M N) := by
  rw [V_Row_put (by omega) (by omega) (by decide)]
  exact wp_some (fun j hj => mL_ix (j := ((i : Int)).toNat) (by omega))
theorem U5_spare {x : Int32} {M : Mem} : wpO (F_Well_putSpareWay x M) (fun N => U5 M N) := by
  have l104 : (104 : Int32) = iI ((104 : Nat) : Int) := rfl
  have l1 : (1 : Int32) = iI 1 := rfl
  have l2 : (2 : Int32) = iI 2 := rfl
  have l3 : (3 : Int32) = iI 3 := rfl
  have l4 : (4 : Int32) = iI 4 := rfl
  unfold F_Well_putSpareWay
  rw [l104]
  refine wp_bind (U5_put (by decide) (by decide)) (fun r1 h1 => ?_)
  unfold F_Well_putSpareWay_l16
  refine wp_bind (Ψ := fun N => U5 M N) ?_ (fun N hN => wp_some hN)
  refine wp_iterS (P := fun k z => z.1 = iI (k : Int) ∧ U5 M z.2) 2 ?_ _ _ ⟨rfl, h1⟩ (FUEL_big (by decide))
  rintro k ⟨z1, N⟩ hk ⟨e1, hN⟩
  dsimp only at e1 hN
  subst e1
  unfold F_Well_putSpareWay_b16
  dsimp only
  refine wp_if (fun _ => wp_some hN) (fun c => ?_)
  rw [l2, iI_le (by omega) (by omega) (by omega) (by omega)] at c
  have e0 : ((iI ((104 : Nat) : Int) + 1) + (4 * iI (k : Int))) = iI ((105 + 4 * k : Nat) : Int) := by
    rw [l1, l4, iI_mul, iI_add, iI_add]
    congr 1
  have e1 : iI ((105 + 4 * k : Nat) : Int) + 1 = iI ((106 + 4 * k : Nat) : Int) := by
    rw [l1, iI_add]
    congr 1
    omega
  have e2 : iI ((105 + 4 * k : Nat) : Int) + 2 = iI ((107 + 4 * k : Nat) : Int) := by
    rw [l2, iI_add]
    congr 1
    omega
  have e3 : iI ((105 + 4 * k : Nat) : Int) + 3 = iI ((108 + 4 * k : Nat) : Int) := by
    rw [l3, iI_add]
    congr 1
    omega
  rw [e0, e1, e2, e3]
  refine wp_bind (U5_put (by omega) (by omega)) (fun r2 h2 => ?_)
  refine wp_bind (U5_put (by omega) (by omega)) (fun r3 h3 => ?_)
  refine wp_bind (U5_put (by omega) (by omega)) (fun r4 h4 => ?_)
  refine wp_bind (U5_put (by omega) (by omega)) (fun r5 h5 => ?_)
  exact wp_some ⟨by omega, iI_succ k, (((hN.tr h2).tr h3).tr h4).tr h5⟩
theorem U5_all {x1 x2 : Int32} {M : Mem} : wpO (F_LAW_all x1 x2 M) (fun r => U5 M r.2) := by
  have j34 : ∀ (b : Bool) (N : Mem), U5 M N → wpO (F_KW_all_j34 x1 x2 b N) (fun r => (∀ E, r.1 = .inl E → False) ∧ U5 M r.2) := by
    intro b N hN
    have l64 : (64 : Int32) = iI 64 := rfl
    unfold F_KW_all_j34
    refine wp_bind (T_Answer_look 1 x1 N) (fun r5 f5 => ?_)
    have h5 := hN.tr (f5.U5 (by omega))
    unfold F_KW_all_l53
    refine wp_bind (Ψ := fun r => U5 M r.2.2) ?_ (fun r hr => ?_)
    · refine wp_iterS (P := fun k z => z.2.2.1 = iI (k : Int) ∧ U5 M z.2.2.2) 64 ?_ _ _ ⟨rfl, h5⟩ (FUEL_big (by decide))
      rintro k ⟨z1, z2, z3, O⟩ hk ⟨e1, hO⟩
      dsimp only at e1 hO
      subst e1
      unfold F_KW_all_b53
      dsimp only
      refine wp_if (fun _ => wp_some hO) (fun c => ?_)
      rw [l64, iI_le (by omega) (by omega) (by omega) (by omega)] at c
      refine wp_bind U5_spare (fun r6 h6 => ?_)
      refine wp_bind (T_Pair_look _ _ _ _ r6) (fun r7 f7 => ?_)
      have h7 := (hO.tr h6).tr (f7.U5 (by omega))
      have j120 : ∀ (Q : Mem), U5 M Q → wpO (F_KW_all_j120 x1 x2 b z1 z2 (iI (k : Int)) Q) (sumP (fun s' => k < 64 ∧ s'.2.2.1 = iI ((k + 1 : Nat) : Int) ∧ U5 M s'.2.2.2) (fun r => U5 M r.2.2)) := fun Q hQ => by
        unfold F_KW_all_j120
        exact wp_if (fun _ => wp_some ⟨by omega, iI_succ k, hQ⟩) (fun _ => wp_some ⟨by omega, iI_succ k, hQ⟩)
      refine wp_if (fun _ => ?_) (fun _ => ?_)
      · refine wp_bind (T_Pair_firstGain r7) (fun r9 _ => ?_)
        exact wp_if (fun _ => j120 _ h7) (fun _ => wp_some ⟨by omega, iI_succ k, h7⟩)
      · refine wp_bind (T_KW_isBestAnswer r7) (fun r8 f8 => ?_)
        have h8 := h7.tr (f8.U5 (by omega))
        exact wp_if (fun _ => j120 _ h8) (fun _ => wp_some ⟨by omega, iI_succ k, h8⟩)
    · unfold F_KW_all_j144
      exact wp_if (fun _ => wp_some ⟨(fun E q => by cases q), hr⟩) (fun _ => wp_some ⟨(fun E q => by cases q), hr⟩)
  obtain ⟨r, er, hE, -⟩ := T_KW_all x1 x2 M
  have hU : U5 M r.2 := by
    have : wpO (F_KW_all x1 x2 M) (fun r => U5 M r.2) := by
      unfold F_KW_all
      refine wp_x (T_KW_needWay x1 M) (fun E N _ s => s.U5 (by exact fun q => q)) (fun _ N1 s1 => ?_)
      refine wp_x (T_KW_needTwoActs N1) (fun E N _ s => (s1.trans s).U5 (by exact fun q => q)) (fun _ N2 s2 => ?_)
      refine wp_x (T_KW_needFree x1 N2) (fun E N _ s => ((s1.trans s2).trans s).U5 (by exact fun q => q)) (fun _ N3 s3 => ?_)
      refine wp_x (T_KW_needWhat x2 3 N3) (fun E N _ s => (((s1.trans s2).trans s3).trans s).U5 (by exact fun q => q)) (fun _ N4 s4 => ?_)
      have h4 : U5 M N4 := (((s1.trans s2).trans s3).trans s4).U5 (fun q => q)
      exact wp_if (fun _ => wp_mono (j34 _ _ h4) (fun _ q => q.2)) (fun _ => wp_if (fun _ => wp_mono (j34 _ _ h4) (fun _ q => q.2)) (fun _ => wp_mono (j34 _ _ h4) (fun _ q => q.2)))
    exact wpO_of this er
  unfold F_LAW_all
  rw [er]
  obtain ⟨rq, N⟩ := r
  cases rq with
  | inl E =>
    rw [hb_inl]
    have := hE E rfl
    simp only [List.mem_cons, List.not_mem_nil, or_false] at this
    rcases this with rfl | rfl | rfl
    · exact wp_t rfl (wp_some hU)
    · exact wp_f (by decide) (wp_t rfl (wp_some hU))
    · exact wp_f (by decide) (wp_f (by decide) (wp_t rfl (wp_some hU)))
  | inr v =>
    rw [hb_inr]
    exact wp_t ib01 (wp_some (hU.tr (fun j _ => mL_cell (by decide))))
theorem Y_all {x y : Int32} {M : Mem} (h : RY M) : wpO (F_LAW_all x y M) (fun r1 => wpO (F_MO_all x y r1.2) (fun r2 => RY r2.2)) := by
  refine wp2 (B := fun _ O => RelY O.2) (G_all h.1) (fun r s e e2 => ?_) (fun r s p q => ⟨p, q⟩)
  have f1 := wpO_of (T_LAW_all x y M) e
  have u1 := wpO_of (U5_all (x1 := x) (x2 := y)) e
  have iN : InvR r.2 := h.1.1.sm f1 (fun k q => by first | omega | (dsimp only at q; omega))
  have w := (wpO_of (E_allS (x := x) (y := y) iN.1) e2).2
  have f := Q_MO_all x y r.2 s e2
  have eq1 : eqY M r.2 := ⟨⟨(f1 1 (by omega)).1 6, (f1 1 (by omega)).1 7⟩, u1, fun j _ => (f1 7 (by omega)).2 j, ⟨(f1 14 (by omega)).1 6, (f1 14 (by omega)).1 7⟩, fun j _ => (f1 18 (by omega)).2 j, fun j _ => (f1 20 (by omega)).2 j, (f1 0 (by omega)).1 4, (f1 29 (by omega)).2⟩
  exact (h.2.cg h.1.1 eq1 (f1.rfY (fun k q => by first | omega | (dsimp only at q; omega)))).cg iN (f.eqY (fun k j q => by first | omega | (dsimp only at q; omega))) (f.rfY (fun k j q => by first | omega | (dsimp only at q; omega)) (fun j hj => w j (by unfold idY at hj; omega)))
