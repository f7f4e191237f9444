/-! ===== best, answer ===== -/
theorem V_best {x1 x2 x3 : Int32} {M : Mem} (h : RY M) : wpO (F_LAW_best x1 x2 x3 M) (fun r1 => wpO (F_MO_best x1 x2 x3 r1.2) (fun r2 => RY r2.2 ∧ r2.2.1 94 0 = r1.1 ∧ (r1.1 = 0 → r2.2.2 121 0 = r2.1.toInt64))) := by
  refine wp2 (B := fun r1 r2 => r2.2.1 94 0 = r1.1 ∧ (r1.1 = 0 → r2.2.2 121 0 = r2.1.toInt64)) (Y_best h) (fun r1 r2 e1 e2 => ?_) (fun r s p q => ⟨p, q⟩)
  have f1 := wpO_of (T_LAW_best x1 x2 x3 M) e1
  have f2 := Q_MO_best x1 x2 x3 r1.2 r2 e2
  have cw := h.cw
  have hR := cw.2.1
  have e95 : r1.2.1 95 = M.1 95 := funext (f1 95 (by omega)).1
  have e121 : r2.2.2 121 0 = r1.2.2 121 0 := (f2 121 0 (by omega)).2
  have hN : (mSI r1.2 94 0 0).1 95 = M.1 95 := e95
  have n0 : (mSI r1.2 94 0 0).1 94 0 = 0 := mI_hit
  unfold F_LAW_best F_KW_best F_KW_needAnswer at e1
  unfold F_MO_best at e2
  generalize mSI r1.2 94 0 0 = N at *
  rw [S_noPerson, bs] at e2
  have jt : F_MO_best_j27 x1 x2 x3 true N = some r2 → r2.2.1 94 0 = 1 := fun q => by
    unfold F_MO_best_j27 at q
    rw [S_throws_t, bs, if_pos rfl] at q
    cases q
    exact mI_hit
  by_cases c1 : 0 ≤ x1 ∧ x1 ≤ 1
  · rw [decide_eq_true c1, if_neg (show ¬ (!true) = true by decide), R_noMood hN hR, bs] at e2
    rw [S_person_ok c1, xb_inr] at e1
    by_cases c2 : mdOk (M.1 95) x2 x3
    · rw [decide_eq_true c2, if_neg (show ¬ (!true) = true by decide)] at e2
      rw [cw.way_ok c2.1, xb_inr, cw.md c2.1, if_pos c2.2, xb_inr] at e1
      obtain ⟨w, m, rfl, rfl, hw, hm⟩ := mdOk_nat hR c2
      have b5 := i2 c1
      rw [li0, li1] at b5
      have ex1 : x1 = iI ((x1.toInt.toNat : Nat) : Int) := iI_nat b5.1
      have n1 : x1.toInt.toNat < 2 := by omega
      generalize x1.toInt.toNat = pr at *
      subst ex1
      have w8 := hR.w8 hw
      have wk := cw.wk hw
      have mk := wk.moK
      have ebar : F_MO_isBarred (iI (w : Int)) N = some (barW (M.1 95) w) := by
        rw [N_isBarred (by omega) (by rw [hN]; exact wk), hN]
      unfold F_MO_best_j27 at e2
      rw [S_throws_f, bs, if_f1, ebar, bs] at e2
      rw [cw.free hw] at e1
      cases hq : barW (M.1 95) w with
      | true =>
        rw [hq, if_pos rfl, xb_inl, xb_inl, hb_inl, if_neg (by decide), if_pos rfl] at e1
        rw [hq] at e2
        change ((F_MO_throwsIf (b2i true) 2 N).bind _) = some r2 at e2
        rw [S_throws_t, bs, if_pos rfl] at e2
        cases e1
        cases e2
        exact ⟨mI_hit, fun w => absurd w nz2⟩
      | false =>
        rw [hq, if_neg (by decide), xb_inr, xb_inr] at e1
        rw [hq] at e2
        change ((F_MO_throwsIf (b2i false) 2 N).bind _) = some r2 at e2
        rw [S_throws_f, bs, if_f1] at e2
        obtain ⟨L, eL, f, kL, rL, opt⟩ := C_lookA cw n1 hw
        have hf : ∀ m, m < mo (M.1 95) w → f m < aN (M.1 95) := fun m hm => (rL m hm).1
        obtain ⟨Q, eQ, hQ⟩ := R_answers (M := N) (p := pr) (w := w) (fB := f) (VB := nW (M.1 95) L) (by rw [hN]; exact hR) n1 (by rw [hN]; exact hw) (by rw [hN]; exact hf) (by rw [hN]; exact kL.pe hw hf) (by rw [hN]; exact opt)
        rw [hN] at hQ
        have z0 : Q.1 94 0 = 0 := by
          rw [((Q_MO_answers _ _ _ _ eQ) 94 0 (by omega)).1, n0]
        have ib : inb (iI (m : Int)) 3 := inb_iI (by omega) (by omega) (by omega)
        have cl : (iI (m : Int)).toNatClampNeg = m := clN (by omega)
        obtain ⟨a, ea, e0, h0, rfl, hz, hmin⟩ := C_actInA kL rL n1 hw hm
        rw [eL, bs, ea, bs, hb_inr, if_pos ib01] at e1
        rw [eQ, bs, if_pos ib, cl] at e2
        cases e1
        cases e2
        refine ⟨z0, fun _ => ?_⟩
        rw [e121]
        show (mSL L 121 ((0 : Int32)).toNatClampNeg (iI (e0 : Int)).toInt64).2 121 0 = (Q.1 108 m).toInt64
        rw [tn0, mL_hit, (hQ m hm).2 e0 h0 hz hmin]
    · rw [decide_eq_false c2, if_pos (show (!false) = true from rfl)] at e2
      have e1b : r1 = (1, M) := by
        by_cases c4 : wOk (M.1 95) x2
        · rw [cw.way_ok c4, xb_inr, cw.md c4, if_neg (fun w => c2 ⟨c4, w⟩), xb_inl, xb_inl, hb_inl, if_pos rfl] at e1
          exact (Option.some.inj e1).symm
        · rw [cw.way_no c4, xb_inl, xb_inl, hb_inl, if_pos rfl] at e1
          exact (Option.some.inj e1).symm
      rw [e1b]
      exact ⟨jt e2, fun w => absurd w nz1⟩
  · rw [decide_eq_false c1, if_pos (show (!false) = true from rfl)] at e2
    rw [S_person_no c1, xb_inl, xb_inl, hb_inl, if_pos rfl] at e1
    cases e1
    exact ⟨jt e2, fun w => absurd w nz1⟩
theorem V_answer {x1 x2 x3 x4 : Int32} {M : Mem} (h : RY M) : wpO (F_LAW_answer x1 x2 x3 x4 M) (fun r1 => wpO (F_MO_answer x1 x2 x3 x4 r1.2) (fun r2 => RY r2.2 ∧ r2.2.1 94 0 = r1.1 ∧ (r1.1 = 0 → r2.2.2 121 0 = r2.1))) := by
  refine wp2 (B := fun r1 r2 => r2.2.1 94 0 = r1.1 ∧ (r1.1 = 0 → r2.2.2 121 0 = r2.1)) (Y_answer h) (fun r1 r2 e1 e2 => ?_) (fun r s p q => ⟨p, q⟩)
  have f1 := wpO_of (T_LAW_answer x1 x2 x3 x4 M) e1
  have f2 := Q_MO_answer x1 x2 x3 x4 r1.2 r2 e2
  have cw := h.cw
  have hR := cw.2.1
  have e95 : r1.2.1 95 = M.1 95 := funext (f1 95 (by omega)).1
  have e121 : r2.2.2 121 0 = r1.2.2 121 0 := (f2 121 0 (by omega)).2
  have hN : (mSI r1.2 94 0 0).1 95 = M.1 95 := e95
  have n0 : (mSI r1.2 94 0 0).1 94 0 = 0 := mI_hit
  unfold F_LAW_answer F_KW_answer F_KW_needAnswer at e1
  unfold F_MO_answer at e2
  generalize mSI r1.2 94 0 0 = N at *
  rw [S_noPerson, bs] at e2
  have jt : F_MO_answer_j27 x1 x2 x3 x4 true N = some r2 → r2.2.1 94 0 = 1 := fun q => by
    unfold F_MO_answer_j27 at q
    rw [S_throws_t, bs, if_pos rfl] at q
    cases q
    exact mI_hit
  by_cases c1 : 0 ≤ x1 ∧ x1 ≤ 1
  · rw [decide_eq_true c1, if_neg (show ¬ (!true) = true by decide), R_noMood hN hR, bs] at e2
    rw [S_person_ok c1, xb_inr] at e1
    by_cases c2 : mdOk (M.1 95) x2 x3
    · rw [decide_eq_true c2, if_neg (show ¬ (!true) = true by decide)] at e2
      rw [cw.way_ok c2.1, xb_inr, cw.md c2.1, if_pos c2.2, xb_inr] at e1
      obtain ⟨w, m, rfl, rfl, hw, hm⟩ := mdOk_nat hR c2
      have b5 := i2 c1
      rw [li0, li1] at b5
      have ex1 : x1 = iI ((x1.toInt.toNat : Nat) : Int) := iI_nat b5.1
      have n1 : x1.toInt.toNat < 2 := by omega
      generalize x1.toInt.toNat = pr at *
      subst ex1
      have w8 := hR.w8 hw
      have wk := cw.wk hw
      have mk := wk.moK
      have ebar : F_MO_isBarred (iI (w : Int)) N = some (barW (M.1 95) w) := by
        rw [N_isBarred (by omega) (by rw [hN]; exact wk), hN]
      unfold F_MO_answer_j27 at e2
      rw [S_throws_f, bs, if_f1, ebar, bs] at e2
      rw [cw.free hw] at e1
      cases hq : barW (M.1 95) w with
      | true =>
        rw [hq, if_pos rfl, xb_inl, xb_inl, hb_inl, if_neg (by decide), if_pos rfl] at e1
        rw [hq] at e2
        change ((F_MO_throwsIf (b2i true) 2 N).bind _) = some r2 at e2
        rw [S_throws_t, bs, if_pos rfl] at e2
        cases e1
        cases e2
        exact ⟨mI_hit, fun w => absurd w nz2⟩
      | false =>
        rw [hq, if_neg (by decide), xb_inr, xb_inr] at e1
        rw [hq] at e2
        change ((F_MO_throwsIf (b2i false) 2 N).bind _) = some r2 at e2
        rw [S_throws_f, bs, if_f1] at e2
        obtain ⟨L, eL, f, kL, rL, opt⟩ := C_lookA cw n1 hw
        have hf : ∀ m, m < mo (M.1 95) w → f m < aN (M.1 95) := fun m hm => (rL m hm).1
        obtain ⟨Q, eQ, hQ⟩ := R_answers (M := N) (p := pr) (w := w) (fB := f) (VB := nW (M.1 95) L) (by rw [hN]; exact hR) n1 (by rw [hN]; exact hw) (by rw [hN]; exact hf) (by rw [hN]; exact kL.pe hw hf) (by rw [hN]; exact opt)
        rw [hN] at hQ
        have z0 : Q.1 94 0 = 0 := by
          rw [((Q_MO_answers _ _ _ _ eQ) 94 0 (by omega)).1, n0]
        have ib : inb (iI (m : Int)) 3 := inb_iI (by omega) (by omega) (by omega)
        have cl : (iI (m : Int)).toNatClampNeg = m := clN (by omega)
        obtain ⟨v1, v2, -, -⟩ := (hQ m hm).1
        rw [eL, bs, C_tellA kL hw hf hm, bs] at e1
        rw [eQ, bs] at e2
        unfold F_Fraction_part at e1
        by_cases c6 : x4 = 0
        · rw [if_pos c6, bs, hb_inr, if_pos ib01] at e1
          rw [if_pos c6, if_pos ib, cl] at e2
          cases e1
          cases e2
          refine ⟨z0, fun _ => ?_⟩
          rw [e121]
          show (mSL _ 121 ((0 : Int32)).toNatClampNeg _).2 121 0 = Q.2 106 m
          rw [tn0, mL_hit, v1, mL_ix (by decide), mL_hit]
        · rw [if_neg c6, bs, hb_inr, if_pos ib01] at e1
          rw [if_neg c6, if_pos ib, cl] at e2
          cases e1
          cases e2
          refine ⟨z0, fun _ => ?_⟩
          rw [e121]
          show (mSL _ 121 ((0 : Int32)).toNatClampNeg _).2 121 0 = Q.2 107 m
          rw [tn0, mL_hit, v2, mL_hit]
    · rw [decide_eq_false c2, if_pos (show (!false) = true from rfl)] at e2
      have e1b : r1 = (1, M) := by
        by_cases c4 : wOk (M.1 95) x2
        · rw [cw.way_ok c4, xb_inr, cw.md c4, if_neg (fun w => c2 ⟨c4, w⟩), xb_inl, xb_inl, hb_inl, if_pos rfl] at e1
          exact (Option.some.inj e1).symm
        · rw [cw.way_no c4, xb_inl, xb_inl, hb_inl, if_pos rfl] at e1
          exact (Option.some.inj e1).symm
      rw [e1b]
      exact ⟨jt e2, fun w => absurd w nz1⟩
  · rw [decide_eq_false c1, if_pos (show (!false) = true from rfl)] at e2
    rw [S_person_no c1, xb_inl, xb_inl, hb_inl, if_pos rfl] at e1
    cases e1
    exact ⟨jt e2, fun w => absurd w nz1⟩
