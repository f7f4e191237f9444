/-! ===== worth ===== -/
theorem i64w (z : Int32) : z.toInt64 = lI z.toInt := by
  apply Int64.toInt_inj.mp
  have h1 := i_lo z
  have h2 := i_hi z
  rw [Int32.toInt_toInt64, lI_toInt (by omega) (by omega)]
abbrev mdOk (W : Nat → Int32) (x m : Int32) : Prop := wOk W x ∧ 0 ≤ m ∧ m < iI (mo W x.toInt.toNat : Int)
theorem R_noMood {W : Nat → Int32} {x m : Int32} {M : Mem} (hW : M.1 95 = W) (h : RIW W) : F_MO_noMood x m M = some (!decide (mdOk W x m)) := by
  unfold F_MO_noMood
  rw [R_noWay hW h, bs]
  by_cases c : wOk W x
  · obtain ⟨e1, a5⟩ := wOk_nat2 c
    have r5 := h.ways
    have ok := h.way _ a5
    have k := ok.moK
    have em : F_MO_moodsOf x M = some (iI (mo W x.toInt.toNat : Int)) := by
      subst hW
      rw [e1, N_moods (by omega) ok, ← e1]
    rw [decide_eq_true c, if_neg (show ¬ (!true) = true by decide), em, bs, S_within, bs]
    have cc : (0 ≤ m ∧ m ≤ iI (mo W x.toInt.toNat : Int) - 1) ↔ (0 ≤ m ∧ m < iI (mo W x.toInt.toNat : Int)) := by
      rw [le_pred (by rw [le_i, li0, iI_toInt (by omega) (by omega)]; omega)]
    by_cases c2 : 0 ≤ m ∧ m < iI (mo W x.toInt.toNat : Int)
    · have c3 : mdOk W x m := ⟨c, c2⟩
      rw [decide_eq_true (cc.mpr c2), decide_eq_true c3]
      rfl
    · have c3 : ¬ mdOk W x m := fun w => c2 w.2
      rw [decide_eq_false (fun w => c2 (cc.mp w)), decide_eq_false c3]
      rfl
  · have c3 : ¬ mdOk W x m := fun w => c w.1
    rw [decide_eq_false c, decide_eq_false c3]
    rfl
theorem CW.md {W : Nat → Int32} {x m : Int32} {M : Mem} (h : CW W M) (c : wOk W x) : F_KW_needMood x m M = some (if 0 ≤ m ∧ m < iI (mo W x.toInt.toNat : Int) then .inr () else .inl "java/lang/IndexOutOfBoundsException", M) := by
  obtain ⟨e1, a5⟩ := wOk_nat2 c
  unfold F_KW_needMood
  by_cases c1 : m < 0
  · rw [if_pos c1, if_neg (fun w => by have := w.1; rw [le_i] at this; rw [lt_i] at c1; omega)]
  · rw [if_neg c1, show F_Well_moodsOf x M = some (iI (mo W x.toInt.toNat : Int)) by rw [e1, C_moodsOf h a5, ← e1], bs]
    by_cases c2 : m < iI (mo W x.toInt.toNat : Int)
    · rw [if_pos c2, if_pos ⟨n32.mp c1, c2⟩]
    · rw [if_neg c2, if_neg (fun w => c2 w.2)]
theorem mdOk_nat {W : Nat → Int32} {x m : Int32} (h : RIW W) (c : mdOk W x m) : ∃ a u : Nat, x = iI (a : Int) ∧ m = iI (u : Int) ∧ (a : Int) < (W 5).toInt ∧ u < mo W a := by
  obtain ⟨c1, c2, c3⟩ := c
  obtain ⟨e1, a5⟩ := wOk_nat2 c1
  have k := (h.way _ a5).moK
  rw [le_i, li0] at c2
  rw [lt_i, iI_toInt (by omega) (by omega)] at c3
  exact ⟨x.toInt.toNat, m.toInt.toNat, e1, iI_nat c2, a5, by omega⟩
theorem CW.pq {W : Nat → Int32} {M : Mem} (h : CW W M) : (M.1 1 1).toInt64 = lI (W 1).toInt ∧ (M.1 1 2).toInt64 = lI (W 2).toInt ∧ 1 ≤ (W 1).toInt ∧ (W 1).toInt < (W 2).toInt ∧ (W 2).toInt ≤ 9 := by
  have t := h.2.1.tom
  refine ⟨?_, ?_, t.1, t.2.1, t.2.2⟩
  · rw [h.2.2.1.2.1]
    exact i64w _
  · rw [h.2.2.1.2.2.1]
    exact i64w _
theorem V_worth {x1 x2 x3 x4 x5 x6 : Int32} {M : Mem} (h : RY M) : wpO (F_LAW_worth x1 x2 x3 x4 x5 x6 M) (fun r1 => wpO (F_MO_worth x1 x2 x3 x4 x5 x6 r1.2) (fun r2 => RY r2.2 ∧ r2.2.1 94 0 = r1.1 ∧ (r1.1 = 0 → r2.2.2 121 0 = r2.1))) := by
  refine wp2 (B := fun r1 r2 => r2.2.1 94 0 = r1.1 ∧ (r1.1 = 0 → r2.2.2 121 0 = r2.1)) (Y_worth h) (fun r1 r2 e1 e2 => ?_) (fun r s p q => ⟨p, q⟩)
  have f1 := wpO_of (T_LAW_worth x1 x2 x3 x4 x5 x6 M) e1
  have f2 := Q_MO_worth x1 x2 x3 x4 x5 x6 r1.2 r2 e2
  have cw := h.cw
  have hR := cw.2.1
  have e95 : r1.2.1 95 = M.1 95 := funext (f1 95 (by omega)).1
  have e121 : r2.2.2 121 0 = r1.2.2 121 0 := (f2 121 0 (by omega)).2
  have hN : (mSI r1.2 94 0 0).1 95 = M.1 95 := e95
  have n0 : (mSI r1.2 94 0 0).1 94 0 = 0 := mI_hit
  unfold F_LAW_worth F_KW_worth at e1
  unfold F_MO_worth at e2
  generalize mSI r1.2 94 0 0 = N at *
  rw [R_noMood hN hR, bs, R_noMood hN hR, bs, S_noPerson, bs] at e2
  have jt : F_MO_worth_j38 x1 x2 x3 x4 x5 x6 true N = some r2 → r2.2.1 94 0 = 1 := fun q => by
    unfold F_MO_worth_j38 at q
    rw [S_throws_t, bs, if_pos rfl] at q
    cases q
    exact mI_hit
  by_cases c1 : mdOk (M.1 95) x1 x2
  · rw [decide_eq_true c1, if_neg (show ¬ (!true) = true by decide)] at e2
    rw [cw.way_ok c1.1, xb_inr, cw.md c1.1, if_pos c1.2, xb_inr] at e1
    by_cases c3 : mdOk (M.1 95) x3 x4
    · rw [decide_eq_true c3, if_neg (show ¬ (!true) = true by decide)] at e2
      rw [cw.way_ok c3.1, xb_inr, cw.md c3.1, if_pos c3.2, xb_inr] at e1
      by_cases c5 : 0 ≤ x5 ∧ x5 ≤ 1
      · rw [decide_eq_true c5, if_neg (show ¬ (!true) = true by decide)] at e2
        rw [S_person_ok c5, xb_inr] at e1
        obtain ⟨a, x, rfl, rfl, ha, hx⟩ := mdOk_nat hR c1
        obtain ⟨b, y, rfl, rfl, hb, hy⟩ := mdOk_nat hR c3
        have b5 := i2 c5
        rw [li0, li1] at b5
        have ex5 : x5 = iI ((x5.toInt.toNat : Nat) : Int) := iI_nat b5.1
        have n5 : x5.toInt.toNat < 2 := by omega
        generalize x5.toInt.toNat = pe at *
        subst ex5
        unfold F_MO_worth_j38 at e2
        rw [S_throws_f, bs, if_f1, R_areB hN hR ha hb, bs] at e2
        rw [cw.free ha] at e1
        cases hA : barW (M.1 95) a with
        | true =>
          rw [hA, if_pos rfl, xb_inl, hb_inl, if_neg (by decide), if_pos rfl] at e1
          rw [hA] at e2
          change ((F_MO_throwsIf (b2i true) 2 N).bind _) = some r2 at e2
          rw [S_throws_t, bs, if_pos rfl] at e2
          cases e1
          cases e2
          exact ⟨mI_hit, fun w => absurd w nz2⟩
        | false =>
          rw [hA, if_neg (by decide), xb_inr, cw.free hb] at e1
          rw [hA] at e2
          cases hB : barW (M.1 95) b with
          | true =>
            rw [hB, if_pos rfl, xb_inl, hb_inl, if_neg (by decide), if_pos rfl] at e1
            rw [hB] at e2
            change ((F_MO_throwsIf (b2i true) 2 N).bind _) = some r2 at e2
            rw [S_throws_t, bs, if_pos rfl] at e2
            cases e1
            cases e2
            exact ⟨mI_hit, fun w => absurd w nz2⟩
          | false =>
            rw [hB, if_neg (by decide), xb_inr] at e1
            rw [hB] at e2
            change ((F_MO_throwsIf (b2i false) 2 N).bind _) = some r2 at e2
            rw [S_throws_f, bs, if_f1] at e2
            obtain ⟨q1, q2, p1, pq, q9⟩ := cw.pq
            have kA := cw.wk ha
            have kB := cw.wk hb
            have mA := kA.moK
            have mB := kB.moK
            obtain ⟨L, eL, hL⟩ := C_look (p := ((M.1 95) 1).toInt) (q := ((M.1 95) 2).toInt) cw ha hb p1 pq (by omega)
            have hC := pairS hR kA kB p1 pq (show ((M.1 95) 2).toInt ≤ 12 by omega)
            have hst : stW (M.1 95) a b (3 * x + y) := ⟨by omega, by omega⟩
            rw [q1, q2, eL, bs, C_tell kA kB (by omega) (by omega) hL hC hst n5, bs] at e1
            rw [N_plain, bs] at e2
            have hRN : RIW (N.1 95) := by
              rw [hN]
              exact hR
            obtain ⟨Q, eQ, hQ1, hQ2⟩ := N_worthsP hRN (by rw [hN]; exact ha) (by rw [hN]; exact hb)
            rw [hN] at hQ2
            rw [eQ, bs] at e2
            obtain ⟨v1, v2⟩ := hL.same kA kB p1 pq hst n5 (hQ2 _ _ hst n5)
            have ix : ((2 * ((3 * iI (x : Int)) + iI (y : Int))) + iI (pe : Int)) = iI ((2 * (3 * x + y) + pe : Nat) : Int) := by
              rw [l32n_2, l32n_3, iI_pm, iI_pa, iI_pm, iI_pa]
            have ib : inb (iI ((2 * (3 * x + y) + pe : Nat) : Int)) 18 := inb_iI (by omega) (by omega) (by omega)
            have z0 : Q.1 94 0 = 0 := by
              rw [hQ1.1 94 0 (by decide)]
              show (plM N).1 94 0 = 0
              unfold plM
              rw [mI_ix (by decide), mI_ix (by decide), n0]
            rw [ix] at e2
            have cl : (iI ((2 * (3 * x + y) + pe : Nat) : Int)).toNatClampNeg = 2 * (3 * x + y) + pe := clN (by omega)
            unfold F_Fraction_part at e1
            by_cases c6 : x6 = 0
            · rw [if_pos c6, bs, hb_inr, if_pos ib01] at e1
              rw [if_pos c6, if_pos ib, cl] at e2
              cases e1
              cases e2
              refine ⟨z0, fun _ => ?_⟩
              rw [e121]
              show (mSL _ 121 ((0 : Int32)).toNatClampNeg _).2 121 0 = Q.2 104 (2 * (3 * x + y) + pe)
              rw [tn0, mL_hit, v1, mL_ix (by decide), mL_hit]
            · rw [if_neg c6, bs, hb_inr, if_pos ib01] at e1
              rw [if_neg c6, if_pos ib, cl] at e2
              cases e1
              cases e2
              refine ⟨z0, fun _ => ?_⟩
              rw [e121]
              show (mSL _ 121 ((0 : Int32)).toNatClampNeg _).2 121 0 = Q.2 105 (2 * (3 * x + y) + pe)
              rw [tn0, mL_hit, v2, mL_hit]
      · rw [decide_eq_false c5, if_pos (show (!false) = true from rfl)] at e2
        rw [S_person_no c5, xb_inl, hb_inl, if_pos rfl] at e1
        cases e1
        exact ⟨jt e2, fun w => absurd w nz1⟩
    · rw [decide_eq_false c3, if_pos (show (!false) = true from rfl)] at e2
      have e1b : r1 = (1, M) := by
        by_cases c4 : wOk (M.1 95) x3
        · rw [cw.way_ok c4, xb_inr, cw.md c4, if_neg (fun w => c3 ⟨c4, w⟩), xb_inl, hb_inl, if_pos rfl] at e1
          exact (Option.some.inj e1).symm
        · rw [cw.way_no c4, xb_inl, hb_inl, if_pos rfl] at e1
          exact (Option.some.inj e1).symm
      rw [e1b]
      exact ⟨jt e2, fun w => absurd w nz1⟩
  · rw [decide_eq_false c1, if_pos (show (!false) = true from rfl)] at e2
    have e1b : r1 = (1, M) := by
      by_cases c4 : wOk (M.1 95) x1
      · rw [cw.way_ok c4, xb_inr, cw.md c4, if_neg (fun w => c1 ⟨c4, w⟩), xb_inl, hb_inl, if_pos rfl] at e1
        exact (Option.some.inj e1).symm
      · rw [cw.way_no c4, xb_inl, hb_inl, if_pos rfl] at e1
        exact (Option.some.inj e1).symm
    rw [e1b]
    exact ⟨jt e2, fun w => absurd w nz1⟩
