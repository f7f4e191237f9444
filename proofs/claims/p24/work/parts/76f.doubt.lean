/-! ===== doubt: the class's call; both ===== -/
theorem C_doubt {W : Nat → Int32} {a b p : Nat} {x4 : Int32} {P q f e : Int} {L : Mem} (ha : (a : Int) < (W 5).toInt) (hb : (b : Int) < (W 5).toInt) (hp : p < 2) (hd1 : ∀ m, m < mo W a → dz W a m ≤ 1) (hd2 : ∀ m, m < mo W b → dz W b m ≤ 1) (k2 : mo W a ≤ 2) (k4 : mo W b ≤ 2) (eP : (W 1).toInt = P) (eq : (W 2).toInt = q) (ef : (W 4).toInt = f) (ee : (W 3).toInt = e) (hL : PRS W a b P q L) (bD : 0 < dDn W a b P q f e ∧ dDn W a b P q f e ≤ 282429536481) (bU : -671052578678856 ≤ dUp W a b P q f e p ∧ dUp W a b P q f e p ≤ 671052578678856) (wD : 0 < rD (uM 35 L 0 p) (dM 35 L 0) ∧ rD (uM 35 L 0 p) (dM 35 L 0) ≤ 6561) (wU : -5845851 ≤ rU (uM 35 L 0 p) (dM 35 L 0) ∧ rU (uM 35 L 0 p) (dM 35 L 0) ≤ 5845851) : wpO (F_Pair_tellDoubted 93 (iI (p : Int)) x4 L) (fun N => N.2 93 0 = (if x4 = 0 then lI (rU (dUp W a b P q f e p) (dDn W a b P q f e)) else lI (rU (rU (uM 35 L 0 p) (dM 35 L 0) * rD (dUp W a b P q f e p) (dDn W a b P q f e) - rU (dUp W a b P q f e p) (dDn W a b P q f e) * rD (uM 35 L 0 p) (dM 35 L 0)) (rD (uM 35 L 0 p) (dM 35 L 0) * rD (dUp W a b P q f e p) (dDn W a b P q f e)))) ∧ N.2 93 1 = (if x4 = 0 then lI (rD (dUp W a b P q f e p) (dDn W a b P q f e)) else lI (rD (rU (uM 35 L 0 p) (dM 35 L 0) * rD (dUp W a b P q f e p) (dDn W a b P q f e) - rU (dUp W a b P q f e p) (dDn W a b P q f e) * rD (uM 35 L 0 p) (dM 35 L 0)) (rD (uM 35 L 0 p) (dM 35 L 0) * rD (dUp W a b P q f e p) (dDn W a b P q f e))))) := by
  have cw := hL.1
  have hR := cw.2.1
  have kA := cw.wk ha
  have kB := cw.wk hb
  have mA := kA.moK
  have mB := kB.moK
  obtain ⟨p1, p2, p9⟩ := hR.tom
  obtain ⟨m1, m2, m3⟩ := hR.mis
  rw [eP] at p1 p2
  rw [eq] at p2 p9
  rw [ee] at m1 m2
  rw [ef] at m2 m3
  obtain ⟨h2, h3, h4, h5⟩ := hL.2.1
  obtain ⟨f0, f1, f2, f3, f4, -⟩ := cw.2.2.1
  have hP : L.1 1 1 = iI P := by rw [f1, ← eP, iI_of]
  have hQ : L.1 1 2 = iI q := by rw [f2, ← eq, iI_of]
  have hE : L.1 1 3 = iI e := by rw [f3, ← ee, iI_of]
  have hF : L.1 1 4 = iI f := by rw [f4, ← ef, iI_of]
  have s0 : stW W a b 0 := ⟨by omega, by omega⟩
  have hC := pairS hR kA kB p1 p2 (show q ≤ 12 by omega)
  have d9 := (hL.2.2.2 0 s0).d9 hC
  obtain ⟨L1, L2, L3, L4, L5, L6⟩ := hL.2.2.2 0 s0
  have fL := fb_num (by omega) (show q ≤ 12 by omega) (L6 p hp) (by omega)
  unfold F_Pair_tellDoubted
  refine wp_bind (C_fillDoubts cw h2 h3 h4 h5 ha hb k2 k4 hd1 hd2 hP hQ hE hF (by omega) (by omega) (by omega) (by omega) m1 m2 m3) (fun R hRR => ?_)
  obtain ⟨fR, r49, r51⟩ := hRR
  unfold F_Pair_tellDoubted_l13
  have hCf : ∀ t, t < 16 → R.2 49 t = lI (dCf W a b P q f e t) := fun t ht => by
    have r := r49 (t / 4) (t % 4) (by omega) (by omega)
    rw [show 4 * (t / 4) + t % 4 = t by omega] at r
    exact r
  refine wp_bind (C_sum13 (C := dCf W a b P q f e) (B := fun s => BMt W a b q f s p) (o := 93) (x2 := x4) hCf hp (fun s hs => r51 s p hs hp)) (fun r hr => ?_)
  obtain ⟨v1, v2⟩ := hr
  rw [sum_D4B] at v1
  rw [sum_D4] at v2
  have e1 : r.1 = lI (dUp W a b P q f e p) := v1
  have e2 : r.2 = lI (dDn W a b P q f e) := v2
  rw [e1, e2]
  clear v1 v2 e1 e2 r49 r51 hCf
  have r41 : R.2 41 (2 * 0 + p) = lI (uM 35 L 0 p) := by
    rw [(fR 41 (by omega)).2]
    exact (lI_of _).symm
  have r43 : R.2 43 0 = lI (dM 35 L 0) := by
    rw [(fR 43 (by omega)).2]
    exact (lI_of _).symm
  generalize dUp W a b P q f e p = nn at *
  generalize dDn W a b P q f e = dd at *
  obtain ⟨u1, u2, u3, u4, u5, -⟩ := rUD (a := nn) bD.1
  have hge : (rU nn dd).natAbs ≤ nn.natAbs := Int.natAbs_ediv_le_natAbs _ _
  unfold F_Pair_tellDoubted_j73
  rw [C_be (by omega) (by omega) bD.1 (by omega), bs]
  have v0 : (mSL (mSL R 93 0 (lI (rU nn dd))) 93 1 (lI (rD nn dd))).2 93 0 = lI (rU nn dd) := by rw [mL_ix (by decide), mL_hit]
  have v1 : (mSL (mSL R 93 0 (lI (rU nn dd))) 93 1 (lI (rD nn dd))).2 93 1 = lI (rD nn dd) := mL_hit
  have g41 : (mSL (mSL R 93 0 (lI (rU nn dd))) 93 1 (lI (rD nn dd))).2 41 (2 * 0 + p) = lI (uM 35 L 0 p) := by rw [mL_cell (by decide), mL_cell (by decide), r41]
  have g43 : (mSL (mSL R 93 0 (lI (rU nn dd))) 93 1 (lI (rD nn dd))).2 43 0 = lI (dM 35 L 0) := by rw [mL_cell (by decide), mL_cell (by decide), r43]
  generalize mSL (mSL R 93 0 (lI (rU nn dd))) 93 1 (lI (rD nn dd)) = R2 at *
  by_cases cx : x4 = 0
  · rw [if_pos cx, if_pos cx, if_pos cx]
    exact wp_some ⟨v0, v1⟩
  rw [if_neg cx, if_neg cx, if_neg cx]
  have tw : F_Chain_tellWorth 35 93 0 (iI (p : Int)) R2 = some (mSL (mSL R2 93 0 (lI (rU (uM 35 L 0 p) (dM 35 L 0)))) 93 1 (lI (rD (uM 35 L 0 p) (dM 35 L 0)))) := by
    unfold F_Chain_tellWorth
    rw [show (0 : Int32) = iI ((0 : Nat) : Int) from rfl, ix2, V_Row_at (by omega) (by omega) (by decide), bs, V_Row_at (by omega) (by omega) (by decide), bs]
    show (F_Fraction_be 93 (R2.2 41 (2 * 0 + p)) (R2.2 43 0) R2).bind (fun r1 => some r1) = _
    rw [g41, g43, C_be (by omega) (by omega) L5 (by omega), bs]
  rw [tw, bs]
  generalize rU (uM 35 L 0 p) (dM 35 L 0) = U at *
  generalize rD (uM 35 L 0 p) (dM 35 L 0) = D at *
  have w0 : (mSL (mSL R2 93 0 (lI U)) 93 1 (lI D)).2 93 0 = lI U := by rw [mL_ix (by decide), mL_hit]
  have w1 : (mSL (mSL R2 93 0 (lI U)) 93 1 (lI D)).2 93 1 = lI D := mL_hit
  generalize mSL (mSL R2 93 0 (lI U)) 93 1 (lI D) = R3 at *
  have q6 := mulb (a := U) (b := rD nn dd) (m := 5845851) (n := 282429536481) (by omega) (by omega) (by omega) (by omega)
  have q7 := mulb (a := rU nn dd) (b := D) (m := 671052578678856) (n := 6561) (by omega) (by omega) (by omega) (by omega)
  have q8 := (mulb (a := D) (b := rD nn dd) (m := 6561) (n := 282429536481) (by omega) (by omega) (by omega) (by omega)).2
  have q9 := Int.mul_pos wD.1 u4
  rw [v0, v1, w0, w1, lI_mul, lI_mul, lI_sub, lI_mul, C_be (by omega) (by omega) q9 (by omega), bs]
  refine wp_some ⟨?_, mL_hit⟩
  show (mSL (mSL R3 93 0 _) 93 1 _).2 93 0 = _
  rw [mL_ix (by decide), mL_hit]
theorem V_doubt {x1 x2 x3 x4 x5 : Int32} {M : Mem} (h : RY M) : wpO (F_LAW_doubt x1 x2 x3 x4 x5 M) (fun r1 => wpO (F_MO_doubt x1 x2 x3 x4 x5 r1.2) (fun r2 => RY r2.2 ∧ r2.2.1 94 0 = r1.1 ∧ (r1.1 = 0 → r2.2.2 121 0 = r2.1))) := by
  refine wp2 (B := fun r1 r2 => r2.2.1 94 0 = r1.1 ∧ (r1.1 = 0 → r2.2.2 121 0 = r2.1)) (Y_doubt h) (fun r1 r2 e1 e2 => ?_) (fun r s p q => ⟨p, q⟩)
  have f1 := wpO_of (T_LAW_doubt x1 x2 x3 x4 x5 M) e1
  have f2 := Q_MO_doubt x1 x2 x3 x4 x5 r1.2 r2 e2
  have cw := h.cw
  have hR := cw.2.1
  have e95 : r1.2.1 95 = M.1 95 := funext (f1 95 (by omega)).1
  have e121 : r2.2.2 121 0 = r1.2.2 121 0 := (f2 121 0 (by omega)).2
  have hN : (mSI r1.2 94 0 0).1 95 = M.1 95 := e95
  have n0 : (mSI r1.2 94 0 0).1 94 0 = 0 := mI_hit
  unfold F_LAW_doubt F_KW_doubt at e1
  unfold F_MO_doubt at e2
  generalize mSI r1.2 94 0 0 = N at *
  have jt : F_MO_doubt_j34 x1 x2 x3 x4 x5 true N = some r2 → r2.2.1 94 0 = 1 := fun q => by
    unfold F_MO_doubt_j34 at q
    rw [S_throws_t, bs, if_pos rfl] at q
    cases q
    exact mI_hit
  have jt2 : F_MO_doubt_j82 x1 x2 x3 x4 x5 true N = some r2 → r2.2.1 94 0 = 2 := fun q => by
    unfold F_MO_doubt_j82 at q
    rw [S_throws_t, bs, if_pos rfl] at q
    cases q
    exact mI_hit
  rw [R_noWay hN hR, bs] at e2
  by_cases c1 : wOk (M.1 95) x1
  · rw [decide_eq_true c1, if_neg (show ¬ (!true) = true by decide), R_noWay hN hR, bs] at e2
    rw [cw.way_ok c1, xb_inr] at e1
    by_cases c2 : wOk (M.1 95) x2
    · rw [decide_eq_true c2, if_neg (show ¬ (!true) = true by decide), S_noPerson, bs] at e2
      rw [cw.way_ok c2, xb_inr] at e1
      by_cases c3 : 0 ≤ x3 ∧ x3 ≤ 1
      · rw [decide_eq_true c3, if_neg (show ¬ (!true) = true by decide)] at e2
        rw [S_person_ok c3, xb_inr] at e1
        obtain ⟨a, rfl, ha⟩ := wOk_nat c1
        obtain ⟨b, rfl, hb⟩ := wOk_nat c2
        have b5 := i2 c3
        rw [li0, li1] at b5
        have ex3 : x3 = iI ((x3.toInt.toNat : Nat) : Int) := iI_nat b5.1
        have n3 : x3.toInt.toNat < 2 := by omega
        generalize x3.toInt.toNat = p at *
        subst ex3
        have kA := cw.wk ha
        have kB := cw.wk hb
        have mA := kA.moK
        have mB := kB.moK
        have a8 := hR.w8 ha
        have b8 := hR.w8 hb
        have ac := hR.acts
        have ea : M.1 1 0 = M.1 95 0 := cw.2.2.1.1
        unfold F_MO_doubt_j34 at e2
        rw [S_throws_f, bs, if_f1, R_areB hN hR ha hb, bs] at e2
        rw [cw.free ha] at e1
        cases hA : barW (M.1 95) a with
        | true =>
          rw [hA, if_pos rfl, xb_inl, hb_inl, if_neg (by decide), if_pos rfl] at e1
          rw [hA] at e2
          cases e1
          exact ⟨jt2 e2, fun w => absurd w nz2⟩
        | false =>
          rw [hA, if_neg (by decide), xb_inr, cw.free hb] at e1
          cases hB : barW (M.1 95) b with
          | true =>
            rw [hB, if_pos rfl, xb_inl, hb_inl, if_neg (by decide), if_pos rfl] at e1
            rw [hA, hB] at e2
            cases e1
            exact ⟨jt2 e2, fun w => absurd w nz2⟩
          | false =>
            rw [hB, if_neg (by decide), xb_inr] at e1
            rw [hA, hB, if_neg (show ¬ (false || false) = true by decide), S_actMany, bs, hN] at e2
            unfold F_KW_needTwoActs at e1
            rw [ea] at e1
            by_cases c4 : M.1 95 0 = 2
            · rw [if_pos c4, xb_inr] at e1
              have ca : ¬ (2 : Int32) < M.1 95 0 := by
                rw [c4]
                decide
              have eA : F_MO_moodsOf (iI (a : Int)) N = some (iI (mo (M.1 95) a : Int)) := by
                rw [N_moods a8 (by rw [hN]; exact kA), hN]
              have eB : F_MO_moodsOf (iI (b : Int)) N = some (iI (mo (M.1 95) b : Int)) := by
                rw [N_moods b8 (by rw [hN]; exact kB), hN]
              rw [if_neg ca] at e2
              change ((F_MO_moodsOf (iI (a : Int)) N).bind _) = some r2 at e2
              rw [eA, bs] at e2
              unfold F_KW_needTwoMoods at e1
              rw [C_moodsOf cw ha, bs] at e1
              by_cases c5 : mo (M.1 95) a ≤ 2
              · have ca5 : iI (mo (M.1 95) a : Int) ≤ 2 := by
                  rw [l32_2, iI_le (by omega) (by omega) (by omega) (by omega)]
                  omega
                have cb5 : ¬ (2 : Int32) < iI (mo (M.1 95) a : Int) := by
                  rw [l32_2, iI_lt (by omega) (by omega) (by omega) (by omega)]
                  omega
                rw [if_pos ca5, xb_inr, C_moodsOf cw hb, bs] at e1
                rw [if_neg cb5] at e2
                change ((F_MO_moodsOf (iI (b : Int)) N).bind _) = some r2 at e2
                rw [eB, bs] at e2
                by_cases c6 : mo (M.1 95) b ≤ 2
                · have ca6 : iI (mo (M.1 95) b : Int) ≤ 2 := by
                    rw [l32_2, iI_le (by omega) (by omega) (by omega) (by omega)]
                    omega
                  rw [if_pos ca6, xb_inr] at e1
                  rw [if_pos ca6] at e2
                  change F_MO_doubt_j82 (iI (a : Int)) (iI (b : Int)) (iI (p : Int)) x4 x5 false N = some r2 at e2
                  have w2 : (M.1 95 0).toInt = 2 := by
                    rw [c4]
                    decide
                  have hd1 : ∀ m, m < mo (M.1 95) a → dz (M.1 95) a m ≤ 1 := fun m hm => by
                    have := barW_not hA hm
                    omega
                  have hd2 : ∀ m, m < mo (M.1 95) b → dz (M.1 95) b m ≤ 1 := fun m hm => by
                    have := barW_not hB hm
                    omega
                  obtain ⟨q1, q2, p1, pq, q9⟩ := cw.pq
                  obtain ⟨L, eL, hL⟩ := C_look (p := ((M.1 95) 1).toInt) (q := ((M.1 95) 2).toInt) cw ha hb p1 pq (by omega)
                  have hRN : RIW (N.1 95) := by
                    rw [hN]
                    exact hR
                  have rj := wpO_of (R_doubtJ (x4 := x4) (x5 := x5) (M0 := N) (L := L) hRN (by rw [hN]; exact ha) (by rw [hN]; exact hb) n3 (by rw [hN]; exact hd1) (by rw [hN]; exact hd2) (by rw [hN]; exact c5) (by rw [hN]; exact c6) rfl rfl rfl rfl (by rw [hN]; exact hL)) e2
                  rw [hN] at rj
                  obtain ⟨z0, bD, bU, wD, wU, ev⟩ := rj
                  obtain ⟨Q, eQ, Q0, Q1⟩ := C_doubt (x4 := x4) ha hb n3 hd1 hd2 c5 c6 rfl rfl rfl rfl hL bD bU wD wU
                  rw [q1, q2, eL, bs, eQ, bs] at e1
                  unfold F_Fraction_part at e1
                  by_cases cy : x5 = 0
                  · rw [if_pos cy, bs, hb_inr, if_pos ib01] at e1
                    cases e1
                    refine ⟨z0.trans n0, fun _ => ?_⟩
                    rw [e121]
                    show (mSL Q 121 ((0 : Int32)).toNatClampNeg (Q.2 93 0)).2 121 0 = r2.1
                    rw [tn0, mL_hit, Q0, ev, if_pos cy, if_pos cy]
                  · rw [if_neg cy, bs, hb_inr, if_pos ib01] at e1
                    cases e1
                    refine ⟨z0.trans n0, fun _ => ?_⟩
                    rw [e121]
                    show (mSL Q 121 ((0 : Int32)).toNatClampNeg (Q.2 93 1)).2 121 0 = r2.1
                    rw [tn0, mL_hit, Q1, ev, if_neg cy, if_neg cy]
                · have ca6 : ¬ iI (mo (M.1 95) b : Int) ≤ 2 := by
                    rw [l32_2, iI_le (by omega) (by omega) (by omega) (by omega)]
                    omega
                  rw [if_neg ca6, xb_inl, hb_inl, if_neg (by decide), if_pos rfl] at e1
                  rw [if_neg ca6] at e2
                  cases e1
                  exact ⟨jt2 e2, fun w => absurd w nz2⟩
              · have ca5 : ¬ iI (mo (M.1 95) a : Int) ≤ 2 := by
                  rw [l32_2, iI_le (by omega) (by omega) (by omega) (by omega)]
                  omega
                have cb5 : (2 : Int32) < iI (mo (M.1 95) a : Int) := by
                  rw [l32_2, iI_lt (by omega) (by omega) (by omega) (by omega)]
                  omega
                rw [if_neg ca5, xb_inl, hb_inl, if_neg (by decide), if_pos rfl] at e1
                rw [if_pos cb5] at e2
                cases e1
                exact ⟨jt2 e2, fun w => absurd w nz2⟩
            · rw [if_neg c4, xb_inl, hb_inl, if_neg (by decide), if_pos rfl] at e1
              have ca : (2 : Int32) < M.1 95 0 := by
                rw [lt_i, show (2 : Int32).toInt = 2 by decide]
                rcases Int.lt_or_le 2 (M.1 95 0).toInt with q | q
                · exact q
                · exact absurd (by rw [← iI_of (M.1 95 0), show (M.1 95 0).toInt = 2 by omega]; rfl) c4
              rw [if_pos ca] at e2
              cases e1
              exact ⟨jt2 e2, fun w => absurd w nz2⟩
      · rw [decide_eq_false c3, if_pos (show (!false) = true from rfl)] at e2
        rw [S_person_no c3, xb_inl, hb_inl, if_pos rfl] at e1
        cases e1
        exact ⟨jt e2, fun w => absurd w nz1⟩
    · rw [decide_eq_false c2, if_pos (show (!false) = true from rfl)] at e2
      rw [cw.way_no c2, xb_inl, hb_inl, if_pos rfl] at e1
      cases e1
      exact ⟨jt e2, fun w => absurd w nz1⟩
  · rw [decide_eq_false c1, if_pos (show (!false) = true from rfl)] at e2
    rw [cw.way_no c1, xb_inl, hb_inl, if_pos rfl] at e1
    cases e1
    exact ⟨jt e2, fun w => absurd w nz1⟩
