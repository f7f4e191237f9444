/-! ===== all: the reference's side; both ===== -/
abbrev rgL (j : Nat) : Prop := j = 131 ∨ (132 ≤ j ∧ j < 132 + 2) ∨ (135 ≤ j ∧ j < 135 + 6)
theorem R_allL {w : Nat} {V0 : Int} {W : Nat → Int32} {x2 : Int32} {FH FB : Nat → Bool} {M : Mem} (hM : M.1 95 = W) (hR : RIW W) (hw : (w : Int) < (W 5).toInt) (hP : M.1 94 19 = iI (W 1).toInt) (hQ : M.1 94 20 = iI (W 2).toInt) (v1 : M.2 106 0 = lI (rU V0 (dW W))) (v2 : M.2 107 0 = lI (rD V0 (dW W))) (hH : ∀ c, c < 64 → okF true W w V0 c (FH c)) (hB : ∀ c, c < 64 → okF false W w V0 c (FB c)) : wpO (F_MO_all_l92 (iI (w : Int)) x2 0 0 (-1) (-1) 63 M) (fun r => r.2.1 94 0 = M.1 94 0 ∧ r.1 = if x2 = 0 then iI (cnF FH 64 : Int) else if x2 = 1 then iI (cnF FB 64 : Int) else if x2 = 2 then iI (lsF FB 64) else iI (lsF FH 64)) := by
  obtain ⟨p1, pq, q12⟩ := hR.pq
  have w8 := hR.w8 hw
  unfold F_MO_all_l92
  refine wp_bind (Ψ := fun r => r.2.2.2.2.1 94 0 = M.1 94 0 ∧ r.1 = iI (cnF FH 64 : Int) ∧ r.2.1 = iI (cnF FB 64 : Int) ∧ r.2.2.1 = iI (lsF FB 64) ∧ r.2.2.2.1 = iI (lsF FH 64)) ?_ (fun r hr => ?_)
  · refine wp_iterS (P := fun (k : Nat) (z : Int32 × Int32 × Int32 × Int32 × Int32 × Mem) => z.2.2.2.2.1 = iI ((63 : Int) - k) ∧ k ≤ 64 ∧ ((∀ j, ¬ rgL j → z.2.2.2.2.2.1 95 j = W j) ∧ z.2.2.2.2.2.1 94 0 = M.1 94 0 ∧ z.2.2.2.2.2.1 94 19 = iI (W 1).toInt ∧ z.2.2.2.2.2.1 94 20 = iI (W 2).toInt ∧ z.2.2.2.2.2.2 106 0 = lI (rU V0 (dW W)) ∧ z.2.2.2.2.2.2 107 0 = lI (rD V0 (dW W))) ∧ z.1 = iI ((cnF FH 64 : Int) - cnF FH (64 - k)) ∧ z.2.1 = iI ((cnF FB 64 : Int) - cnF FB (64 - k)) ∧ (∃ v, z.2.2.1 = iI v ∧ lsS FB (64 - k) v) ∧ ∃ v, z.2.2.2.1 = iI v ∧ lsS FH (64 - k) v) 64 ?_ FUEL (0, 0, -1, -1, 63, M) ⟨rfl, by decide, ⟨fun j _ => by rw [hM], rfl, hP, hQ, v1, v2⟩, by rw [show (64 - 0 : Nat) = 64 from rfl, Int.sub_self]; rfl, by rw [show (64 - 0 : Nat) = 64 from rfl, Int.sub_self]; rfl, ⟨-1, rfl, Or.inr ⟨rfl, fun j h1 h2 => by omega⟩⟩, ⟨-1, rfl, Or.inr ⟨rfl, fun j h1 h2 => by omega⟩⟩⟩ (FUEL_big (by decide))
    rintro k ⟨z1, z2, z3, z4, z5, A⟩ hk ⟨e5, -, ⟨a1, a2, a3, a4, a5, a6⟩, e1, e2, ⟨vb, e3, sb⟩, ⟨vh, e4, sh⟩⟩
    dsimp only at e1 e2 e3 e4 e5 a1 a2 a3 a4 a5 a6
    subst e1
    subst e2
    subst e3
    subst e4
    subst e5
    unfold F_MO_all_b92
    dsimp only
    have l0 : (0 : Int32) = iI 0 := rfl
    refine wp_if (fun cc => ?_) (fun cc => ?_)
    · rw [l0, iI_lt (by omega) (by omega) (by omega) (by omega)] at cc
      have ek : k = 64 := by omega
      subst ek
      refine wp_some ⟨a2, ?_, ?_, ?_, ?_⟩
      · show iI ((cnF FH 64 : Int) - ((0 : Nat) : Int)) = iI (cnF FH 64 : Int)
        rw [show (cnF FH 64 : Int) - ((0 : Nat) : Int) = (cnF FH 64 : Int) by omega]
      · show iI ((cnF FB 64 : Int) - ((0 : Nat) : Int)) = iI (cnF FB 64 : Int)
        rw [show (cnF FB 64 : Int) - ((0 : Nat) : Int) = (cnF FB 64 : Int) by omega]
      · show iI vb = _
        rw [lsS.fin sb]
      · show iI vh = _
        rw [lsS.fin sh]
    rw [l0, iI_lt (by omega) (by omega) (by omega) (by omega)] at cc
    obtain ⟨c, hc⟩ : ∃ c, c = 63 - k := ⟨_, rfl⟩
    have hc6 : c < 64 := by omega
    have ec : iI ((63 : Int) - k) = iI (c : Int) := by
      congr 1
      omega
    have e64 : 64 - k = c + 1 := by omega
    have e63 : 64 - (k + 1) = c := by omega
    rw [ec]
    refine wp_bind (R_lays (c := c) (M := A) hc6) (fun B hB0 => ?_)
    obtain ⟨b1, b2, b3⟩ := hB0
    have eB : B.1 95 = layW W c := by
      funext j
      rw [b1 j]
      show (if rgL j then vlW c j else A.1 95 j) = (if rgL j then vlW c j else W j)
      by_cases q : rgL j
      · rw [if_pos q, if_pos q]
      · rw [if_neg q, if_neg q, a1 j q]
    have hRI := lay_RI hR hc6
    have kA := lay_k hR hw hc6
    have kB := hRI.2
    have bP : B.1 94 19 = iI (W 1).toInt := (b2 94 19 (by decide)).trans a3
    have bQ : B.1 94 20 = iI (W 2).toInt := (b2 94 20 (by decide)).trans a4
    unfold F_MO_firstOf
    rw [show (8 : Int32) = iI ((8 : Nat) : Int) from rfl]
    obtain ⟨Q, eQ, fQ, wQ⟩ := N_worths (M := B) (a := w) (b := 8) w8 (by decide) (by rw [eB]; exact kA) (by rw [eB]; exact kB) (by rw [eB]; exact hRI.br) bP bQ p1 pq q12
    rw [eQ, bs]
    have eQ95 : Q.1 95 = layW W c := fQ.w95.trans eB
    have qP : Q.1 94 19 = iI (W 1).toInt := (fQ.1 94 19 (by decide)).trans bP
    have qQ : Q.1 94 20 = iI (W 2).toInt := (fQ.1 94 20 (by decide)).trans bQ
    rw [eB] at wQ
    obtain ⟨L1, o1, t1⟩ := hH c hc6
    obtain ⟨L2, o2, t2⟩ := hB c hc6
    rw [if_pos rfl] at t1
    rw [if_neg (by decide)] at t2
    have wl : wIn (layW W c) w := lay_w hw
    have fst : F_MO_firstOf_l8 (iI (w : Int)) (iI ((8 : Nat) : Int)) 0 Q = some (iI (fgR (layW W c) w 8 (W 1).toInt (W 2).toInt (uM 35 L1) (dM 35 L1) 18 0), Q) := by
      have e := R_firstL8 (a := w) (b := 8) (p := (W 1).toInt) (q := (W 2).toInt) (M := L1) (N := Q) (by rw [eQ95]; exact hRI) (by rw [eQ95]; exact wl) (Or.inr rfl) qP qQ p1 pq q12 (by rw [eQ95]; exact o1) (by rw [eQ95]; exact fun t pe hp ht => o1.same kA kB p1 pq ht hp (wQ t pe ht hp))
      rw [eQ95] at e
      exact e
    rw [fst, bs]
    have mA := kA.moK
    have mB := kB.moK
    have st0 : stW (layW W c) w 8 0 := ⟨by omega, by omega⟩
    obtain ⟨u1, u2⟩ := o2.same kA kB p1 pq st0 (show 1 < 2 by decide) (wQ 0 1 st0 (by decide))
    have q6 : Q.2 106 0 = lI (rU V0 (dW W)) := by rw [fQ.2 106 0 (by decide), b3, a5]
    have q7 : Q.2 107 0 = lI (rD V0 (dW W)) := by rw [fQ.2 107 0 (by decide), b3, a6]
    have vb1 := fgR_b (W := layW W c) (a := w) (b := 8) (p := (W 1).toInt) (q := (W 2).toInt) (U := uM 35 L1) (D := dM 35 L1) 18 0 (by omega)
    have n1 : ((1 : Int32)).toNatClampNeg = 1 := by decide
    have dn : iI (c : Int) + (-1) = iI ((63 : Int) - ((k + 1 : Nat) : Int)) := by
      rw [tm1, iI_add]
      congr 1
      omega
    have st : (∀ j, ¬ rgL j → Q.1 95 j = W j) ∧ Q.1 94 0 = M.1 94 0 ∧ Q.1 94 19 = iI (W 1).toInt ∧ Q.1 94 20 = iI (W 2).toInt ∧ Q.2 106 0 = lI (rU V0 (dW W)) ∧ Q.2 107 0 = lI (rD V0 (dW W)) := ⟨fun j hj => by rw [eQ95]; exact if_neg hj, by rw [fQ.1 94 0 (by decide), b2 94 0 (by decide), a2], qP, qQ, q6, q7⟩
    have lH := cnF_le (F := FH) c
    have lB := cnF_le (F := FB) c
    rw [e64] at sb sh
    -- behind the count of those that hold
    have j120 : ∀ (h1 h6 : Int32), h1 = iI ((cnF FH 64 : Int) - cnF FH c) → (∃ v, h6 = iI v ∧ lsS FH c v) → wpO (F_MO_all_j120 (iI (w : Int)) x2 h1 (iI ((cnF FB 64 : Int) - cnF FB (64 - k))) (iI vb) h6 (iI (c : Int)) Q) (sumP (fun z => k < 64 ∧ (z.2.2.2.2.1 = iI ((63 : Int) - ((k + 1 : Nat) : Int)) ∧ k + 1 ≤ 64 ∧ ((∀ j, ¬ rgL j → z.2.2.2.2.2.1 95 j = W j) ∧ z.2.2.2.2.2.1 94 0 = M.1 94 0 ∧ z.2.2.2.2.2.1 94 19 = iI (W 1).toInt ∧ z.2.2.2.2.2.1 94 20 = iI (W 2).toInt ∧ z.2.2.2.2.2.2 106 0 = lI (rU V0 (dW W)) ∧ z.2.2.2.2.2.2 107 0 = lI (rD V0 (dW W))) ∧ z.1 = iI ((cnF FH 64 : Int) - cnF FH (64 - (k + 1))) ∧ z.2.1 = iI ((cnF FB 64 : Int) - cnF FB (64 - (k + 1))) ∧ (∃ v, z.2.2.1 = iI v ∧ lsS FB (64 - (k + 1)) v) ∧ ∃ v, z.2.2.2.1 = iI v ∧ lsS FH (64 - (k + 1)) v)) (fun r => r.2.2.2.2.1 94 0 = M.1 94 0 ∧ r.1 = iI (cnF FH 64 : Int) ∧ r.2.1 = iI (cnF FB 64 : Int) ∧ r.2.2.1 = iI (lsF FB 64) ∧ r.2.2.2.1 = iI (lsF FH 64))) := by
      intro h1 h6 eh1 eh6
      unfold F_MO_all_j120
      have u1' : Q.2 104 1 = lI (rU (uM 35 L2 0 1) (dM 35 L2 0)) := u1
      have u2' : Q.2 105 1 = lI (rD (uM 35 L2 0 1) (dM 35 L2 0)) := u2
      simp only [n1, tn0, u1', u2', q6, q7, e63, e64]
      have d1 : inb (1 : Int32) 18 := by decide
      have d2 : inb (0 : Int32) 3 := by decide
      have no : ¬ cdB W V0 L2 → (k < 64 ∧ (iI (c : Int) + (-1) = iI ((63 : Int) - ((k + 1 : Nat) : Int)) ∧ k + 1 ≤ 64 ∧ ((∀ j, ¬ rgL j → Q.1 95 j = W j) ∧ Q.1 94 0 = M.1 94 0 ∧ Q.1 94 19 = iI (W 1).toInt ∧ Q.1 94 20 = iI (W 2).toInt ∧ Q.2 106 0 = lI (rU V0 (dW W)) ∧ Q.2 107 0 = lI (rD V0 (dW W))) ∧ h1 = iI ((cnF FH 64 : Int) - cnF FH c) ∧ iI ((cnF FB 64 : Int) - cnF FB (c + 1)) = iI ((cnF FB 64 : Int) - cnF FB c) ∧ (∃ v, iI vb = iI v ∧ lsS FB c v) ∧ ∃ v, h6 = iI v ∧ lsS FH c v)) := fun nb => by
        have nf : ¬ FB c = true := fun w => nb (t2.mp w)
        refine ⟨by omega, dn, by omega, st, eh1, ?_, ⟨vb, rfl, lsS.f nf sb⟩, eh6⟩
        rw [cnF_s (k := c), if_neg nf]
      refine wp_t d1 (wp_t d2 (wp_if (fun c1 => wp_t d1 (wp_t d2 (wp_if (fun c2 => wp_some ?_) (fun c2 => wp_some (no (fun w => c2 w.2)))))) (fun c1 => wp_some (no (fun w => c1 w.1)))))
      have yf : FB c = true := t2.mpr ⟨c1, c2⟩
      refine ⟨by omega, dn, by omega, st, eh1, ?_, ⟨c, rfl, lsS.t (v := 0) yf hc6⟩, eh6⟩
      show iI ((cnF FB 64 : Int) - cnF FB (c + 1)) + 1 = _
      rw [cnF_s (k := c), if_pos yf, show (1 : Int32) = iI 1 from rfl, iI_add]
      congr 1
      omega
    refine wp_if (fun c1 => j120 _ _ ?_ ⟨vh, rfl, lsS.f ?_ sh⟩) (fun c1 => j120 _ _ ?_ ⟨c, rfl, lsS.t (v := 0) ?_ hc6⟩)
    · have nf : ¬ FH c = true := fun w => by
        have e := t1.mp w
        rw [l0, iI_le (by omega) (by omega) (by omega) (by omega)] at c1
        unfold cdH at e
        omega
      rw [e64, cnF_s (k := c), if_neg nf]
    · intro w
      have e := t1.mp w
      rw [l0, iI_le (by omega) (by omega) (by omega) (by omega)] at c1
      unfold cdH at e
      omega
    · have yf : FH c = true := t1.mpr (by
        rw [l0, iI_le (by omega) (by omega) (by omega) (by omega)] at c1
        unfold cdH
        omega)
      rw [e64, cnF_s (k := c), if_pos yf, show (1 : Int32) = iI 1 from rfl, iI_add]
      congr 1
      omega
    · exact t1.mpr (by
        rw [l0, iI_le (by omega) (by omega) (by omega) (by omega)] at c1
        unfold cdH
        omega)
  · obtain ⟨h0, h1, h2, h3, h4⟩ := hr
    unfold F_MO_all_j165
    refine wp_if (fun c => wp_some ⟨h0, by rw [if_pos c]; exact h1⟩) (fun c => wp_if (fun c2 => wp_some ⟨h0, by rw [if_neg c, if_pos c2]; exact h2⟩) (fun c2 => wp_if (fun c3 => wp_some ⟨h0, by rw [if_neg c, if_neg c2, if_pos c3]; exact h3⟩) (fun c3 => wp_some ⟨h0, by rw [if_neg c, if_neg c2, if_neg c3]; exact h4⟩)))
theorem V_all {x1 x2 : Int32} {M : Mem} (h : RY M) : wpO (F_LAW_all x1 x2 M) (fun r1 => wpO (F_MO_all x1 x2 r1.2) (fun r2 => RY r2.2 ∧ r2.2.1 94 0 = r1.1 ∧ (r1.1 = 0 → r2.2.2 121 0 = r2.1.toInt64))) := by
  refine wp2 (B := fun r1 r2 => r2.2.1 94 0 = r1.1 ∧ (r1.1 = 0 → r2.2.2 121 0 = r2.1.toInt64)) (Y_all h) (fun r1 r2 e1 e2 => ?_) (fun r s p q => ⟨p, q⟩)
  have f1 := wpO_of (T_LAW_all x1 x2 M) e1
  have f2 := Q_MO_all x1 x2 r1.2 r2 e2
  have cw := h.cw
  have hR := cw.2.1
  have e95 : r1.2.1 95 = M.1 95 := funext (f1 95 (by omega)).1
  have e121 : r2.2.2 121 0 = r1.2.2 121 0 := (f2 121 0 (by omega)).2
  have hN : (mSI r1.2 94 0 0).1 95 = M.1 95 := e95
  have n0 : (mSI r1.2 94 0 0).1 94 0 = 0 := mI_hit
  unfold F_LAW_all F_KW_all at e1
  unfold F_MO_all at e2
  generalize mSI r1.2 94 0 0 = N at *
  rw [R_noWay hN hR, bs] at e2
  by_cases c : wOk (M.1 95) x1
  · rw [decide_eq_true c] at e2
    rw [cw.way_ok c, xb_inr] at e1
    obtain ⟨w, rfl, hw⟩ := wOk_nat c
    have w8 := hR.w8 hw
    have wk := cw.wk hw
    have mk := wk.moK
    have ac := hR.acts
    have ebar : F_MO_isBarred (iI (w : Int)) N = some (barW (M.1 95) w) := by
      rw [N_isBarred (by omega) (by rw [hN]; exact wk), hN]
    change ((F_MO_throwsIf (b2i false) 1 N).bind _) = some r2 at e2
    rw [S_throws_f, bs, if_f1, ebar, bs] at e2
    have j40 : F_MO_all_j40 (iI (w : Int)) x2 true N = some r2 → r2.2.1 94 0 = 2 := fun q => by
      unfold F_MO_all_j40 at q
      rw [S_throws_t, bs, if_pos rfl] at q
      cases q
      exact mI_hit
    have ea : M.1 1 0 = M.1 95 0 := cw.2.2.1.1
    by_cases c2 : M.1 95 0 = 2
    · unfold F_KW_needTwoActs at e1
      rw [ea, if_pos c2, xb_inr, cw.free hw] at e1
      cases hq : barW (M.1 95) w with
      | true =>
        rw [hq, if_pos rfl, xb_inl, hb_inl, if_neg (by decide), if_pos rfl] at e1
        rw [hq, if_pos rfl] at e2
        cases e1
        exact ⟨j40 e2, fun w => absurd w nz2⟩
      | false =>
        rw [hq, if_neg (by decide), xb_inr] at e1
        rw [hq, if_neg (by decide), S_actMany, bs] at e2
        have ca : N.1 95 0 ≤ 2 := by
          rw [hN, c2]
          decide
        rw [if_pos ca] at e2
        unfold F_MO_all_j40 at e2
        rw [S_throws_f, bs, if_f1, S_within, bs] at e2
        by_cases c3 : 0 ≤ x2 ∧ x2 ≤ 3
        · rw [decide_eq_true c3, if_pos rfl] at e2
          rw [S_what_ok c3, xb_inr] at e1
          change F_MO_all_j62 (iI (w : Int)) x2 false N = some r2 at e2
          unfold F_MO_all_j62 at e2
          rw [S_throws_f, bs, if_f1] at e2
          have hf0 : ∀ (hold : Bool), wpO (F_KW_all_j34 (iI (w : Int)) x2 hold M) (fun r => ∃ f L, KN (M.1 95) 1 w f L ∧ (∀ m, m < mo (M.1 95) w → f m < aN (M.1 95)) ∧ (∀ m e, m < mo (M.1 95) w → e < aN (M.1 95) → avW (M.1 95) 1 w (nW (M.1 95) L) m e ≤ 0) ∧ ∃ F : Nat → Bool, (∀ c, c < 64 → okF hold (M.1 95) w (nW (M.1 95) L 0) c (F c)) ∧ r.1 = .inr (if 1 < x2 then iI (lsF F 64) else iI (cnF F 64 : Int))) := fun hold => by
            unfold F_KW_all_j34
            refine wp_bind (C_lookA (pr := 1) cw (by decide) hw) (fun L hL => ?_)
            obtain ⟨f, kL, rL, opt⟩ := hL
            refine wp_mono (C_allL kL hw (fun m hm => (rL m hm).1) rfl) (fun r hr => ?_)
            obtain ⟨F, hF, er⟩ := hr
            exact ⟨f, L, kL, fun m hm => (rL m hm).1, opt, F, hF, er⟩
          -- the reference, for any two such functions
          have ref : ∀ f L, KN (M.1 95) 1 w f L → (∀ m, m < mo (M.1 95) w → f m < aN (M.1 95)) → (∀ m e, m < mo (M.1 95) w → e < aN (M.1 95) → avW (M.1 95) 1 w (nW (M.1 95) L) m e ≤ 0) → ∀ FH FB : Nat → Bool, (∀ c, c < 64 → okF true (M.1 95) w (nW (M.1 95) L 0) c (FH c)) → (∀ c, c < 64 → okF false (M.1 95) w (nW (M.1 95) L 0) c (FB c)) → r2.2.1 94 0 = 0 ∧ r2.1 = if x2 = 0 then iI (cnF FH 64 : Int) else if x2 = 1 then iI (cnF FB 64 : Int) else if x2 = 2 then iI (lsF FB 64) else iI (lsF FH 64) := fun f L kL hf opt FH FB hH hB => by
            obtain ⟨Q, eQ, hQ⟩ := R_answers (M := N) (p := 1) (w := w) (fB := f) (VB := nW (M.1 95) L) (by rw [hN]; exact hR) (by decide) (by rw [hN]; exact hw) (by rw [hN]; exact hf) (by rw [hN]; exact kL.pe hw hf) (by rw [hN]; exact opt)
            obtain ⟨Q', eQ', i1, i2, i3⟩ := N_answers (p := 1) (w := w) (M := N) (by rw [hN]; exact hR) (by decide) (by rw [hN]; exact hw)
            rw [eQ] at eQ'
            cases eQ'
            rw [hN] at hQ i1 i2 i3
            obtain ⟨y1, y2, -, -⟩ := (hQ 0 (by omega)).1
            have z0 : Q.1 94 0 = 0 := by
              rw [((Q_MO_answers _ _ _ _ eQ) 94 0 (by omega)).1, n0]
            have e3 : F_MO_all_l92 (iI (w : Int)) x2 0 0 (-1) (-1) 63 Q = some r2 := by
              have eQ1 : F_MO_answers 1 (iI (w : Int)) N = some Q := eQ
              rw [eQ1, bs] at e2
              exact e2
            have t := wpO_of (R_allL (x2 := x2) i1 hR hw i2 i3 y1 y2 hH hB) e3
            exact ⟨t.1.trans z0, t.2⟩
          have hX : ∀ (z : (String ⊕ Int32) × Mem) (V : Int32), z.1 = .inr V → hbind (some z) (fun E1 M1 => if E1 = "java/lang/IndexOutOfBoundsException" then some ((1, M1)) else if E1 = "java/lang/IllegalStateException" then some ((2, M1)) else if E1 = "java/util/NoSuchElementException" then some ((3, M1)) else none) (fun r1 M1 => if inb ((0 : Int32)) 1 then some ((0, mSL M1 121 ((0 : Int32)).toNatClampNeg r1.toInt64)) else none) = some r1 → r1.1 = 0 ∧ r1.2.2 121 0 = V.toInt64 := fun z V ez ew => by
            obtain ⟨z1, z2⟩ := z
            dsimp only at ez
            subst ez
            rw [hb_inr, if_pos ib01] at ew
            cases ew
            refine ⟨rfl, ?_⟩
            show (mSL z2 121 ((0 : Int32)).toNatClampNeg V.toInt64).2 121 0 = V.toInt64
            rw [tn0, mL_hit]
          have d01 : ¬ (1 : Int32) < 0 := by decide
          have d13 : (1 : Int32) < 3 := by decide
          have d11 : ¬ (1 : Int32) < 1 := by decide
          have d12 : (1 : Int32) < 2 := by decide
          by_cases x0 : x2 = 0
          · rw [if_pos x0] at e1
            obtain ⟨z, ez, f, L, kL, hf, opt, F, hF, er⟩ := hf0 true
            rw [ez] at e1
            obtain ⟨g1, g2⟩ := hX z _ er e1
            obtain ⟨FB, hB⟩ := okF_ex (V0 := nW (M.1 95) L 0) false kL.1.1 hw
            obtain ⟨t1, t2⟩ := ref f L kL hf opt F FB hF hB
            rw [if_pos x0] at t2
            rw [x0, if_neg d01] at g2
            exact ⟨t1.trans g1.symm, fun _ => by rw [e121, g2, t2]⟩
          · rw [if_neg x0] at e1
            by_cases x3 : x2 = 3
            · rw [if_pos x3] at e1
              obtain ⟨z, ez, f, L, kL, hf, opt, F, hF, er⟩ := hf0 true
              rw [ez] at e1
              obtain ⟨g1, g2⟩ := hX z _ er e1
              obtain ⟨FB, hB⟩ := okF_ex (V0 := nW (M.1 95) L 0) false kL.1.1 hw
              obtain ⟨t1, t2⟩ := ref f L kL hf opt F FB hF hB
              rw [if_neg x0, if_neg (by rw [x3]; decide), if_neg (by rw [x3]; decide)] at t2
              rw [x3, if_pos d13] at g2
              exact ⟨t1.trans g1.symm, fun _ => by rw [e121, g2, t2]⟩
            · rw [if_neg x3] at e1
              obtain ⟨z, ez, f, L, kL, hf, opt, F, hF, er⟩ := hf0 false
              rw [ez] at e1
              obtain ⟨g1, g2⟩ := hX z _ er e1
              obtain ⟨FH, hH⟩ := okF_ex (V0 := nW (M.1 95) L 0) true kL.1.1 hw
              obtain ⟨t1, t2⟩ := ref f L kL hf opt FH F hH hF
              rw [if_neg x0] at t2
              by_cases x11 : x2 = 1
              · rw [if_pos x11] at t2
                rw [x11, if_neg d11] at g2
                exact ⟨t1.trans g1.symm, fun _ => by rw [e121, g2, t2]⟩
              · have x22 : x2 = 2 := by
                  have b := i2 c3
                  have t3 : (3 : Int32).toInt = 3 := by decide
                  rw [li0, t3] at b
                  have n1 : ¬ x2.toInt = 0 := fun q => x0 (by rw [← iI_of x2, q]; rfl)
                  have n2 : ¬ x2.toInt = 1 := fun q => x11 (by rw [← iI_of x2, q]; rfl)
                  have n3 : ¬ x2.toInt = 3 := fun q => x3 (by rw [← iI_of x2, q]; rfl)
                  have n4 : x2.toInt = 2 := by omega
                  rw [← iI_of x2, n4]
                  rfl
                rw [if_neg x11, if_pos x22] at t2
                rw [x22, if_pos d12] at g2
                exact ⟨t1.trans g1.symm, fun _ => by rw [e121, g2, t2]⟩
        · rw [decide_eq_false c3, if_neg (by decide)] at e2
          rw [S_what_no c3, xb_inl, hb_inl, if_neg (by decide), if_neg (by decide), if_pos rfl] at e1
          change F_MO_all_j62 (iI (w : Int)) x2 true N = some r2 at e2
          unfold F_MO_all_j62 at e2
          rw [S_throws_t, bs, if_pos rfl] at e2
          cases e1
          cases e2
          exact ⟨mI_hit, fun w => absurd w (show ¬ (3 : Int32) = 0 by decide)⟩
    · unfold F_KW_needTwoActs at e1
      rw [ea, if_neg c2, xb_inl, hb_inl, if_neg (by decide), if_pos rfl] at e1
      cases e1
      cases hq : barW (M.1 95) w with
      | true =>
        rw [hq, if_pos rfl] at e2
        exact ⟨j40 e2, fun w => absurd w nz2⟩
      | false =>
        rw [hq, if_neg (by decide), S_actMany, bs] at e2
        have ca : ¬ N.1 95 0 ≤ 2 := by
          rw [hN, le_i, show (2 : Int32).toInt = 2 by decide]
          intro q
          exact c2 (by rw [← iI_of (M.1 95 0), show (M.1 95 0).toInt = 2 by omega]; rfl)
        rw [if_neg ca] at e2
        exact ⟨j40 e2, fun w => absurd w nz2⟩
  · rw [decide_eq_false c] at e2
    rw [cw.way_no c, xb_inl, hb_inl, if_pos rfl] at e1
    change ((F_MO_throwsIf (b2i true) 1 N).bind _) = some r2 at e2
    rw [S_throws_t, bs, if_pos rfl] at e2
    cases e1
    cases e2
    exact ⟨mI_hit, fun w => absurd w nz1⟩
