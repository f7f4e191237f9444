/-! ===== mild: both sides ===== -/
def mldS (G : Nat → Prop) (V : Int) : Prop := (∃ D : Nat, D ≤ 9 ∧ V = (D : Int) ∧ ¬ G D ∧ ∀ D', D' < D → G D') ∨ (V = -1 ∧ ∀ D, D ≤ 9 → G D)
theorem mldS.uq {G : Nat → Prop} {V V' : Int} (h : mldS G V) (h' : mldS G V') : V = V' := by
  rcases h with ⟨D, h1, h2, h3, h4⟩ | ⟨h1, h2⟩
  · rcases h' with ⟨D', k1, k2, k3, k4⟩ | ⟨k1, k2⟩
    · rcases Nat.lt_trichotomy D D' with c | c | c
      · exact absurd (k4 D c) h3
      · omega
      · exact absurd (h4 D' c) k3
    · exact absurd (k2 D h1) h3
  · rcases h' with ⟨D', k1, k2, k3, k4⟩ | ⟨k1, k2⟩
    · exact absurd (h2 D' k1) k3
    · omega
abbrev acOk (W : Nat → Int32) (x : Int32) : Prop := 0 ≤ x ∧ x < W 0
theorem acOk_nat {W : Nat → Int32} {x : Int32} {A : Nat} (h : acOk W x) (hA : W 0 = iI (A : Int)) (a3 : A ≤ 3) : ∃ a : Nat, x = iI (a : Int) ∧ a < A := by
  obtain ⟨h1, h2⟩ := h
  rw [hA] at h2
  rw [le_i, li0] at h1
  rw [lt_i, iI_toInt (by omega) (by omega)] at h2
  exact ⟨x.toInt.toNat, iI_nat h1, by omega⟩
abbrev ac4 (W : Nat → Int32) (x y z u : Int32) : Prop := acOk W x ∧ acOk W y ∧ acOk W z ∧ acOk W u
theorem R_mildV {x1 x2 x3 x4 : Int32} {A : Nat} {M : Mem} (h : RIW (M.1 95)) (hA : M.1 95 0 = iI (A : Int)) (a2 : 2 ≤ A) (a3 : A ≤ 3) : wpO (F_MO_mild x1 x2 x3 x4 M) (fun r => (¬ ac4 (M.1 95) x1 x2 x3 x4 ∧ r.2.1 94 0 = 1) ∨ (ac4 (M.1 95) x1 x2 x3 x4 ∧ r.2.1 94 0 = 0 ∧ ∀ a b c d : Nat, x1 = iI (a : Int) → x2 = iI (b : Int) → x3 = iI (c : Int) → x4 = iI (d : Int) → a < A → b < A → c < A → d < A → ∃ V, r.1 = iI V ∧ mldS (fun D => ∃ pe, pe < 2 ∧ gainP (M.1 95) A a b c d (M.1 95 1).toInt (M.1 95 2).toInt D pe) V)) := by
  have w0 : (0 : Int32) ≤ (mSI M 94 0 0).1 95 0 := by
    show (0 : Int32) ≤ M.1 95 0
    rw [hA, show (0 : Int32) = iI 0 from rfl, iI_le (by omega) (by omega) (by omega) (by omega)]
    omega
  have bad : (¬ ac4 (M.1 95) x1 x2 x3 x4) → wpO (F_MO_mild_j44 x1 x2 x3 x4 true (mSI M 94 0 0)) (fun r => (¬ ac4 (M.1 95) x1 x2 x3 x4 ∧ r.2.1 94 0 = 1) ∨ (ac4 (M.1 95) x1 x2 x3 x4 ∧ r.2.1 94 0 = 0 ∧ ∀ a b c d : Nat, x1 = iI (a : Int) → x2 = iI (b : Int) → x3 = iI (c : Int) → x4 = iI (d : Int) → a < A → b < A → c < A → d < A → ∃ V, r.1 = iI V ∧ mldS (fun D => ∃ pe, pe < 2 ∧ gainP (M.1 95) A a b c d (M.1 95 1).toInt (M.1 95 2).toInt D pe) V)) := fun no => by
    unfold F_MO_mild_j44
    rw [S_throws_t, bs]
    refine wp_t rfl (wp_some (Or.inl ⟨no, ?_⟩))
    exact mI_hit
  unfold F_MO_mild
  rw [S_noAct w0, bs]
  by_cases c1 : acOk (M.1 95) x1
  · rw [decide_eq_true (show 0 ≤ x1 ∧ x1 < (mSI M 94 0 0).1 95 0 from c1)]
    refine wp_f (by decide) ?_
    rw [S_noAct w0, bs]
    by_cases c2 : acOk (M.1 95) x2
    · rw [decide_eq_true (show 0 ≤ x2 ∧ x2 < (mSI M 94 0 0).1 95 0 from c2)]
      refine wp_f (by decide) ?_
      rw [S_noAct w0, bs]
      by_cases c3 : acOk (M.1 95) x3
      · rw [decide_eq_true (show 0 ≤ x3 ∧ x3 < (mSI M 94 0 0).1 95 0 from c3)]
        refine wp_f (by decide) ?_
        rw [S_noAct w0, bs]
        by_cases c4 : acOk (M.1 95) x4
        · rw [decide_eq_true (show 0 ≤ x4 ∧ x4 < (mSI M 94 0 0).1 95 0 from c4)]
          refine wp_f (by decide) ?_
          obtain ⟨a, rfl, ha⟩ := acOk_nat c1 hA a3
          obtain ⟨b, rfl, hb⟩ := acOk_nat c2 hA a3
          obtain ⟨c, rfl, hc⟩ := acOk_nat c3 hA a3
          obtain ⟨d, rfl, hd⟩ := acOk_nat c4 hA a3
          obtain ⟨p1, pq, -⟩ := h.pq
          have q9 := h.tom.2.2
          unfold F_MO_mild_j44
          rw [S_throws_f, bs, if_f1]
          show wpO ((F_MO_plainTomorrow (mSI M 94 0 0)).bind _) _
          rw [N_plain, bs]
          have hP : (plM (mSI M 94 0 0)).1 94 19 = iI (M.1 95 1).toInt := plM_P _
          have hQ : (plM (mSI M 94 0 0)).1 94 20 = iI (M.1 95 2).toInt := plM_Q _
          have e95 : (plM (mSI M 94 0 0)).1 95 = M.1 95 := rfl
          have z0 : (plM (mSI M 94 0 0)).1 94 0 = 0 := by
            unfold plM
            rw [mI_ix (by decide), mI_ix (by decide), mI_hit]
          generalize plM (mSI M 94 0 0) = N at *
          unfold F_MO_mild_l60
          refine wp_bind (Ψ := fun q => match q with | .inl r => ∃ D : Nat, D ≤ 9 ∧ r = iI (D : Int) ∧ (¬ ∃ pe, pe < 2 ∧ gainP (M.1 95) A a b c d (M.1 95 1).toInt (M.1 95 2).toInt D pe) ∧ ∀ D', D' < D → ∃ pe, pe < 2 ∧ gainP (M.1 95) A a b c d (M.1 95 1).toInt (M.1 95 2).toInt D' pe | .inr _ => ∀ D, D ≤ 9 → ∃ pe, pe < 2 ∧ gainP (M.1 95) A a b c d (M.1 95 1).toInt (M.1 95 2).toInt D pe) ?_ (fun q hq => ?_)
          · refine wp_iterS (P := fun (k : Nat) (z : Int32) => z = iI (k : Int) ∧ ∀ D', D' < k → ∃ pe, pe < 2 ∧ gainP (M.1 95) A a b c d (M.1 95 1).toInt (M.1 95 2).toInt D' pe) 10 ?_ FUEL 0 ⟨rfl, fun D' q => absurd q (Nat.not_lt_zero _)⟩ (FUEL_big (by decide))
            rintro k z hk ⟨rfl, hz⟩
            unfold F_MO_mild_b60
            refine wp_if (fun cc => wp_some (fun D hD => hz D ?_)) (fun cc => ?_)
            · rw [show (10 : Int32) = iI 10 from rfl, iI_le (by omega) (by omega) (by omega) (by omega)] at cc
              omega
            rw [show (10 : Int32) = iI 10 from rfl, iI_le (by omega) (by omega) (by omega) (by omega)] at cc
            have nv := N_73V (a := a) (b := b) (c := c) (d := d) (D := k) (A := A) (p := (M.1 95 1).toInt) (q := (M.1 95 2).toInt) (M := N) (by rw [e95]; exact h) (by rw [e95]; exact hA) a3 (by omega) (by omega) (by omega) (by omega) hP hQ p1 pq q9 (by omega)
            rw [e95] at nv
            refine wp_mono nv (fun x hx => ?_)
            rcases hx with ⟨rfl, hg⟩ | ⟨rfl, hg⟩
            · refine ⟨by omega, iI_succ k, fun D' hD' => ?_⟩
              by_cases q1 : D' = k
              · rw [q1]
                exact hg
              · exact hz D' (by omega)
            · exact ⟨k, by omega, rfl, hg, hz⟩
          · rcases q with q | q
            · obtain ⟨D, h1, rfl, h3, h4⟩ := hq
              refine wp_some (Or.inr ⟨⟨c1, c2, c3, c4⟩, z0, fun a' b' c' d' e1 e2 e3 e4 ha' hb' hc' hd' => ⟨D, rfl, Or.inl ⟨D, h1, rfl, ?_, ?_⟩⟩⟩)
              all_goals
                rw [iI_eq (by omega) (by omega) (by omega) (by omega)] at e1 e2 e3 e4
                rw [show a' = a by omega, show b' = b by omega, show c' = c by omega, show d' = d by omega]
              · exact h3
              · exact h4
            · refine wp_some (Or.inr ⟨⟨c1, c2, c3, c4⟩, z0, fun a' b' c' d' e1 e2 e3 e4 ha' hb' hc' hd' => ⟨-1, rfl, Or.inr ⟨rfl, ?_⟩⟩⟩)
              rw [iI_eq (by omega) (by omega) (by omega) (by omega)] at e1 e2 e3 e4
              rw [show a' = a by omega, show b' = b by omega, show c' = c by omega, show d' = d by omega]
              exact hq
        · rw [decide_eq_false (show ¬ (0 ≤ x4 ∧ x4 < (mSI M 94 0 0).1 95 0) from c4)]
          exact wp_t rfl (bad (fun w => c4 w.2.2.2))
      · rw [decide_eq_false (show ¬ (0 ≤ x3 ∧ x3 < (mSI M 94 0 0).1 95 0) from c3)]
        exact wp_t rfl (bad (fun w => c3 w.2.2.1))
    · rw [decide_eq_false (show ¬ (0 ≤ x2 ∧ x2 < (mSI M 94 0 0).1 95 0) from c2)]
      exact wp_t rfl (bad (fun w => c2 w.2.1))
  · rw [decide_eq_false (show ¬ (0 ≤ x1 ∧ x1 < (mSI M 94 0 0).1 95 0) from c1)]
    exact wp_t rfl (bad (fun w => c1 w.1))
theorem gp0 {W : Nat → Int32} {A a b c d D : Nat} {p q : Int} : gainP W A a b c d p q D 0 ↔ ((∃ k, gainW W A 0 a b p q (ownW W 0 a b) (ownW W 0 c d) 0 D k) ∨ ∃ l, 1 ≤ l ∧ l ≤ D ∧ ∃ k, gainW W A 0 c d p q (ownW W 0 a b) (ownW W 0 c d) l D k) := by
  have e1 : ownW W 0 a b = br W a b 0 := by
    unfold ownW
    rw [if_pos rfl]
  have e2 : ownW W 0 c d = br W c d 0 := by
    unfold ownW
    rw [if_pos rfl]
  unfold gainP
  rw [e1, e2]
  simp only [if_pos]
theorem gp1 {W : Nat → Int32} {A a b c d D : Nat} {p q : Int} : gainP W A a b c d p q D 1 ↔ ((∃ k, gainW W A 1 b a p q (ownW W 1 b a) (ownW W 1 d c) 0 D k) ∨ ∃ l, 1 ≤ l ∧ l ≤ D ∧ ∃ k, gainW W A 1 d c p q (ownW W 1 b a) (ownW W 1 d c) l D k) := by
  have e1 : ownW W 1 b a = br W a b 1 := by
    unfold ownW
    rw [if_neg (by decide)]
  have e2 : ownW W 1 d c = br W c d 1 := by
    unfold ownW
    rw [if_neg (by decide)]
  have n1 : ¬ (1 : Nat) = 0 := by decide
  unfold gainP
  rw [e1, e2]
  simp only [if_neg n1]
theorem C_mildV {a b c d A : Nat} {p q : Int} {M : Mem} (hr : relB M) (h : RIW (M.1 95)) (hA : M.1 95 0 = iI (A : Int)) (a2 : 2 ≤ A) (a3 : A ≤ 3) (ha : a < 3) (hb : b < 3) (hc : c < 3) (hd : d < 3) (hP : M.1 1 1 = iI p) (hQ : M.1 1 2 = iI q) (p0 : 1 ≤ p) (pq : p < q) (q9 : q ≤ 9) : wpO (F_Day_fewestThreatDays (iI (a : Int)) (iI (b : Int)) (iI (c : Int)) (iI (d : Int)) M) (fun r => ∃ V, r.1 = iI V ∧ mldS (fun D => ∃ pe, pe < 2 ∧ gainP (M.1 95) A a b c d p q D pe) V) := by
  have en : ∀ (N : Mem) (pe ow ot tw tt D : Nat), Same (fun k => k = 78) M N → pe < 2 → ow < 3 → ot < 3 → tw < 3 → tt < 3 → D ≤ 9 → wpO (F_Day_isThreatEnough (iI (pe : Int)) (iI (ow : Int)) (iI (ot : Int)) (iI (tw : Int)) (iI (tt : Int)) (iI (D : Int)) N) (fun r => Same (fun k => k = 78) M r.2 ∧ (r.1 = true ↔ ¬ ((∃ k, gainW (M.1 95) A pe ow ot p q (ownW (M.1 95) pe ow ot) (ownW (M.1 95) pe tw tt) 0 D k) ∨ ∃ l, 1 ≤ l ∧ l ≤ D ∧ ∃ k, gainW (M.1 95) A pe tw tt p q (ownW (M.1 95) pe ow ot) (ownW (M.1 95) pe tw tt) l D k))) := by
    intro N pe ow ot tw tt D f hpe h1 h2 h3 h4 hD
    have e95 : N.1 95 = M.1 95 := funext (f 95 (by decide)).1
    have e := C_enough (pe := pe) (ow := ow) (ot := ot) (tw := tw) (tt := tt) (D := D) (A := A) (p := p) (q := q) (M := N) ⟨by rw [(f 1 (by decide)).1 0, e95]; exact hr.1, fun j hj => by rw [(f 3 (by decide)).2 j, e95]; exact hr.2 j hj⟩ (by rw [e95]; exact h) (by rw [e95]; exact hA) a2 a3 hpe h1 h2 h3 h4 (((f 1 (by decide)).1 1).trans hP) (((f 1 (by decide)).1 2).trans hQ) p0 pq q9 hD
    rw [e95] at e
    exact wp_mono e (fun r hr => ⟨f.trans hr.1, hr.2⟩)
  unfold F_Day_fewestThreatDays F_Day_fewestThreatDays_l3
  refine wp_bind (Ψ := fun q' => match q' with | .inl r => ∃ V, r.1 = iI V ∧ mldS (fun D => ∃ pe, pe < 2 ∧ gainP (M.1 95) A a b c d p q D pe) V | .inr _ => ∀ D, D ≤ 9 → ∃ pe, pe < 2 ∧ gainP (M.1 95) A a b c d p q D pe) ?_ (fun q' hq => ?_)
  · refine wp_iterS (P := fun (k : Nat) (z : Int32 × Mem) => z.1 = iI (k : Int) ∧ Same (fun k => k = 78) M z.2 ∧ ∀ D', D' < k → ∃ pe, pe < 2 ∧ gainP (M.1 95) A a b c d p q D' pe) 10 ?_ FUEL (0, M) ⟨rfl, Same.rfl', fun D' q => absurd q (Nat.not_lt_zero _)⟩ (FUEL_big (by decide))
    rintro k ⟨z1, N⟩ hk ⟨e1, fN, hz⟩
    dsimp only at e1 fN
    subst e1
    unfold F_Day_fewestThreatDays_b3
    dsimp only
    refine wp_if (fun cc => wp_some (fun D hD => hz D ?_)) (fun cc => ?_)
    · rw [show (9 : Int32) = iI 9 from rfl, iI_lt (by omega) (by omega) (by omega) (by omega)] at cc
      omega
    rw [show (9 : Int32) = iI 9 from rfl, iI_lt (by omega) (by omega) (by omega) (by omega)] at cc
    have nx : (∃ pe, pe < 2 ∧ gainP (M.1 95) A a b c d p q k pe) → ∀ D', D' < k + 1 → ∃ pe, pe < 2 ∧ gainP (M.1 95) A a b c d p q D' pe := fun hg D' hD' => by
      by_cases q1 : D' = k
      · rw [q1]
        exact hg
      · exact hz D' (by omega)
    refine wp_bind (en N 0 a b c d k fN (by decide) ha hb hc hd (by omega)) (fun r1 h1 => ?_)
    obtain ⟨f1, t1⟩ := h1
    rw [← gp0] at t1
    refine wp_if (fun c1 => ?_) (fun c1 => wp_some ⟨by omega, iI_succ k, f1, nx ⟨0, by decide, Classical.byContradiction (fun w => c1 (t1.mpr w))⟩⟩)
    refine wp_bind (en r1.2 1 b a d c k f1 (by decide) hb ha hd hc (by omega)) (fun r2 h2 => ?_)
    obtain ⟨f2, t2⟩ := h2
    rw [← gp1] at t2
    refine wp_if (fun c2 => wp_some ⟨k, rfl, Or.inl ⟨k, by omega, rfl, ?_, hz⟩⟩) (fun c2 => wp_some ⟨by omega, iI_succ k, f2, nx ⟨1, by decide, Classical.byContradiction (fun w => c2 (t2.mpr w))⟩⟩)
    rintro ⟨pe, hp, hg⟩
    have hp2 : pe = 0 ∨ pe = 1 := by omega
    rcases hp2 with rfl | rfl
    · exact t1.mp c1 hg
    · exact t2.mp c2 hg
  · rcases q' with q' | q'
    · exact wp_some hq
    · exact wp_some ⟨-1, rfl, Or.inr ⟨rfl, hq⟩⟩
theorem V_mild {x1 x2 x3 x4 : Int32} {M : Mem} (h : RS M) : wpO (F_LAW_mild x1 x2 x3 x4 M) (fun r1 => wpO (F_MO_mild x1 x2 x3 x4 r1.2) (fun r2 => RS r2.2 ∧ r2.2.1 94 0 = r1.1 ∧ (r1.1 = 0 → r2.2.2 121 0 = r2.1.toInt64))) := by
  obtain ⟨r1, e1, r2, e2, rs⟩ := G_mild (x1 := x1) (x2 := x2) (x3 := x3) (x4 := x4) h
  refine ⟨r1, e1, r2, e2, rs, ?_⟩
  obtain ⟨A, hA, a2, a3⟩ := h.1.1.actN
  have t := wpO_of (T_LAW_mild x1 x2 x3 x4 M) e1
  have q := Q_MO_mild x1 x2 x3 x4 r1.2 r2 e2
  have w : r1.2.1 95 = M.1 95 := funext (t 95 (by omega)).1
  have o := (q 121 0 (by omega)).2
  have n := wpO_of (R_mildV (x1 := x1) (x2 := x2) (x3 := x3) (x4 := x4) (M := r1.2) (by rw [w]; exact h.1.1) (by rw [w]; exact hA) a2 a3) e2
  rw [w] at n
  have hb := h.2.1.1.relB
  have e0 : M.1 1 0 = M.1 95 0 := hb.1
  have ok : ∀ x : Int32, acOk (M.1 95) x → F_KW_needAct x M = some (.inr (), M) := fun x hx => S_act_ok (by rw [e0]; exact hx)
  have no : ∀ x : Int32, ¬ acOk (M.1 95) x → F_KW_needAct x M = some (.inl "java/lang/IndexOutOfBoundsException", M) := fun x hx => S_act_no (by rw [e0]; exact hx)
  unfold F_LAW_mild F_KW_mild at e1
  by_cases c : ac4 (M.1 95) x1 x2 x3 x4
  · obtain ⟨c1, c2, c3, c4⟩ := c
    rcases n with ⟨n1, -⟩ | ⟨-, n2, n3⟩
    · exact absurd ⟨c1, c2, c3, c4⟩ n1
    rw [ok x1 c1, xb_inr, ok x2 c2, xb_inr, ok x3 c3, xb_inr, ok x4 c4, xb_inr] at e1
    obtain ⟨a, rfl, ha⟩ := acOk_nat c1 hA a3
    obtain ⟨b, rfl, hb'⟩ := acOk_nat c2 hA a3
    obtain ⟨c, rfl, hc⟩ := acOk_nat c3 hA a3
    obtain ⟨d, rfl, hd⟩ := acOk_nat c4 hA a3
    obtain ⟨p1, pq, q9⟩ := h.1.1.tom
    have hP : M.1 1 1 = iI (M.1 95 1).toInt := by
      rw [iI_of]
      exact h.2.1.1.2.1
    have hQ : M.1 1 2 = iI (M.1 95 2).toInt := by
      rw [iI_of]
      exact h.2.1.1.2.2.1
    obtain ⟨r, er, V, ev, hv⟩ := C_mildV hb h.1.1 hA a2 a3 (show a < 3 by omega) (show b < 3 by omega) (show c < 3 by omega) (show d < 3 by omega) hP hQ p1 pq q9
    obtain ⟨V', ev', hv'⟩ := n3 a b c d rfl rfl rfl rfl ha hb' hc hd
    rw [er, bs, hb_inr, if_pos ib01] at e1
    cases e1
    refine ⟨n2, fun _ => ?_⟩
    rw [o, ev', mldS.uq hv' hv, ← ev]
    show (mSL r.2 121 ((0 : Int32)).toNatClampNeg r.1.toInt64).2 121 0 = r.1.toInt64
    rw [tn0, mL_hit]
  · rcases n with ⟨-, n2⟩ | ⟨n1, -⟩
    · have e1b : r1 = (1, M) := by
        by_cases c1 : acOk (M.1 95) x1
        · rw [ok x1 c1, xb_inr] at e1
          by_cases c2 : acOk (M.1 95) x2
          · rw [ok x2 c2, xb_inr] at e1
            by_cases c3 : acOk (M.1 95) x3
            · rw [ok x3 c3, xb_inr] at e1
              by_cases c4 : acOk (M.1 95) x4
              · exact absurd ⟨c1, c2, c3, c4⟩ c
              · rw [no x4 c4, xb_inl, hb_inl, if_pos rfl] at e1
                exact (Option.some.inj e1).symm
            · rw [no x3 c3, xb_inl, hb_inl, if_pos rfl] at e1
              exact (Option.some.inj e1).symm
          · rw [no x2 c2, xb_inl, hb_inl, if_pos rfl] at e1
            exact (Option.some.inj e1).symm
        · rw [no x1 c1, xb_inl, hb_inl, if_pos rfl] at e1
          exact (Option.some.inj e1).symm
      rw [e1b]
      exact ⟨n2, fun w => absurd w (show ¬ (1 : Int32) = 0 by decide)⟩
    · exact absurd n1 c
