/-! ===== the other calls; what every call keeps ===== -/
theorem E_best {x1 x2 x3 : Int32} {M : Mem} (h : RIW (M.1 95)) : wpO (F_MO_best x1 x2 x3 M) (fun _ => True) := by
  have h0 : RIW ((mSI M 94 0 0).1 95) := h
  have bad : wpO (F_MO_best_j27 x1 x2 x3 true (mSI M 94 0 0)) (fun _ => True) := by
    unfold F_MO_best_j27
    exact wp_thr (fun _ => thr_t (wp_some trivial)) (fun q => nomatch q)
  unfold F_MO_best
  refine wp_noPerson (wp_tt bad) (fun p e1 hp => wp_ff ?_)
  refine wp_noMood h0 (wp_tt bad) (fun w m e2 e3 hw hm => wp_ff ?_)
  clear bad
  subst e1
  subst e2
  subst e3
  have m3 := (h0.way w hw).moK.2.1
  unfold F_MO_best_j27
  refine wp_thr (fun q => nomatch q) (fun _ => thr_f ?_)
  dsimp only
  rw [N_isBarred (h0.w8 hw) (h0.way w hw), bs]
  refine wp_thr (fun _ => thr_t (wp_some trivial)) (fun _ => thr_f ?_)
  dsimp only
  exact wp_bind (N_answers h0 hp hw) (fun r _ => wp_t (inb_iI (by omega) (by omega) (by omega)) (wp_some trivial))
theorem E_answer {x1 x2 x3 x4 : Int32} {M : Mem} (h : RIW (M.1 95)) : wpO (F_MO_answer x1 x2 x3 x4 M) (fun _ => True) := by
  have h0 : RIW ((mSI M 94 0 0).1 95) := h
  have bad : wpO (F_MO_answer_j27 x1 x2 x3 x4 true (mSI M 94 0 0)) (fun _ => True) := by
    unfold F_MO_answer_j27
    exact wp_thr (fun _ => thr_t (wp_some trivial)) (fun q => nomatch q)
  unfold F_MO_answer
  refine wp_noPerson (wp_tt bad) (fun p e1 hp => wp_ff ?_)
  refine wp_noMood h0 (wp_tt bad) (fun w m e2 e3 hw hm => wp_ff ?_)
  clear bad
  subst e1
  subst e2
  subst e3
  have m3 := (h0.way w hw).moK.2.1
  unfold F_MO_answer_j27
  refine wp_thr (fun q => nomatch q) (fun _ => thr_f ?_)
  dsimp only
  rw [N_isBarred (h0.w8 hw) (h0.way w hw), bs]
  refine wp_thr (fun _ => thr_t (wp_some trivial)) (fun _ => thr_f ?_)
  dsimp only
  exact wp_bind (N_answers h0 hp hw) (fun r _ => wp_if (fun _ => wp_t (inb_iI (by omega) (by omega) (by omega)) (wp_some trivial)) (fun _ => wp_t (inb_iI (by omega) (by omega) (by omega)) (wp_some trivial)))
/-! all ways of two moods -/
def btv (c t : Nat) : Nat := ((iI (c : Int) >>> (iI (t : Int) &&& 31)) &&& 1).toNatClampNeg
theorem bvtab : ∀ c : Nat, c < 64 → ∀ t : Nat, t < 6 → ((iI (c : Int) >>> (iI (t : Int) &&& 31)) &&& 1) = iI (btv c t : Int) ∧ btv c t ≤ 1 := by decide +kernel
def outW (M N : Mem) : Prop := (∀ j : Nat, (j < 131 ∨ 144 ≤ j) → N.1 95 j = M.1 95 j) ∧ ∀ c j, c ≠ 95 → N.1 c j = M.1 c j
theorem outW.rf {M : Mem} : outW M M := ⟨fun _ _ => rfl, fun _ _ _ => rfl⟩
theorem outW.tr {M N O : Mem} (h : outW M N) (h2 : outW N O) : outW M O := ⟨fun j q => (h2.1 j q).trans (h.1 j q), fun c j q => (h2.2 c j q).trans (h.2 c j q)⟩
theorem outW.st {M N : Mem} {i : Nat} {v : Int32} (h : outW M N) (h1 : 131 ≤ i) (h2 : i < 144) : outW M (mSI N 95 i v) := h.tr ⟨fun j q => mI_ix (by omega), fun c j q => mI_cell q⟩
theorem N_lays {c : Nat} {M : Mem} (hc : c < 64) : wpO (F_MO_lays (iI (c : Int)) M) (fun N => WOKW (N.1 95) 8 ∧ outW M N) := by
  have l131 : (131 : Int32) = iI 131 := rfl
  unfold F_MO_lays
  refine wp_t (by decide) ?_
  have e131 : ((131 : Int32)).toNatClampNeg = 131 := by decide
  rw [e131]
  unfold F_MO_lays_l13
  refine wp_bind (Ψ := fun N => outW M N ∧ N.1 95 131 = 2 ∧ ∀ m : Nat, m < 2 → (∃ d : Nat, d ≤ 1 ∧ N.1 95 (132 + m) = iI (d : Int)) ∧ ∀ s : Nat, s < 3 → ∃ d : Nat, d ≤ 1 ∧ N.1 95 (135 + 3 * m + s) = iI (d : Int)) ?_ (fun N hN => wp_some ?_)
  · refine wp_iterS (P := fun k z => z.1 = iI (k : Int) ∧ outW M z.2 ∧ z.2.1 95 131 = 2 ∧ ∀ m : Nat, m < k → (∃ d : Nat, d ≤ 1 ∧ z.2.1 95 (132 + m) = iI (d : Int)) ∧ ∀ s : Nat, s < 3 → ∃ d : Nat, d ≤ 1 ∧ z.2.1 95 (135 + 3 * m + s) = iI (d : Int)) 2 ?_ _ _ ⟨rfl, outW.rf.st (by decide) (by decide), mI_hit, fun m q => absurd q (Nat.not_lt_zero _)⟩ (FUEL_big (by decide))
    rintro k ⟨z1, N⟩ hk ⟨e1, o1, o2, o3⟩
    dsimp only at e1 o1 o2 o3
    subst e1
    unfold F_MO_lays_b13
    dsimp only
    refine wp_if (fun cc => wp_some ⟨o1, o2, fun m hm => o3 m ?_⟩) (fun cc => ?_)
    · rw [l32_2, iI_le (by omega) (by omega) (by omega) (by omega)] at cc
      omega
    rw [l32_2, iI_le (by omega) (by omega) (by omega) (by omega)] at cc
    have ea : ((131 : Int32) + 1) + iI (k : Int) = iI ((132 + k : Nat) : Int) := by
      rw [l131, l32_1, iI_add, iI_add]
      rfl
    rw [ea]
    refine wp_t (inb_iI (by omega) (by omega) (by omega)) ?_
    rw [clN (by omega), (bvtab c hc k (by omega)).1]
    have bk := (bvtab c hc k (by omega)).2
    have p1 : outW M (mSI N 95 (132 + k) (iI (btv c k : Int))) := o1.st (by omega) (by omega)
    have p2 : (mSI N 95 (132 + k) (iI (btv c k : Int))).1 95 131 = 2 := (mI_ix (by omega)).trans o2
    have p3 : (mSI N 95 (132 + k) (iI (btv c k : Int))).1 95 (132 + k) = iI (btv c k : Int) := mI_hit
    have p4 : ∀ m : Nat, m < k → (∃ d : Nat, d ≤ 1 ∧ (mSI N 95 (132 + k) (iI (btv c k : Int))).1 95 (132 + m) = iI (d : Int)) ∧ ∀ s : Nat, s < 3 → ∃ d : Nat, d ≤ 1 ∧ (mSI N 95 (132 + k) (iI (btv c k : Int))).1 95 (135 + 3 * m + s) = iI (d : Int) := by
      intro m hm
      obtain ⟨q1, q2⟩ := o3 m hm
      refine ⟨by rw [mI_ix (by omega)]; exact q1, fun s hs => by rw [mI_ix (by omega)]; exact q2 s hs⟩
    generalize mSI N 95 (132 + k) (iI (btv c k : Int)) = N1 at *
    unfold F_MO_lays_l36
    refine wp_bind (Ψ := fun A => outW M A ∧ (∀ j : Nat, j < 135 + 3 * k → A.1 95 j = N1.1 95 j) ∧ ∀ s : Nat, s < 2 → ∃ d : Nat, d ≤ 1 ∧ A.1 95 (135 + 3 * k + s) = iI (d : Int)) ?_ (fun A hA => ?_)
    · refine wp_iterS (P := fun s z => z.1 = iI (s : Int) ∧ outW M z.2 ∧ (∀ j : Nat, j < 135 + 3 * k → z.2.1 95 j = N1.1 95 j) ∧ ∀ s2 : Nat, s2 < s → ∃ d : Nat, d ≤ 1 ∧ z.2.1 95 (135 + 3 * k + s2) = iI (d : Int)) 2 ?_ _ _ ⟨rfl, p1, fun _ _ => rfl, fun s2 q => absurd q (Nat.not_lt_zero _)⟩ (FUEL_big (by decide))
      rintro s ⟨y1, A⟩ hs ⟨e1, a1, a2, a3⟩
      dsimp only at e1 a1 a2 a3
      subst e1
      unfold F_MO_lays_b36
      dsimp only
      refine wp_if (fun c2 => wp_some ⟨a1, a2, fun s2 hs2 => a3 s2 ?_⟩) (fun c2 => ?_)
      · rw [l32_2, iI_le (by omega) (by omega) (by omega) (by omega)] at c2
        omega
      rw [l32_2, iI_le (by omega) (by omega) (by omega) (by omega)] at c2
      have eb : (((131 : Int32) + 4) + (3 * iI (k : Int))) + iI (s : Int) = iI ((135 + 3 * k + s : Nat) : Int) := by
        rw [l131, l32_4, l32_3, iI_mul, iI_add, iI_add, iI_add]
        congr 1
      have es : ((2 : Int32) + (2 * iI (k : Int))) + iI (s : Int) = iI ((2 + 2 * k + s : Nat) : Int) := by
        rw [l32_2, iI_mul, iI_add, iI_add]
        congr 1
      rw [eb, es, (bvtab c hc (2 + 2 * k + s) (by omega)).1]
      have bv := (bvtab c hc (2 + 2 * k + s) (by omega)).2
      refine wp_t (inb_iI (by omega) (by omega) (by omega)) ?_
      rw [clN (by omega)]
      refine wp_some ⟨by omega, iI_succ s, a1.st (by omega) (by omega), fun j hj => (mI_ix (by omega)).trans (a2 j hj), fun s2 hs2 => ?_⟩
      by_cases q : s2 = s
      · exact ⟨_, bv, by rw [q]; exact mI_hit⟩
      · obtain ⟨d, d1, d2⟩ := a3 s2 (by omega)
        exact ⟨d, d1, (mI_ix (by omega)).trans d2⟩
    · obtain ⟨a1, a2, a3⟩ := hA
      unfold F_MO_lays_j75
      have eb : (((131 : Int32) + 4) + (3 * iI (k : Int))) + 2 = iI ((135 + 3 * k + 2 : Nat) : Int) := by
        rw [l131, l32_4, l32_3, l32_2, iI_mul, iI_add, iI_add, iI_add]
        congr 1
      rw [eb]
      refine wp_t (inb_iI (by omega) (by omega) (by omega)) ?_
      rw [clN (by omega)]
      refine wp_some ⟨by omega, iI_succ k, a1.st (by omega) (by omega), ?_, fun m hm => ?_⟩
      · exact (mI_ix (by omega)).trans ((a2 131 (by omega)).trans p2)
      · by_cases q : m = k
        · subst q
          refine ⟨⟨_, bk, (mI_ix (by omega)).trans ((a2 (132 + m) (by omega)).trans p3)⟩, fun s hs => ?_⟩
          by_cases qs : s = 2
          · subst qs
            exact ⟨m, by omega, mI_hit⟩
          · obtain ⟨d, d1, d2⟩ := a3 s (by omega)
            exact ⟨d, d1, (mI_ix (by omega)).trans d2⟩
        · obtain ⟨⟨d, d1, d2⟩, q2⟩ := p4 m (by omega)
          refine ⟨⟨d, d1, (mI_ix (by omega)).trans ((a2 (132 + m) (by omega)).trans d2)⟩, fun s hs => ?_⟩
          obtain ⟨d3, d4, d5⟩ := q2 s hs
          exact ⟨d3, d4, (mI_ix (by omega)).trans ((a2 (135 + 3 * m + s) (by omega)).trans d5)⟩
  · obtain ⟨o1, o2, o3⟩ := hN
    have c0 : (N.1 95 (27 + 13 * 8)).toInt = 2 := by
      show (N.1 95 131).toInt = 2
      rw [o2]
      decide
    refine ⟨⟨by omega, by omega, fun m hm => ?_⟩, o1⟩
    rw [c0] at hm
    obtain ⟨⟨d, d1, d2⟩, q2⟩ := o3 m (by omega)
    refine ⟨?_, fun s hs => ?_⟩
    · rw [show 28 + 13 * 8 + m = 132 + m by omega, d2, iI_toInt (by omega) (by omega)]
      omega
    · obtain ⟨d3, d4, d5⟩ := q2 s hs
      rw [c0, show 31 + 13 * 8 + 3 * m + s = 135 + 3 * m + s by omega, d5, iI_toInt (by omega) (by omega)]
      omega
theorem E_allS {x y : Int32} {M : Mem} (h : RIW (M.1 95)) : wpO (F_MO_all x y M) (fun r => RIW (r.2.1 95) ∧ ∀ j : Nat, (j < 131 ∨ 144 ≤ j) → r.2.1 95 j = M.1 95 j) := by
  have h0 : RIW ((mSI M 94 0 0).1 95) := h
  unfold F_MO_all
  refine wp_noWay h0 (wp_thr (fun _ => thr_t (wp_some ⟨h0, fun _ _ => rfl⟩)) (fun q => nomatch q)) (fun a e1 ha => ?_)
  subst e1
  refine wp_thr (fun q => nomatch q) (fun _ => thr_f ?_)
  dsimp only
  rw [N_isBarred (h0.w8 ha) (h0.way a ha), bs]
  have j62 : ∀ s : Bool, wpO (F_MO_all_j62 (iI (a : Int)) y s (mSI M 94 0 0)) (fun r => RIW (r.2.1 95) ∧ ∀ j : Nat, (j < 131 ∨ 144 ≤ j) → r.2.1 95 j = M.1 95 j) := by
    intro s
    unfold F_MO_all_j62
    refine wp_thr (fun _ => thr_t (wp_some ⟨h0, fun _ _ => rfl⟩)) (fun _ => thr_f ?_)
    dsimp only
    refine wp_bind (N_answers (p := 1) h0 (by decide) ha) (fun N hN => ?_)
    obtain ⟨i1, i2, i3⟩ := hN
    obtain ⟨p1, p2, p3⟩ := h0.pq
    have hR : RIW (N.1 95) := by rw [i1]; exact h0
    have hNW : ∀ A : Mem, outW N A → RIW (A.1 95) := fun A hA => hR.keep (fun j hj => hA.1 j (by omega))
    have ha2 : (a : Int) < (N.1 95 5).toInt := by rw [i1]; exact ha
    have hb : ∀ A : Mem, outW N A → A.1 94 19 = N.1 94 19 ∧ A.1 94 20 = N.1 94 20 := fun A hA => ⟨hA.2 94 19 (by decide), hA.2 94 20 (by decide)⟩
    unfold F_MO_all_l92
    refine wp_bind (Ψ := fun r => RIW (r.2.2.2.2.1 95) ∧ ∀ j : Nat, (j < 131 ∨ 144 ≤ j) → r.2.2.2.2.1 95 j = M.1 95 j) ?_ (fun r hr => by
      unfold F_MO_all_j165
      exact wp_if (fun _ => wp_some hr) (fun _ => wp_if (fun _ => wp_some hr) (fun _ => wp_if (fun _ => wp_some hr) (fun _ => wp_some hr))))
    refine wp_iterS (P := fun k z => z.2.2.2.2.1 = iI ((63 : Int) - k) ∧ k ≤ 64 ∧ (∀ j : Nat, (j < 131 ∨ 144 ≤ j) → z.2.2.2.2.2.1 95 j = N.1 95 j) ∧ z.2.2.2.2.2.1 94 19 = N.1 94 19 ∧ z.2.2.2.2.2.1 94 20 = N.1 94 20) 64 ?_ _ _ ⟨rfl, by decide, fun _ _ => rfl, rfl, rfl⟩ (FUEL_big (by decide))
    rintro k ⟨z1, z2, z3, z4, z5, A⟩ hk ⟨e5, -, a1, a2, a3⟩
    dsimp only at e5 a1 a2 a3
    subst e5
    unfold F_MO_all_b92
    dsimp only
    have l0 : (0 : Int32) = iI 0 := rfl
    refine wp_if (fun cc => wp_some ⟨hR.keep (fun j hj => a1 j (by omega)), fun j hj => (a1 j hj).trans (congrFun i1 j)⟩) (fun cc => ?_)
    rw [l0, iI_lt (by omega) (by omega) (by omega) (by omega)] at cc
    have ec : iI ((63 : Int) - k) = iI ((63 - k : Nat) : Int) := by
      congr 1
      omega
    rw [ec]
    refine wp_bind (N_lays (c := 63 - k) (M := A) (by omega)) (fun B hB => ?_)
    obtain ⟨w8, oB⟩ := hB
    have b1 : ∀ j : Nat, (j < 131 ∨ 144 ≤ j) → B.1 95 j = N.1 95 j := fun j hj => (oB.1 j hj).trans (a1 j hj)
    have bR : RIW (B.1 95) := hR.keep (fun j hj => b1 j (by omega))
    have bw : (a : Int) < (B.1 95 5).toInt := by rw [b1 5 (by omega)]; exact ha2
    refine wp_bind (N_firstOf (M := B) (a := a) (b := 8) (P := ((mSI M 94 0 0).1 95 1).toInt) (q := ((mSI M 94 0 0).1 95 2).toInt) (bR.w8 bw) (by decide) (bR.way a bw) w8 bR.br bR.acts ((oB.2 94 19 (by decide)).trans (a2.trans i2)) ((oB.2 94 20 (by decide)).trans (a3.trans i3)) p1 p2 p3) (fun r9 h9 => ?_)
    have f9 := h9.1
    have c1 : ∀ j : Nat, (j < 131 ∨ 144 ≤ j) → r9.2.1 95 j = N.1 95 j := fun j hj => (congrFun f9.w95 j).trans (b1 j hj)
    have c2 : r9.2.1 94 19 = N.1 94 19 := (f9.1 94 19 (by decide)).trans ((oB.2 94 19 (by decide)).trans a2)
    have c3 : r9.2.1 94 20 = N.1 94 20 := (f9.1 94 20 (by decide)).trans ((oB.2 94 20 (by decide)).trans a3)
    have dn : iI ((63 - k : Nat) : Int) + (-1) = iI ((63 : Int) - ((k + 1 : Nat) : Int)) := by
      have l1 : (-1 : Int32) = iI (-1) := rfl
      rw [l1, iI_add]
      congr 1
      omega
    have j120 : ∀ u1 u2 u3 u4 : Int32, wpO (F_MO_all_j120 (iI (a : Int)) y u1 u2 u3 u4 (iI ((63 - k : Nat) : Int)) r9.2) (sumP (fun z => k < 64 ∧ z.2.2.2.2.1 = iI ((63 : Int) - ((k + 1 : Nat) : Int)) ∧ k + 1 ≤ 64 ∧ (∀ j : Nat, (j < 131 ∨ 144 ≤ j) → z.2.2.2.2.2.1 95 j = N.1 95 j) ∧ z.2.2.2.2.2.1 94 19 = N.1 94 19 ∧ z.2.2.2.2.2.1 94 20 = N.1 94 20) (fun r => RIW (r.2.2.2.2.1 95) ∧ ∀ j : Nat, (j < 131 ∨ 144 ≤ j) → r.2.2.2.2.1 95 j = M.1 95 j)) := by
      intro u1 u2 u3 u4
      have d1 : inb (1 : Int32) 18 := by decide
      have d2 : inb (0 : Int32) 3 := by decide
      unfold F_MO_all_j120
      refine wp_t d1 (wp_t d2 (wp_if (fun _ => wp_t d1 (wp_t d2 (wp_if (fun _ => wp_some ⟨by omega, dn, by omega, c1, c2, c3⟩) (fun _ => wp_some ⟨by omega, dn, by omega, c1, c2, c3⟩)))) (fun _ => wp_some ⟨by omega, dn, by omega, c1, c2, c3⟩)))
    exact wp_if (fun _ => j120 _ _ _ _) (fun _ => j120 _ _ _ _)
  have j40 : ∀ s : Bool, wpO (F_MO_all_j40 (iI (a : Int)) y s (mSI M 94 0 0)) (fun r => RIW (r.2.1 95) ∧ ∀ j : Nat, (j < 131 ∨ 144 ≤ j) → r.2.1 95 j = M.1 95 j) := by
    intro s
    unfold F_MO_all_j40
    refine wp_thr (fun _ => thr_t (wp_some ⟨h0, fun _ _ => rfl⟩)) (fun _ => thr_f ?_)
    dsimp only
    exact wp_within (fun _ _ => wp_tt (j62 false)) (fun _ => wp_ff (j62 true))
  refine wp_if (fun _ => j40 true) (fun _ => ?_)
  rw [S_actMany, bs]
  exact wp_if (fun _ => j40 false) (fun _ => j40 true)
theorem E_all {x y : Int32} {M : Mem} (h : RIW (M.1 95)) : wpO (F_MO_all x y M) (fun r => RIW (r.2.1 95)) := wp_mono (E_allS h) (fun _ q => q.1)
theorem E_count {x : Int32} {M : Mem} (h : RIW (M.1 95)) : wpO (F_MO_count x M) (fun _ => True) := by
  have h0 : RIW ((mSI M 94 0 0).1 95) := h
  have r5 := h0.ways
  unfold F_MO_count
  generalize mSI M 94 0 0 = N at *
  refine wp_if (fun _ => ?_) (fun _ => wp_if (fun _ => wp_t ib5 (wp_some trivial)) (fun _ => wp_if (fun _ => ?_) (fun _ => ?_)))
  · rw [S_actMany, bs]
    exact wp_some trivial
  · unfold F_MO_count_l86
    refine wp_bind (Ψ := fun _ => True) ?_ (fun r _ => wp_some trivial)
    refine wp_iterS (P := fun k z => z.2 = iI (k : Int)) 8 ?_ _ _ rfl (FUEL_big (by decide))
    rintro k ⟨z1, z2⟩ hk e2
    dsimp only at e2
    subst e2
    unfold F_MO_count_b86
    dsimp only
    refine wp_t ib5 ?_
    simp only [tn5]
    refine wp_if (fun _ => wp_some trivial) (fun c => ?_)
    rw [le_i, iI_toInt (by omega) (by omega)] at c
    rw [N_isBarred (by omega) (h0.way k (by omega)), bs]
    exact wp_if (fun _ => wp_some ⟨by omega, iI_succ k⟩) (fun _ => wp_some ⟨by omega, iI_succ k⟩)
  · have at3 : ∀ v : Int32, x = v → inb ((1 + v) - 3) 564 → wpO (if inb ((1 + x) - 3) 564 then some ((N.1 95 ((1 + x) - 3).toNatClampNeg, N)) else none) (fun _ => True) := by
      intro v e hv
      subst e
      exact wp_t hv (wp_some trivial)
    refine wp_if (fun e => at3 3 e (by decide)) (fun _ => wp_if (fun e => at3 4 e (by decide)) (fun _ => wp_if (fun e => at3 5 e (by decide)) (fun _ => wp_if (fun e => at3 6 e (by decide)) (fun _ => ?_))))
    refine wp_if (fun _ => wp_t ib7 (wp_some trivial)) (fun _ => wp_if (fun _ => ?_) (fun _ => wp_if (fun _ => wp_t ib6 (wp_some trivial)) (fun _ => wp_if (fun _ => wp_t ib8 (wp_some trivial)) (fun _ => wp_if (fun _ => wp_bind (N_body h0) (fun r _ => wp_some trivial)) (fun _ => wp_some trivial)))))
    unfold F_MO_count_l141
    refine wp_bind (Ψ := fun _ => True) ?_ (fun r _ => wp_some trivial)
    refine wp_iterS (P := fun k z => z.2 = iI (k : Int)) 8 ?_ _ _ rfl (FUEL_big (by decide))
    rintro k ⟨z1, z2⟩ hk e2
    dsimp only at e2
    subst e2
    unfold F_MO_count_b141
    dsimp only
    refine wp_t ib5 ?_
    simp only [tn5]
    refine wp_if (fun _ => wp_some trivial) (fun c => ?_)
    rw [le_i, iI_toInt (by omega) (by omega)] at c
    rw [e144]
    exact wp_t (inb_iI (by omega) (by omega) (by omega)) (wp_some ⟨by omega, iI_succ k⟩)
theorem K_fault {M : Mem} (h : InvR M) : wpO (F_MO_fault M) (fun r => InvR r.2) := by
  unfold F_MO_fault
  exact wp_some h
theorem K_all {x y : Int32} {M : Mem} (h : InvR M) : wpO (F_MO_all x y M) (fun r => InvR r.2) :=
  wp_mono (wp_q (E_all h.1) (Q_MO_all _ _ _)) (fun r hr => h.fw hr.2 hr.1 (fun k j q => by first | omega | (dsimp only at q; omega)))
theorem K_mood {x1 x2 x3 : Int32} {M : Mem} (h : InvR M) : wpO (F_MO_mood x1 x2 x3 M) (fun r => InvR r.2) :=
  wp_mono (wp_q (E_mood h.1) (Q_MO_mood _ _ _ _)) (fun r hr => h.fr hr.2 (fun k j q => by first | omega | (dsimp only at q; omega)))
theorem K_worth {x1 x2 x3 x4 x5 x6 : Int32} {M : Mem} (h : InvR M) : wpO (F_MO_worth x1 x2 x3 x4 x5 x6 M) (fun r => InvR r.2) :=
  wp_mono (wp_q (E_worth h.1) (Q_MO_worth _ _ _ _ _ _ _)) (fun r hr => h.fr hr.2 (fun k j q => by first | omega | (dsimp only at q; omega)))
theorem K_hold {x1 x2 : Int32} {M : Mem} (h : InvR M) : wpO (F_MO_hold x1 x2 M) (fun r => InvR r.2) :=
  wp_mono (wp_q (E_hold h.1) (Q_MO_hold _ _ _)) (fun r hr => h.fr hr.2 (fun k j q => by first | omega | (dsimp only at q; omega)))
theorem K_first {x1 x2 : Int32} {M : Mem} (h : InvR M) : wpO (F_MO_first x1 x2 M) (fun r => InvR r.2) :=
  wp_mono (wp_q (E_first h.1) (Q_MO_first _ _ _)) (fun r hr => h.fr hr.2 (fun k j q => by first | omega | (dsimp only at q; omega)))
theorem K_best {x1 x2 x3 : Int32} {M : Mem} (h : InvR M) : wpO (F_MO_best x1 x2 x3 M) (fun r => InvR r.2) :=
  wp_mono (wp_q (E_best h.1) (Q_MO_best _ _ _ _)) (fun r hr => h.fr hr.2 (fun k j q => by first | omega | (dsimp only at q; omega)))
theorem K_answer {x1 x2 x3 x4 : Int32} {M : Mem} (h : InvR M) : wpO (F_MO_answer x1 x2 x3 x4 M) (fun r => InvR r.2) :=
  wp_mono (wp_q (E_answer h.1) (Q_MO_answer _ _ _ _ _)) (fun r hr => h.fr hr.2 (fun k j q => by first | omega | (dsimp only at q; omega)))
theorem K_least {x1 x2 : Int32} {M : Mem} (h : InvR M) : wpO (F_MO_least x1 x2 M) (fun r => InvR r.2) :=
  wp_mono (wp_q (E_least h.1) (Q_MO_least _ _ _)) (fun r hr => h.fr hr.2 (fun k j q => by first | omega | (dsimp only at q; omega)))
theorem K_lots {x1 x2 : Int32} {M : Mem} (h : InvR M) : wpO (F_MO_lots x1 x2 M) (fun r => InvR r.2) :=
  wp_mono (wp_q (E_lots h.1) (Q_MO_lots _ _ _)) (fun r hr => h.fr hr.2 (fun k j q => by first | omega | (dsimp only at q; omega)))
theorem K_once {M : Mem} (h : InvR M) : wpO (F_MO_once M) (fun r => InvR r.2) :=
  wp_mono (wp_q (E_once h.1) (Q_MO_once _)) (fun r hr => h.fr hr.2 (fun k j q => by first | omega | (dsimp only at q; omega)))
theorem K_corner {x1 x2 : Int32} {M : Mem} (h : InvR M) : wpO (F_MO_corner x1 x2 M) (fun r => InvR r.2) :=
  wp_mono (wp_q (E_corner h.1) (Q_MO_corner _ _ _)) (fun r hr => h.fr hr.2 (fun k j q => by first | omega | (dsimp only at q; omega)))
theorem K_in {x1 x2 x3 x4 : Int32} {M : Mem} (h : InvR M) : wpO (F_MO_in x1 x2 x3 x4 M) (fun r => InvR r.2) :=
  wp_mono (wp_q (E_in h.1) (Q_MO_in _ _ _ _ _)) (fun r hr => h.fr hr.2 (fun k j q => by first | omega | (dsimp only at q; omega)))
theorem K_mild {x1 x2 x3 x4 : Int32} {M : Mem} (h : InvR M) : wpO (F_MO_mild x1 x2 x3 x4 M) (fun r => InvR r.2) :=
  wp_mono (wp_q (E_mild h.1) (Q_MO_mild _ _ _ _ _)) (fun r hr => h.fr hr.2 (fun k j q => by first | omega | (dsimp only at q; omega)))
theorem K_edge {x1 x2 x3 : Int32} {M : Mem} (h : InvR M) : wpO (F_MO_edge x1 x2 x3 M) (fun r => InvR r.2) :=
  wp_mono (wp_q (E_edge h.1) (Q_MO_edge _ _ _ _)) (fun r hr => h.fr hr.2 (fun k j q => by first | omega | (dsimp only at q; omega)))
theorem K_together {M : Mem} (h : InvR M) : wpO (F_MO_together M) (fun r => InvR r.2) :=
  wp_mono (wp_q (E_together h.1) (Q_MO_together _)) (fun r hr => h.fr hr.2 (fun k j q => by first | omega | (dsimp only at q; omega)))
theorem K_doubt {x1 x2 x3 x4 x5 : Int32} {M : Mem} (h : InvR M) : wpO (F_MO_doubt x1 x2 x3 x4 x5 M) (fun r => InvR r.2) :=
  wp_mono (wp_q (E_doubt h.1) (Q_MO_doubt _ _ _ _ _ _)) (fun r hr => h.fr hr.2 (fun k j q => by first | omega | (dsimp only at q; omega)))
theorem K_judge {x1 x2 : Int32} {M : Mem} (h : InvR M) : wpO (F_MO_judge x1 x2 M) (fun r => InvR r.2) :=
  wp_mono (wp_q (E_judge h.1) (Q_MO_judge _ _ _)) (fun r hr => h.fr hr.2 (fun k j q => by first | omega | (dsimp only at q; omega)))
theorem K_brought {x1 : Int32} {M : Mem} (h : InvR M) : wpO (F_MO_brought x1 M) (fun r => InvR r.2) :=
  wp_mono (wp_q (E_brought h.1) (Q_MO_brought _ _)) (fun r hr => h.fr hr.2 (fun k j q => by first | omega | (dsimp only at q; omega)))
theorem K_drawn {x1 x2 x3 x4 x5 : Int32} {M : Mem} (h : InvR M) : wpO (F_MO_drawn x1 x2 x3 x4 x5 M) (fun r => InvR r.2) :=
  wp_mono (wp_q (E_drawn h.1) (Q_MO_drawn _ _ _ _ _ _)) (fun r hr => h.fr hr.2 (fun k j q => by first | omega | (dsimp only at q; omega)))
theorem K_meet {x1 x2 : Int32} {M : Mem} (h : InvR M) : wpO (F_MO_meet x1 x2 M) (fun r => InvR r.2) :=
  wp_mono (wp_q (E_meet h.1) (Q_MO_meet _ _ _)) (fun r hr => h.fr hr.2 (fun k j q => by first | omega | (dsimp only at q; omega)))
theorem K_beings {x1 : Int32} {M : Mem} (h : InvR M) : wpO (F_MO_beings x1 M) (fun r => InvR r.2) :=
  wp_mono (wp_q (E_beings h.1) (Q_MO_beings _ _)) (fun r hr => h.fr hr.2 (fun k j q => by first | omega | (dsimp only at q; omega)))
theorem K_stays {x1 : Int32} {M : Mem} (h : InvR M) : wpO (F_MO_stays x1 M) (fun r => InvR r.2) :=
  wp_mono (wp_q (E_stays h.1) (Q_MO_stays _ _)) (fun r hr => h.fr hr.2 (fun k j q => by first | omega | (dsimp only at q; omega)))
theorem K_begin {x1 x2 : Int32} {M : Mem} (h : InvR M) : wpO (F_MO_begin x1 x2 M) (fun r => InvR r.2) :=
  wp_mono (wp_q (E_begin h.1) (Q_MO_begin _ _ _)) (fun r hr => h.fr hr.2 (fun k j q => by first | omega | (dsimp only at q; omega)))
theorem K_villageEdge {x1 x2 : Int32} {M : Mem} (h : InvR M) : wpO (F_MO_villageEdge x1 x2 M) (fun r => InvR r.2) :=
  wp_mono (wp_q (E_villageEdge h.1) (Q_MO_villageEdge _ _ _)) (fun r hr => h.fr hr.2 (fun k j q => by first | omega | (dsimp only at q; omega)))
theorem K_village {x1 : Int32} {M : Mem} (h : InvR M) : wpO (F_MO_village x1 M) (fun r => InvR r.2) :=
  wp_mono (wp_q (E_village h.1) (Q_MO_village _ _)) (fun r hr => h.fr hr.2 (fun k j q => by first | omega | (dsimp only at q; omega)))
theorem K_count {x1 : Int32} {M : Mem} (h : InvR M) : wpO (F_MO_count x1 M) (fun r => InvR r.2) :=
  wp_mono (wp_q (E_count h.1) (Q_MO_count _ _)) (fun r hr => h.fr hr.2 (fun k j q => by first | omega | (dsimp only at q; omega)))
