/-! ===== field; days that are drawn ===== -/
theorem e144n (x : Nat) : 144 + iI (x : Int) = iI ((144 + x : Nat) : Int) := e144 x
theorem V_field {x y : Int32} {M : Mem} (h : RY M) : wpO (F_LAW_field x y M) (fun r1 => wpO (F_MO_field x y r1.2) (fun O => RY O ∧ O.1 94 0 = r1.1)) := by
  refine wp2 (B := fun r1 O => O.1 94 0 = r1.1) (Y_field h) (fun r1 r2 e1 e2 => ?_) (fun r s p q => ⟨p, q⟩)
  have f1 := wpO_of (T_LAW_field x y M) e1
  have cw := h.cw
  have e95 : r1.2.1 95 = M.1 95 := funext (f1 95 (by omega)).1
  have hN : (mSI r1.2 94 0 0).1 95 = M.1 95 := e95
  have n0 : (mSI r1.2 94 0 0).1 94 0 = 0 := mI_hit
  unfold F_LAW_field F_KW_field at e1
  unfold F_MO_field at e2
  generalize mSI r1.2 94 0 0 = N at *
  rw [R_noWay hN cw.2.1, bs] at e2
  by_cases c : wOk (M.1 95) x
  · rw [decide_eq_true c] at e2
    rw [cw.way_ok c, xb_inr] at e1
    change ((F_MO_throwsIf (b2i false) 1 N).bind _) = some r2 at e2
    rw [S_throws_f, bs, if_f1, S_within, bs] at e2
    by_cases c2 : 0 ≤ y ∧ y ≤ 1000
    · rw [decide_eq_true c2, if_pos rfl] at e2
      rw [S_num_ok c2, xb_inr] at e1
      obtain ⟨u, eu, -⟩ := T_Row_put 9 8 x y.toInt64 M
      rw [eu, bs, hb_inr] at e1
      cases e1
      unfold F_MO_field_j35 at e2
      rw [S_throws_f, bs, if_f1] at e2
      by_cases c3 : inb (144 + x) 564
      · rw [if_pos c3] at e2
        cases e2
        show (mSI N 95 _ _).1 94 0 = 0
        rw [mI_cell (by decide), n0]
      · rw [if_neg c3] at e2
        cases e2
    · rw [decide_eq_false c2, if_neg (by decide)] at e2
      rw [S_num_no c2, xb_inl, hb_inl, if_neg (by decide), if_pos rfl] at e1
      unfold F_MO_field_j35 at e2
      rw [S_throws_t, bs, if_pos rfl] at e2
      cases e1
      cases e2
      exact mI_hit
  · rw [decide_eq_false c] at e2
    rw [cw.way_no c, xb_inl, hb_inl, if_pos rfl] at e1
    change ((F_MO_throwsIf (b2i true) 1 N).bind _) = some r2 at e2
    rw [S_throws_t, bs, if_pos rfl] at e2
    cases e1
    cases e2
    exact mI_hit
/-! drawn -/
theorem bit16 (s : Int32) : ((ush s 16) &&& 32767 : Int32) = ((s >>> ((16 : Int32) &&& 31)) &&& 32767 : Int32) := by
  apply Int32.toBitVec.inj
  show (s.toBitVec >>> 16) &&& (32767#32) = (s.toBitVec.sshiftRight 16) &&& (32767#32)
  refine BitVec.eq_of_getLsbD_eq (fun i hi => ?_)
  rw [BitVec.getLsbD_and, BitVec.getLsbD_and, BitVec.getLsbD_ushiftRight, BitVec.getLsbD_sshiftRight]
  by_cases c : i < 15
  · rw [decide_eq_false (show ¬ 32 ≤ i by omega), if_pos (show 16 + i < 32 by omega)]
    rfl
  · have k : ∀ i, i < 32 → ¬ i < 15 → (32767#32).getLsbD i = false := by decide
    rw [k i hi c, Bool.and_false, Bool.and_false]
def nxS (s : Int32) : Int32 := s * 1103515245 + 12345
def misB (W : Nat → Int32) (s : Int32) : Bool := decide (¬ W 3 ≤ irm ((s >>> (16 &&& 31)) &&& 32767) (W 4))
/-- what an eye sees of an act, and the seed behind it -/
def seeS (W : Nat → Int32) (act : Nat) (s : Int32) : Nat × Int32 := if W 3 = 0 then (act, s) else (if misB W (nxS s) = true then 1 - act else act, nxS s)
theorem seeS_b {W : Nat → Int32} {act : Nat} {s : Int32} (h : act ≤ 2) : (seeS W act s).1 ≤ 2 := by
  unfold seeS
  by_cases c : W 3 = 0
  · rw [if_pos c]
    exact h
  · rw [if_neg c]
    by_cases c2 : misB W (nxS s) = true
    · rw [if_pos c2]
      dsimp only
      omega
    · rw [if_neg c2]
      exact h
theorem seed_c (s : Int32) : (1103515245 * s) + 12345 = nxS s := by
  unfold nxS
  rw [Int32.mul_comm]
theorem C_seeS {W : Nat → Int32} {act : Nat} {s : Int32} {M : Mem} (h : CW W M) (h5 : M.1 79 5 = s) (ha : act ≤ 2) (h2 : ¬ W 3 = 0 → act < 2) : wpO (F_Walk_see (iI (act : Int)) M) (fun r => r.1 = iI ((seeS W act s).1 : Int) ∧ r.2.1 79 5 = (seeS W act s).2 ∧ Same (fun k => k = 79) M r.2 ∧ ∀ j, j ≠ 5 → r.2.1 79 j = M.1 79 j) := by
  have rm := h.2.1.mis
  have e3 := h.2.2.1.2.2.2.1
  have e4 := h.2.2.1.2.2.2.2.1
  have l1 : (1 : Int32) = iI 1 := rfl
  unfold F_Walk_see
  rw [h5, seed_c, e3]
  refine wp_if (fun c => wp_some ?_) (fun c => ?_)
  · unfold seeS
    rw [if_pos c]
    exact ⟨rfl, h5, Same.rfl', fun _ _ => rfl⟩
  have c4 : (mSI M 79 5 (nxS s)).1 1 4 = W 4 := (mI_cell (by decide)).trans e4
  have c3 : (mSI M 79 5 (nxS s)).1 1 3 = W 3 := (mI_cell (by decide)).trans e3
  have c5 : (mSI M 79 5 (nxS s)).1 79 5 = nxS s := mI_hit
  rw [c4, c3, c5, e4, bit16]
  refine wp_t (by rw [lt_i, li0]; omega) (wp_t (fun q => by rw [q, li0] at rm; omega) ?_)
  have f : Same (fun k => k = 79) M (mSI M 79 5 (nxS s)) := f79 f79r
  have es : seeS W act s = (if misB W (nxS s) = true then 1 - act else act, nxS s) := by
    unfold seeS
    rw [if_neg c]
  refine wp_if (fun c6 => wp_some ?_) (fun c6 => wp_some ?_)
  · have hm : misB W (nxS s) = false := decide_eq_false (fun w => w c6)
    rw [es, hm]
    exact ⟨rfl, mI_hit, f, fun j hj => mI_ix hj⟩
  · have hm : misB W (nxS s) = true := decide_eq_true c6
    rw [es, hm]
    refine ⟨?_, mI_hit, f, fun j hj => mI_ix hj⟩
    show 1 - iI (act : Int) = iI ((1 - act : Nat) : Int)
    rw [l1, iI_sub]
    congr 1
    have := h2 c
    omega
theorem R_seeS {W : Nat → Int32} {s : Int32} {M : Mem} (hW : M.1 95 = W) (h : RIW W) (h5 : M.1 94 37 = s) : wpO (F_MO_isMistaken M) (fun r => frS M r.2 ∧ ((W 3 = 0 ∧ r.1 = false ∧ r.2.1 94 37 = s) ∨ (¬ W 3 = 0 ∧ r.1 = misB W (nxS s) ∧ r.2.1 94 37 = nxS s))) := by
  have rm := h.mis
  have hne : ¬ W 4 = 0 := fun q => by
    rw [q, li0] at rm
    omega
  unfold F_MO_isMistaken
  simp only [tn3, tn4, mI_cell (show (95 : Nat) ≠ 94 by decide)]
  rw [hW, h5]
  refine wp_t ib3 (wp_if (fun c => wp_some ⟨frS.rf, Or.inl ⟨c, rfl, h5⟩⟩) (fun c => ?_))
  refine wp_t ib4 (wp_t hne (wp_t ib3 ?_))
  have e : (mSI M 94 37 ((s * 1103515245) + 12345)).1 94 37 = nxS s := mI_hit
  rw [e]
  refine wp_if (fun c6 => wp_some ⟨frS.up, Or.inr ⟨c, ?_, e⟩⟩) (fun c6 => wp_some ⟨frS.up, Or.inr ⟨c, ?_, e⟩⟩)
  · exact (decide_eq_false (fun w => w c6)).symm
  · exact (decide_eq_true c6).symm
/-- the days: moods, sum, seed -/
def drS (W : Nat → Int32) (a b p : Nat) (s0 : Int32) : Nat → Nat × Nat × Int32 × Int32
  | 0 => (0, 0, 0, s0)
  | k + 1 =>
    let z := drS W a b p s0 k
    let u := seeS W (dz W b z.2.1) z.2.2.2
    let v := seeS W (dz W a z.1) u.2
    (gz W a z.1 u.1, gz W b z.2.1 v.1, z.2.2.1 + iI (br W (dz W a z.1) (dz W b z.2.1) p), v.2)
theorem drS_s {W : Nat → Int32} {a b p k : Nat} {s0 : Int32} {x y : Nat} {m s : Int32} (h : drS W a b p s0 k = (x, y, m, s)) : drS W a b p s0 (k + 1) = (gz W a x (seeS W (dz W b y) s).1, gz W b y (seeS W (dz W a x) (seeS W (dz W b y) s).2).1, m + iI (br W (dz W a x) (dz W b y) p), (seeS W (dz W a x) (seeS W (dz W b y) s).2).2) := by
  show (let z := drS W a b p s0 k
    let u := seeS W (dz W b z.2.1) z.2.2.2
    let v := seeS W (dz W a z.1) u.2
    (gz W a z.1 u.1, gz W b z.2.1 v.1, z.2.2.1 + iI (br W (dz W a z.1) (dz W b z.2.1) p), v.2)) = _
  rw [h]
/-- what is told of them -/
def drV (W : Nat → Int32) (a b : Nat) (n w : Nat) (s0 : Int32) : Int32 := if w = 2 then iI ((drS W a b (w % 2) s0 n).1 : Int) else if w = 3 then iI ((drS W a b (w % 2) s0 n).2.1 : Int) else (drS W a b (w % 2) s0 n).2.2.1
theorem C_draw {W : Nat → Int32} {a b n w : Nat} {s0 : Int32} {M : Mem} (h : CW W M) (ha : (a : Int) < (W 5).toInt) (hb : (b : Int) < (W 5).toInt) (h1 : barW W a = false) (h2 : barW W b = false) (hE : ¬ W 3 = 0 → (W 0).toInt = 2) (hn : n ≤ 100) (hw : w ≤ 3) : wpO (F_Walk_draw (iI (a : Int)) (iI (b : Int)) (iI (n : Int)) s0 (iI (w : Int)) M) (fun r => r.1 = drV W a b n w s0) := by
  have hA := h.wk ha
  have hB := h.wk hb
  have mA := hA.moK
  have mB := hB.moK
  have l2 : (2 : Int32) = iI 2 := rfl
  unfold F_Walk_draw
  refine wp_bind (C_start h) (fun N0 hN0 => ?_)
  have hN1 : WK W a b 0 0 (mSI N0 79 5 s0) := by
    obtain ⟨⟨cw, e1, e2, e3, e4⟩, f⟩ := hN0
    exact ⟨cw.sm (f79 f79r) (fun k q => by omega), (mI_ix (by decide)).trans e1, (mI_ix (by decide)).trans e2, (mI_ix (by decide)).trans e3, (mI_ix (by decide)).trans e4⟩
  have h5 : (mSI N0 79 5 s0).1 79 5 = s0 := mI_hit
  generalize mSI N0 79 5 s0 = N1 at *
  unfold F_Walk_draw_l18
  refine wp_bind (Ψ := fun r => WK W a b (drS W a b (w % 2) s0 n).1 (drS W a b (w % 2) s0 n).2.1 r.2 ∧ (w < 2 → r.1 = (drS W a b (w % 2) s0 n).2.2.1)) ?_ (fun r hr => ?_)
  · refine wp_iterS (P := fun (k : Nat) (z : Int32 × Int32 × Mem) => z.2.1 = iI (k : Int) ∧ ∃ (x y : Nat) (m s : Int32), drS W a b (w % 2) s0 k = (x, y, m, s) ∧ x < mo W a ∧ y < mo W b ∧ WK W a b x y z.2.2 ∧ z.2.2.1 79 5 = s ∧ (w < 2 → z.1 = m)) n ?_ FUEL (0, 0, N1) ⟨rfl, 0, 0, 0, s0, rfl, mA.1, mB.1, hN1, h5, fun _ => rfl⟩ (FUEL_big (by omega))
    rintro k ⟨z1, z2, N⟩ hk ⟨e2, x, y, m, s, ed, hx, hy, wk, hs, hz⟩
    dsimp only at e2 wk hs hz
    subst e2
    unfold F_Walk_draw_b18
    dsimp only
    refine wp_if (fun c => wp_some ?_) (fun c => ?_)
    · rw [iI_le (by omega) (by omega) (by omega) (by omega)] at c
      have : k = n := by omega
      subst this
      rw [ed]
      exact ⟨wk, hz⟩
    rw [iI_le (by omega) (by omega) (by omega) (by omega)] at c
    have d1 := hA.dzK hx
    have d2 := hB.dzK hy
    have n1 := barW_not h1 hx
    have n2 := barW_not h2 hy
    rw [wk.2.1, wk.2.2.1, wk.2.2.2.1, wk.2.2.2.2, C_actOf wk.1 ha hx, bs, C_actOf wk.1 hb hy, bs]
    have j83 : ∀ (q0 q1 : Int32), (w < 2 → q0 + q1 = m + iI (br W (dz W a x) (dz W b y) (w % 2))) → wpO (F_Walk_draw_j83 (iI (n : Int)) (iI (w : Int)) (iI (k : Int)) (iI (dz W a x : Int)) (iI (dz W b y : Int)) q0 q1 N) (sumP (fun s' => k < n ∧ s'.2.1 = iI ((k + 1 : Nat) : Int) ∧ ∃ (x y : Nat) (m s : Int32), drS W a b (w % 2) s0 (k + 1) = (x, y, m, s) ∧ x < mo W a ∧ y < mo W b ∧ WK W a b x y s'.2.2 ∧ s'.2.2.1 79 5 = s ∧ (w < 2 → s'.1 = m)) (fun r => WK W a b (drS W a b (w % 2) s0 n).1 (drS W a b (w % 2) s0 n).2.1 r.2 ∧ (w < 2 → r.1 = (drS W a b (w % 2) s0 n).2.2.1))) := by
      intro q0 q1 hq
      unfold F_Walk_draw_j83
      refine wp_bind (C_seeS wk.1 hs d2.1 (fun q => by have := hE q; omega)) (fun r4 h4 => ?_)
      obtain ⟨g1, g2, g3, g4⟩ := h4
      have wk4 : WK W a b x y r4.2 := ⟨wk.1.sm g3 (fun k q => by omega), (g4 1 (by decide)).trans wk.2.1, (g4 2 (by decide)).trans wk.2.2.1, (g4 3 (by decide)).trans wk.2.2.2.1, (g4 4 (by decide)).trans wk.2.2.2.2⟩
      refine wp_bind (C_seeS wk4.1 g2 d1.1 (fun q => by have := hE q; omega)) (fun r5 h5 => ?_)
      obtain ⟨k1, k2, k3, k4⟩ := h5
      have wk5 : WK W a b x y r5.2 := ⟨wk4.1.sm k3 (fun k q => by omega), (k4 1 (by decide)).trans wk4.2.1, (k4 2 (by decide)).trans wk4.2.2.1, (k4 3 (by decide)).trans wk4.2.2.2.1, (k4 4 (by decide)).trans wk4.2.2.2.2⟩
      rw [g1, k1]
      have u1 : (seeS W (dz W b y) s).1 ≤ 2 := seeS_b d2.1
      have u2 : (seeS W (dz W a x) (seeS W (dz W b y) s).2).1 ≤ 2 := seeS_b d1.1
      refine wp_bind (C_goOn wk5 ha hb hx hy (by omega) (by omega)) (fun P hP => wp_some ⟨by omega, iI_succ k, _, _, _, _, drS_s ed, (hA.gzK hx (by omega)).1, (hB.gzK hy (by omega)).1, hP.1, hP.2.2.trans k2, hq⟩)
    rw [l2]
    refine wp_if (fun c2 => ?_) (fun c2 => ?_)
    · rw [iI_le (by omega) (by omega) (by omega) (by omega)] at c2
      exact j83 _ _ (fun q => absurd q (by omega))
    · rw [iI_le (by omega) (by omega) (by omega) (by omega)] at c2
      rw [C_brW wk.1 (by omega) (by omega) (by omega), bs]
      exact j83 _ _ (fun q => by rw [hz q, show w % 2 = w by omega])
  · obtain ⟨wk, hs⟩ := hr
    unfold F_Walk_draw_j116
    rw [l2]
    refine wp_if (fun c2 => ?_) (fun c2 => wp_some ?_)
    · rw [iI_le (by omega) (by omega) (by omega) (by omega)] at c2
      refine wp_if (fun c3 => wp_some ?_) (fun c3 => wp_some ?_)
      · rw [iI_eq (by omega) (by omega) (by omega) (by omega)] at c3
        show r.2.1 79 3 = _
        unfold drV
        rw [if_pos (show w = 2 by omega), wk.2.2.2.1]
      · rw [iI_eq (by omega) (by omega) (by omega) (by omega)] at c3
        show r.2.1 79 4 = _
        unfold drV
        rw [if_neg (show ¬ w = 2 by omega), if_pos (show w = 3 by omega), wk.2.2.2.2]
    · rw [iI_le (by omega) (by omega) (by omega) (by omega)] at c2
      show r.1 = _
      unfold drV
      rw [if_neg (show ¬ w = 2 by omega), if_neg (show ¬ w = 3 by omega)]
      exact hs (by omega)
theorem R_draw {W : Nat → Int32} {a b n w : Nat} {s0 : Int32} {M : Mem} (hW : M.1 95 = W) (h : RIW W) (h37 : M.1 94 37 = s0) (ha : (a : Int) < (W 5).toInt) (hb : (b : Int) < (W 5).toInt) (h1 : barW W a = false) (h2 : barW W b = false) (hE : ¬ W 3 = 0 → (W 0).toInt = 2) (hn : n ≤ 100) (hw : w ≤ 3) : wpO (F_MO_drawn_l139 (iI (a : Int)) (iI (b : Int)) (iI (n : Int)) (iI (w : Int)) 0 0 0 0 M) (fun r => r.1 = drV W a b n w s0 ∧ frS M r.2) := by
  have hA := h.way a ha
  have hB := h.way b hb
  have mA := hA.moK
  have mB := hB.moK
  have r5 := h.ways
  have l2 : (2 : Int32) = iI 2 := rfl
  have l1 : (1 : Int32) = iI 1 := rfl
  have hw2 : irm (iI (w : Int)) 2 = iI ((w % 2 : Nat) : Int) := irm2 (by omega)
  unfold F_MO_drawn_l139
  refine wp_bind (Ψ := fun r => r.1 = iI ((drS W a b (w % 2) s0 n).1 : Int) ∧ r.2.1 = iI ((drS W a b (w % 2) s0 n).2.1 : Int) ∧ r.2.2.1 = (drS W a b (w % 2) s0 n).2.2.1 ∧ frS M r.2.2.2) ?_ (fun r hr => ?_)
  · refine wp_iterS (P := fun (k : Nat) (z : Int32 × Int32 × Int32 × Int32 × Mem) => z.2.2.2.1 = iI (k : Int) ∧ frS M z.2.2.2.2 ∧ ∃ (x y : Nat) (m s : Int32), drS W a b (w % 2) s0 k = (x, y, m, s) ∧ x < mo W a ∧ y < mo W b ∧ z.1 = iI (x : Int) ∧ z.2.1 = iI (y : Int) ∧ z.2.2.1 = m ∧ z.2.2.2.2.1 94 37 = s) n ?_ FUEL (0, 0, 0, 0, M) ⟨rfl, frS.rf, 0, 0, 0, s0, rfl, mA.1, mB.1, rfl, rfl, rfl, h37⟩ (FUEL_big (by omega))
    rintro k ⟨z1, z2, z3, z4, N⟩ hk ⟨e4, hN, x, y, m, s, ed, hx, hy, e1, e2, e3, hs⟩
    dsimp only at e4 e1 e2 e3 hN hs
    subst e4
    subst e1
    subst e2
    subst e3
    have e95 : N.1 95 = W := hN.w95.trans hW
    unfold F_MO_drawn_b139
    dsimp only
    refine wp_if (fun c => wp_some ?_) (fun c => ?_)
    · rw [iI_le (by omega) (by omega) (by omega) (by omega)] at c
      have : k = n := by omega
      subst this
      rw [ed]
      exact ⟨rfl, rfl, rfl, hN⟩
    rw [iI_le (by omega) (by omega) (by omega) (by omega)] at c
    have d1 := hA.dzK hx
    have d2 := hB.dzK hy
    have n1 := barW_not h1 hx
    have n2 := barW_not h2 hy
    have eD : ∀ (u v : Nat), u ≤ 8 → WOKW W u → v < mo W u → F_MO_does (iI (u : Int)) (iI (v : Int)) N = some (iI (dz W u v : Int)) := fun u v h8 hU hv => by
      have := N_doesW (M := N) h8 (by rw [e95]; exact hU) (by rw [e95]; exact hv)
      rw [e95] at this
      exact this
    have eB : F_MO_brings (iI (dz W a x : Int)) (iI (dz W b y : Int)) (iI ((w % 2 : Nat) : Int)) N = some (iI (br W (dz W a x) (dz W b y) (w % 2))) := by
      have := N_brings (x := dz W a x) (y := dz W b y) (p := w % 2) (by omega) (by omega) (by omega) N
      rw [e95] at this
      exact this
    have flip : ∀ (d : Nat), (d : Int) < (W 0).toInt → ¬ W 3 = 0 → 1 - iI (d : Int) = iI ((1 - d : Nat) : Int) := by
      intro d hd h3
      rw [hE h3] at hd
      rw [l1, iI_sub]
      congr 1
      omega
    rw [eD a x (by omega) hA hx, bs, eD b y (by omega) hB hy, bs, hw2, eB, bs]
    have last : ∀ (N2 : Mem) (u v : Nat) (q : Int32), frS M N2 → u ≤ 2 → v ≤ 2 → u = (seeS W (dz W b y) s).1 → v = (seeS W (dz W a x) (seeS W (dz W b y) s).2).1 → N2.1 94 37 = (seeS W (dz W a x) (seeS W (dz W b y) s).2).2 → q = z3 + iI (br W (dz W a x) (dz W b y) (w % 2)) → wpO (F_MO_drawn_j214 (iI (a : Int)) (iI (b : Int)) (iI (n : Int)) (iI (w : Int)) (iI (x : Int)) (iI (y : Int)) q (iI (k : Int)) (iI (u : Int)) (iI (v : Int)) N2) (sumP (fun z => k < n ∧ z.2.2.2.1 = iI ((k + 1 : Nat) : Int) ∧ frS M z.2.2.2.2 ∧ ∃ (x y : Nat) (m s : Int32), drS W a b (w % 2) s0 (k + 1) = (x, y, m, s) ∧ x < mo W a ∧ y < mo W b ∧ z.1 = iI (x : Int) ∧ z.2.1 = iI (y : Int) ∧ z.2.2.1 = m ∧ z.2.2.2.2.1 94 37 = s) (fun r => r.1 = iI ((drS W a b (w % 2) s0 n).1 : Int) ∧ r.2.1 = iI ((drS W a b (w % 2) s0 n).2.1 : Int) ∧ r.2.2.1 = (drS W a b (w % 2) s0 n).2.2.1 ∧ frS M r.2.2.2)) := by
      intro N2 u v q hN2 hu hv eu ev es eq
      have f95 : N2.1 95 = W := hN2.w95.trans hW
      have g1 := N_goesW (M := N2) (w := a) (m := x) (s := u) (by omega) (by rw [f95]; exact hA) (by rw [f95]; exact hx) hu
      have g2 := N_goesW (M := N2) (w := b) (m := y) (s := v) (by omega) (by rw [f95]; exact hB) (by rw [f95]; exact hy) hv
      rw [f95] at g1 g2
      unfold F_MO_drawn_j214
      rw [g1, bs, g2, bs]
      have ds := drS_s ed
      rw [← ev, ← eu, ← eq] at ds
      exact wp_some ⟨by omega, iI_succ k, hN2, _, _, _, _, ds, (hA.gzK hx (by omega)).1, (hB.gzK hy (by omega)).1, rfl, rfl, rfl, es⟩
    refine wp_bind (R_seeS e95 h hs) (fun r12 h12 => ?_)
    obtain ⟨fr12, s12⟩ := h12
    have f12 := hN.tr fr12
    have e12 : r12.2.1 95 = W := f12.w95.trans hW
    have mid : ∀ (u : Nat) (q : Int32), u ≤ 2 → u = (seeS W (dz W b y) s).1 → r12.2.1 94 37 = (seeS W (dz W b y) s).2 → q = z3 + iI (br W (dz W a x) (dz W b y) (w % 2)) → wpO (F_MO_drawn_j196 (iI (a : Int)) (iI (b : Int)) (iI (n : Int)) (iI (w : Int)) (iI (x : Int)) (iI (y : Int)) q (iI (k : Int)) (iI (dz W a x : Int)) (iI (u : Int)) r12.2) (sumP (fun z => k < n ∧ z.2.2.2.1 = iI ((k + 1 : Nat) : Int) ∧ frS M z.2.2.2.2 ∧ ∃ (x y : Nat) (m s : Int32), drS W a b (w % 2) s0 (k + 1) = (x, y, m, s) ∧ x < mo W a ∧ y < mo W b ∧ z.1 = iI (x : Int) ∧ z.2.1 = iI (y : Int) ∧ z.2.2.1 = m ∧ z.2.2.2.2.1 94 37 = s) (fun r => r.1 = iI ((drS W a b (w % 2) s0 n).1 : Int) ∧ r.2.1 = iI ((drS W a b (w % 2) s0 n).2.1 : Int) ∧ r.2.2.1 = (drS W a b (w % 2) s0 n).2.2.1 ∧ frS M r.2.2.2)) := by
      intro u q hu eu es eq
      unfold F_MO_drawn_j196
      refine wp_bind (R_seeS e12 h es) (fun r13 h13 => ?_)
      obtain ⟨fr13, s13⟩ := h13
      rcases s13 with ⟨c0, g1, g2⟩ | ⟨c0, g1, g2⟩
      · have ee : seeS W (dz W a x) (seeS W (dz W b y) s).2 = (dz W a x, (seeS W (dz W b y) s).2) := by
          unfold seeS
          rw [if_pos c0]
        rw [g1]
        exact wp_ff (last _ _ _ _ (f12.tr fr13) hu d1.1 eu (by rw [ee]) (by rw [g2, ee]) eq)
      · have ee : seeS W (dz W a x) (seeS W (dz W b y) s).2 = (if misB W (nxS (seeS W (dz W b y) s).2) = true then 1 - dz W a x else dz W a x, nxS (seeS W (dz W b y) s).2) := by
          show (if W 3 = 0 then _ else _) = _
          rw [if_neg c0]
        rw [g1]
        cases hm : misB W (nxS (seeS W (dz W b y) s).2) with
        | true =>
          rw [hm, if_pos rfl] at ee
          rw [flip _ n1 c0]
          exact wp_tt (last _ _ _ _ (f12.tr fr13) hu (by omega) eu (by rw [ee]) (by rw [g2, ee]) eq)
        | false =>
          rw [hm, if_neg (by decide)] at ee
          exact wp_ff (last _ _ _ _ (f12.tr fr13) hu d1.1 eu (by rw [ee]) (by rw [g2, ee]) eq)
    rcases s12 with ⟨c0, g1, g2⟩ | ⟨c0, g1, g2⟩
    · have ee : seeS W (dz W b y) s = (dz W b y, s) := by
        unfold seeS
        rw [if_pos c0]
      rw [g1]
      exact wp_ff (mid _ _ d2.1 (by rw [ee]) (by rw [g2, ee]) rfl)
    · have ee : seeS W (dz W b y) s = (if misB W (nxS s) = true then 1 - dz W b y else dz W b y, nxS s) := by
        unfold seeS
        rw [if_neg c0]
      rw [g1]
      cases hm : misB W (nxS s) with
      | true =>
        rw [hm, if_pos rfl] at ee
        rw [flip _ n2 c0]
        exact wp_tt (mid _ _ (by omega) (by rw [ee]) (by rw [g2, ee]) rfl)
      | false =>
        rw [hm, if_neg (by decide)] at ee
        exact wp_ff (mid _ _ d2.1 (by rw [ee]) (by rw [g2, ee]) rfl)
  · obtain ⟨h1', h2', h3', fr⟩ := hr
    unfold F_MO_drawn_j244
    rw [l2]
    refine wp_if (fun c2 => ?_) (fun c2 => wp_some ⟨?_, fr⟩)
    · rw [iI_le (by omega) (by omega) (by omega) (by omega)] at c2
      refine wp_if (fun c3 => wp_some ⟨?_, fr⟩) (fun c3 => wp_some ⟨?_, fr⟩)
      · rw [iI_eq (by omega) (by omega) (by omega) (by omega)] at c3
        show r.1 = _
        unfold drV
        rw [if_pos (show w = 2 by omega), h1']
      · rw [iI_eq (by omega) (by omega) (by omega) (by omega)] at c3
        show r.2.1 = _
        unfold drV
        rw [if_neg (show ¬ w = 2 by omega), if_pos (show w = 3 by omega), h2']
    · rw [iI_le (by omega) (by omega) (by omega) (by omega)] at c2
      show r.2.2.1 = _
      unfold drV
      rw [if_neg (show ¬ w = 2 by omega), if_neg (show ¬ w = 3 by omega), h3']
theorem V_drawn {x1 x2 x3 x4 x5 : Int32} {M : Mem} (h : RY M) : wpO (F_LAW_drawn x1 x2 x3 x4 x5 M) (fun r1 => wpO (F_MO_drawn x1 x2 x3 x4 x5 r1.2) (fun r2 => RY r2.2 ∧ r2.2.1 94 0 = r1.1 ∧ (r1.1 = 0 → r2.2.2 121 0 = r2.1.toInt64))) := by
  refine wp2 (B := fun r1 r2 => r2.2.1 94 0 = r1.1 ∧ (r1.1 = 0 → r2.2.2 121 0 = r2.1.toInt64)) (Y_drawn h) (fun r1 r2 e1 e2 => ?_) (fun r s p q => ⟨p, q⟩)
  have f1 := wpO_of (T_LAW_drawn x1 x2 x3 x4 x5 M) e1
  have f2 := Q_MO_drawn x1 x2 x3 x4 x5 r1.2 r2 e2
  have cw := h.cw
  have hR := cw.2.1
  have e95 : r1.2.1 95 = M.1 95 := funext (f1 95 (by omega)).1
  have e121 : r2.2.2 121 0 = r1.2.2 121 0 := (f2 121 0 (by omega)).2
  have hN : (mSI r1.2 94 0 0).1 95 = M.1 95 := e95
  have n0 : (mSI r1.2 94 0 0).1 94 0 = 0 := mI_hit
  have l0 : (0 : Int32) = iI 0 := rfl
  unfold F_LAW_drawn F_KW_drawn at e1
  unfold F_MO_drawn at e2
  generalize mSI r1.2 94 0 0 = N at *
  rw [R_ways hN hR (J := fun b => F_MO_drawn_j27 x1 x2 x3 x4 x5 b N)] at e2
  by_cases c : wOk2 (M.1 95) x1 x2
  · rw [decide_eq_true c] at e2
    rw [cw.way_ok c.1, xb_inr, cw.way_ok c.2, xb_inr] at e1
    obtain ⟨a, rfl, ha⟩ := wOk_nat c.1
    obtain ⟨b, rfl, hb⟩ := wOk_nat c.2
    change F_MO_drawn_j27 (iI (a : Int)) (iI (b : Int)) x3 x4 x5 false N = some r2 at e2
    unfold F_MO_drawn_j27 at e2
    rw [S_throws_f, bs, if_f1, S_within, bs] at e2
    by_cases c3 : 0 ≤ x3 ∧ x3 ≤ 100
    · rw [decide_eq_true c3, if_pos rfl] at e2
      rw [S_num_ok c3, xb_inr] at e1
      unfold F_MO_drawn_j50 at e2
      rw [S_throws_f, bs, if_f1, R_areB hN hR ha hb, bs] at e2
      rw [cw.free ha] at e1
      have j89t : F_MO_drawn_j89 (iI (a : Int)) (iI (b : Int)) x3 x4 x5 true N = some r2 → r2.2.1 94 0 = 3 := fun q => by
        unfold F_MO_drawn_j89 at q
        rw [S_throws_t, bs, if_pos rfl] at q
        cases q
        exact mI_hit
      cases hA : barW (M.1 95) a with
      | true =>
        rw [hA, if_pos rfl, xb_inl, hb_inl, if_neg (by decide), if_neg (by decide), if_pos rfl] at e1
        rw [hA] at e2
        change F_MO_drawn_j89 (iI (a : Int)) (iI (b : Int)) x3 x4 x5 true N = some r2 at e2
        cases e1
        exact ⟨j89t e2, fun w => absurd w nz3⟩
      | false =>
        rw [hA, if_neg (by decide), xb_inr, cw.free hb] at e1
        rw [hA] at e2
        cases hB : barW (M.1 95) b with
        | true =>
          rw [hB, if_pos rfl, xb_inl, hb_inl, if_neg (by decide), if_neg (by decide), if_pos rfl] at e1
          rw [hB] at e2
          change F_MO_drawn_j89 (iI (a : Int)) (iI (b : Int)) x3 x4 x5 true N = some r2 at e2
          cases e1
          exact ⟨j89t e2, fun w => absurd w nz3⟩
        | false =>
          rw [hB, if_neg (by decide), xb_inr, cw.2.2.1.2.2.2.1] at e1
          rw [hB] at e2
          change (if inb ((3 : Int32)) 564 then if N.1 95 ((3 : Int32)).toNatClampNeg ≤ 0 then F_MO_drawn_j89 (iI (a : Int)) (iI (b : Int)) x3 x4 x5 false N else (F_MO_actMany N).bind fun r16 => if r16 ≤ 2 then F_MO_drawn_j89 (iI (a : Int)) (iI (b : Int)) x3 x4 x5 false N else F_MO_drawn_j89 (iI (a : Int)) (iI (b : Int)) x3 x4 x5 true N else none) = some r2 at e2
          rw [if_pos ib3, tn3, hN] at e2
          have rm := hR.mis
          have r0 := hR.acts
          -- from here on nothing bars
          have good : (¬ (M.1 95) 3 = 0 → ((M.1 95) 0).toInt = 2) → hbind (F_KW_drawn_j42 (iI (a : Int)) (iI (b : Int)) x3 x4 x5 M) (fun E1 M1 => if E1 = "java/lang/IndexOutOfBoundsException" then some ((1, M1)) else if E1 = "java/lang/IllegalArgumentException" then some ((2, M1)) else if E1 = "java/lang/IllegalStateException" then some ((3, M1)) else if E1 = "java/util/NoSuchElementException" then some ((4, M1)) else none) (fun r1 M1 => if inb ((0 : Int32)) 1 then some ((0, mSL M1 121 ((0 : Int32)).toNatClampNeg r1.toInt64)) else none) = some r1 → F_MO_drawn_j89 (iI (a : Int)) (iI (b : Int)) x3 x4 x5 false N = some r2 → r2.2.1 94 0 = r1.1 ∧ (r1.1 = 0 → r2.2.2 121 0 = r2.1.toInt64) := by
            intro hE q1 q2
            unfold F_KW_drawn_j42 at q1
            unfold F_MO_drawn_j89 at q2
            rw [S_throws_f, bs, if_f1, S_within, bs] at q2
            by_cases c5 : 0 ≤ x5 ∧ x5 ≤ 3
            · rw [decide_eq_true c5, if_pos rfl] at q2
              rw [S_what_ok c5, xb_inr] at q1
              unfold F_MO_drawn_j112 at q2
              rw [S_throws_f, bs, if_f1] at q2
              have b3 := i2 c3
              have b5 := i2 c5
              rw [li0] at b3 b5
              rw [li3] at b5
              have l100 : (100 : Int32).toInt = 100 := by decide
              rw [l100] at b3
              have ex3 : x3 = iI ((x3.toInt.toNat : Nat) : Int) := iI_nat b3.1
              have ex5 : x5 = iI ((x5.toInt.toNat : Nat) : Int) := iI_nat b5.1
              have n3 : x3.toInt.toNat ≤ 100 := by omega
              have n5 : x5.toInt.toNat ≤ 3 := by omega
              generalize x3.toInt.toNat = n at *
              generalize x5.toInt.toNat = w at *
              subst ex3
              subst ex5
              obtain ⟨v, ev, v1⟩ := C_draw (s0 := x4) cw ha hb hA hB hE n3 n5
              rw [ev, bs, hb_inr, if_pos ib01] at q1
              have hN4 : (mSI N 94 37 x4).1 95 = M.1 95 := (funext fun j => mI_cell (by decide)).trans hN
              obtain ⟨u, eu, u1, u2⟩ := R_draw (s0 := x4) hN4 hR mI_hit ha hb hA hB hE n3 n5
              change F_MO_drawn_l139 (iI (a : Int)) (iI (b : Int)) (iI (n : Int)) (iI (w : Int)) 0 0 0 0 (mSI N 94 37 x4) = some r2 at q2
              rw [eu] at q2
              cases q1
              cases q2
              refine ⟨?_, fun _ => ?_⟩
              · rw [u2.1 94 0 (by omega), mI_ix (by decide), n0]
              · rw [e121]
                show (mSL v.2 121 ((0 : Int32)).toNatClampNeg v.1.toInt64).2 121 0 = _
                rw [tn0, mL_hit, v1, u1]
            · rw [decide_eq_false c5, if_neg (by decide)] at q2
              rw [S_what_no c5, xb_inl, hb_inl, if_neg (by decide), if_neg (by decide), if_neg (by decide), if_pos rfl] at q1
              unfold F_MO_drawn_j112 at q2
              rw [S_throws_t, bs, if_pos rfl] at q2
              cases q1
              cases q2
              exact ⟨mI_hit, fun w => absurd w nz4⟩
          by_cases ce : (M.1 95) 3 ≤ 0
          · rw [if_pos ce] at e1 e2
            refine good (fun w => absurd ?_ w) e1 e2
            rw [le_i, li0] at ce
            rw [← iI_of ((M.1 95) 3), show ((M.1 95) 3).toInt = 0 by omega]
            rfl
          · rw [if_neg ce] at e1 e2
            rw [S_actMany, bs, hN] at e2
            unfold F_KW_needTwoActs at e1
            rw [cw.2.2.1.1] at e1
            by_cases c2 : (M.1 95) 0 = 2
            · rw [if_pos c2, xb_inr] at e1
              rw [if_pos (by rw [c2]; decide)] at e2
              exact good (fun _ => by rw [c2, li2]) e1 e2
            · rw [if_neg c2, xb_inl, hb_inl, if_neg (by decide), if_neg (by decide), if_pos rfl] at e1
              have n2 : ¬ (M.1 95) 0 ≤ 2 := fun w => c2 (by
                rw [le_i, li2] at w
                rw [← iI_of ((M.1 95) 0), show ((M.1 95) 0).toInt = 2 by omega]
                rfl)
              rw [if_neg n2] at e2
              cases e1
              exact ⟨j89t e2, fun w => absurd w nz3⟩
    · rw [decide_eq_false c3, if_neg (by decide)] at e2
      rw [S_num_no c3, xb_inl, hb_inl, if_neg (by decide), if_pos rfl] at e1
      unfold F_MO_drawn_j50 at e2
      rw [S_throws_t, bs, if_pos rfl] at e2
      cases e1
      cases e2
      exact ⟨mI_hit, fun w => absurd w nz2⟩
  · rw [decide_eq_false c] at e2
    have e1b : r1 = (1, M) := by
      by_cases c1 : wOk (M.1 95) x1
      · rw [cw.way_ok c1, xb_inr, cw.way_no (fun w => c ⟨c1, w⟩), xb_inl, hb_inl, if_pos rfl] at e1
        exact (Option.some.inj e1).symm
      · rw [cw.way_no c1, xb_inl, hb_inl, if_pos rfl] at e1
        exact (Option.some.inj e1).symm
    change F_MO_drawn_j27 x1 x2 x3 x4 x5 true N = some r2 at e2
    unfold F_MO_drawn_j27 at e2
    rw [S_throws_t, bs, if_pos rfl] at e2
    cases e2
    rw [e1b]
    exact ⟨mI_hit, fun w => absurd w nz1⟩
