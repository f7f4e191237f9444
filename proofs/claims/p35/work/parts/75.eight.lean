/-! ===== a pair with a way that is tried (its place is 8) ===== -/
def wIn (W : Nat → Int32) (w : Nat) : Prop := (w : Int) < (W 5).toInt ∨ w = 8
def RI8 (W : Nat → Int32) : Prop := RIW W ∧ WOKW W 8
theorem RI8.way {W : Nat → Int32} (h : RI8 W) (w : Nat) (hw : wIn W w) : WOKW W w := by
  rcases hw with q | q
  · exact h.1.way w q
  · rw [q]
    exact h.2
theorem RI8.w8 {W : Nat → Int32} (h : RI8 W) {w : Nat} (hw : wIn W w) : w ≤ 8 := by
  have := h.1.ways
  rcases hw with q | q
  · omega
  · omega
theorem RI8.br {W : Nat → Int32} (h : RI8 W) : brOK W := h.1.br
theorem RI8.acts {W : Nat → Int32} (h : RI8 W) : 2 ≤ (W 0).toInt ∧ (W 0).toInt ≤ 3 := h.1.acts
theorem RI8.tom {W : Nat → Int32} (h : RI8 W) : 1 ≤ (W 1).toInt ∧ (W 1).toInt < (W 2).toInt ∧ (W 2).toInt ≤ 9 := h.1.tom
theorem RI8.brj {W : Nat → Int32} (h : RI8 W) (j : Nat) (hj : j < 18) : -99 ≤ (W (9 + j)).toInt ∧ (W (9 + j)).toInt ≤ 99 := h.1.brj j hj
theorem pairS8 {W : Nat → Int32} {a b : Nat} {p q : Int} (h : RI8 W) (hA : WOKW W a) (hB : WOKW W b) (p1 : 1 ≤ p) (pq : p < q) (q12 : q ≤ 12) : chS (stW W a b) (nxW W a b) (getW W a b) p q := pairS h.1 hA hB p1 pq q12
/-- the class's cells hold a world and a way that is tried -/
def CW8 (W : Nat → Int32) (M : Mem) : Prop := True ∧ RI8 W ∧ (M.1 1 0 = W 0 ∧ M.1 1 1 = W 1 ∧ M.1 1 2 = W 2 ∧ M.1 1 3 = W 3 ∧ M.1 1 4 = W 4 ∧ M.1 1 5 = W 6 ∧ M.1 1 6 = W 5 ∧ M.1 1 7 = W 7) ∧ (∀ w : Nat, wIn W w → wyR (M.2 5) W w) ∧ (∀ j : Nat, j < 18 → M.2 3 j = (W (9 + j)).toInt64) ∧ ∀ j : Nat, (j : Int) < 2 * (W 7).toInt → M.2 7 j = (W (152 + j)).toInt64
theorem CW8.sm {S : Nat → Prop} {W : Nat → Int32} {M N : Mem} (h : CW8 W M) (f : Same S M N) (hs : ∀ k, S k → ¬ (k = 1 ∨ k = 3 ∨ k = 5 ∨ k = 7 ∨ k = 95)) : CW8 W N := by
  obtain ⟨-, w1, ⟨h0, h1, h2, h3, h4, h5, h6, h7⟩, w2, w3, w4⟩ := h
  have e1 := (f 1 (fun q => hs _ q (by omega))).1
  have e3 := funext (f 3 (fun q => hs _ q (by omega))).2
  have e5 := funext (f 5 (fun q => hs _ q (by omega))).2
  have e7 := funext (f 7 (fun q => hs _ q (by omega))).2
  refine ⟨trivial, w1, ⟨(e1 0).trans h0, (e1 1).trans h1, (e1 2).trans h2, (e1 3).trans h3, (e1 4).trans h4, (e1 5).trans h5, (e1 6).trans h6, (e1 7).trans h7⟩, fun w hw => ?_, fun j hj => ?_, fun j hj => ?_⟩
  · rw [show N.2 5 = M.2 5 from e5]
    exact w2 w hw
  · rw [show N.2 3 = M.2 3 from e3]
    exact w3 j hj
  · rw [show N.2 7 = M.2 7 from e7]
    exact w4 j hj
theorem CW8.w8 {W : Nat → Int32} {M : Mem} (h : CW8 W M) {w : Nat} (hw : wIn W w) : w ≤ 8 := h.2.1.w8 hw
theorem CW8.wk {W : Nat → Int32} {M : Mem} (h : CW8 W M) {w : Nat} (hw : wIn W w) : WOKW W w := h.2.1.way w hw
theorem C_moodsOf8 {W : Nat → Int32} {w : Nat} {M : Mem} (h : CW8 W M) (hw : wIn W w) : F_Well_moodsOf (iI (w : Int)) M = some (iI (mo W w : Int)) := by
  have w8 := h.w8 hw
  have k := (h.wk hw).moK
  unfold F_Well_moodsOf
  rw [l32n_13, iI_pm, V_Row_small (by omega) (by omega) (by decide), bs]
  show some (M.2 5 (w * 13)).toInt32 = _
  rw [Nat.mul_comm w 13, (h.2.2.2.1 w hw).1, k.2.2, iI_l (by omega) (by omega), lI_i]
theorem C_actOf8 {W : Nat → Int32} {w m : Nat} {M : Mem} (h : CW8 W M) (hw : wIn W w) (hm : m < mo W w) : F_Well_actOf (iI (w : Int)) (iI (m : Int)) M = some (iI (dz W w m : Int)) := by
  have w8 := h.w8 hw
  have k := (h.wk hw).moK
  have d := (h.wk hw).dzK hm
  unfold F_Well_actOf
  rw [l32n_13, l32n_1, l32n_4, iI_pm, iI_pm, iI_pa, iI_pa, V_Row_small (by omega) (by omega) (by decide), bs]
  show some (M.2 5 (w * 13 + 1 + 4 * m)).toInt32 = _
  rw [Nat.mul_comm w 13, ((h.2.2.2.1 w hw).2 m (by rw [k.2.2, iI_toInt (by omega) (by omega)]; omega)).1, d.2, iI_l (by omega) (by omega), lI_i]
theorem C_nextOf8 {W : Nat → Int32} {w m s : Nat} {M : Mem} (h : CW8 W M) (hw : wIn W w) (hm : m < mo W w) (hs : s < 3) : F_Well_nextOf (iI (w : Int)) (iI (m : Int)) (iI (s : Int)) M = some (iI (gz W w m s : Int)) := by
  have w8 := h.w8 hw
  have k := (h.wk hw).moK
  have d := (h.wk hw).gzK hm hs
  unfold F_Well_nextOf
  rw [l32n_13, l32n_2, l32n_4, iI_pm, iI_pm, iI_pa, iI_pa, iI_pa, V_Row_small (by omega) (by omega) (by decide), bs]
  show some (M.2 5 (w * 13 + 2 + 4 * m + s)).toInt32 = _
  rw [Nat.mul_comm w 13, ((h.2.2.2.1 w hw).2 m (by rw [k.2.2, iI_toInt (by omega) (by omega)]; omega)).2 s hs, d.2, iI_l (by omega) (by omega), lI_i]
theorem C_brW8 {W : Nat → Int32} {p x y : Nat} {M : Mem} (h : CW8 W M) (hx : x < 3) (hy : y < 3) (hp : p < 2) : F_Well_bringsTo (iI (p : Int)) (iI (x : Int)) (iI (y : Int)) M = some (iI (br W x y p)) := by
  have b := h.2.1.brj (2 * (3 * x + y) + p) (by omega)
  unfold F_Well_bringsTo
  rw [l32n_2, l32n_3, iI_pm, iI_pa, iI_pm, iI_pa, V_Row_small (by omega) (by omega) (by decide), bs]
  show some (M.2 3 (2 * (3 * x + y) + p)).toInt32 = _
  rw [h.2.2.2.2.1 _ (by omega)]
  unfold br
  generalize W (9 + (2 * (3 * x + y) + p)) = v at *
  rw [← iI_of v, iI_l (by omega) (by omega), lI_i, iI_of, iI_of]
theorem CW8.pq {W : Nat → Int32} {M : Mem} (h : CW8 W M) : (M.1 1 1).toInt64 = lI (W 1).toInt ∧ (M.1 1 2).toInt64 = lI (W 2).toInt ∧ 1 ≤ (W 1).toInt ∧ (W 1).toInt < (W 2).toInt ∧ (W 2).toInt ≤ 9 := by
  have t := h.2.1.tom
  refine ⟨?_, ?_, t.1, t.2.1, t.2.2⟩
  · rw [h.2.2.1.2.1]
    exact i64w _
  · rw [h.2.2.1.2.2.1]
    exact i64w _
def PRS8 (W : Nat → Int32) (a b : Nat) (p q : Int) (M : Mem) : Prop := CW8 W M ∧ (M.1 34 2 = iI (a : Int) ∧ M.1 34 3 = iI (b : Int) ∧ M.1 34 4 = iI (mo W a : Int) ∧ M.1 34 5 = iI (mo W b : Int)) ∧ chI 35 (stW W a b) (nxW W a b) (getW W a b) p q M ∧ ∀ s, stW W a b s → slv 35 (stW W a b) (nxW W a b) (getW W a b) p q M s
theorem C_placeAfter8 {W : Nat → Int32} {a b x y u v : Nat} {M : Mem} (h : CW8 W M) (h2 : M.1 34 2 = iI (a : Int)) (h3 : M.1 34 3 = iI (b : Int)) (ha : wIn W a) (hb : wIn W b) (hx : x < mo W a) (hy : y < mo W b) (hu : u < 3) (hv : v < 3) : F_Pair_placeAfter (iI (x : Int)) (iI (y : Int)) (iI (u : Int)) (iI (v : Int)) M = some (iI ((3 * gz W a x v + gz W b y u : Nat) : Int)) := by
  unfold F_Pair_placeAfter
  rw [h2, h3, C_nextOf8 h ha hx hv, bs, C_nextOf8 h hb hy hu, bs, l32n_3, iI_pm, iI_pa]
theorem C_look8 {W : Nat → Int32} {a b : Nat} {p q : Int} {M : Mem} (h : CW8 W M) (ha : wIn W a) (hb : wIn W b) (p1 : 1 ≤ p) (pq : p < q) (q12 : q ≤ 12) : wpO (F_Pair_look (iI (a : Int)) (iI (b : Int)) (lI p) (lI q) M) (fun N => PRS8 W a b p q N) := by
  have hA := h.wk ha
  have hB := h.wk hb
  have mA := hA.moK
  have mB := hB.moK
  have hC := pairS8 h.2.1 hA hB p1 pq q12
  have i0 : (0 : Int32) = iI ((0 : Nat) : Int) := rfl
  have i1 : (1 : Int32) = iI ((1 : Nat) : Int) := rfl
  unfold F_Pair_look
  have s2 : Same (fun k => k = 34) M (mSI (mSI M 34 2 (iI (a : Int))) 34 3 (iI (b : Int))) := Same.trans (M1 := mSI M 34 2 (iI (a : Int))) (Same.sI (S := fun k => k = 34) Same.rfl' rfl) (Same.sI (S := fun k => k = 34) Same.rfl' rfl)
  have e2 : (mSI (mSI M 34 2 (iI (a : Int))) 34 3 (iI (b : Int))).1 34 2 = iI (a : Int) := by rw [mI_ix (by decide), mI_hit]
  have e3 : (mSI (mSI M 34 2 (iI (a : Int))) 34 3 (iI (b : Int))).1 34 3 = iI (b : Int) := mI_hit
  generalize mSI (mSI M 34 2 (iI (a : Int))) 34 3 (iI (b : Int)) = M2 at *
  have cw2 := h.sm s2 (fun k q => by omega)
  rw [e2, C_moodsOf8 cw2 ha, bs, C_min3 mA.2.1, bs]
  have s4 : Same (fun k => k = 34) M (mSI M2 34 4 (iI (mo W a : Int))) := s2.trans (Same.sI (S := fun k => k = 34) Same.rfl' rfl)
  have e34 : (mSI M2 34 4 (iI (mo W a : Int))).1 34 3 = iI (b : Int) := (mI_ix (by decide)).trans e3
  have e24 : (mSI M2 34 4 (iI (mo W a : Int))).1 34 2 = iI (a : Int) := (mI_ix (by decide)).trans e2
  have e44 : (mSI M2 34 4 (iI (mo W a : Int))).1 34 4 = iI (mo W a : Int) := mI_hit
  generalize mSI M2 34 4 (iI (mo W a : Int)) = M4 at *
  have cw4 := h.sm s4 (fun k q => by omega)
  rw [e34, C_moodsOf8 cw4 hb, bs, C_min3 mB.2.1, bs]
  have s5 : Same (fun k => k = 34) M (mSI M4 34 5 (iI (mo W b : Int))) := s4.trans (Same.sI (S := fun k => k = 34) Same.rfl' rfl)
  have g2 : (mSI M4 34 5 (iI (mo W b : Int))).1 34 2 = iI (a : Int) := (mI_ix (by decide)).trans e24
  have g3 : (mSI M4 34 5 (iI (mo W b : Int))).1 34 3 = iI (b : Int) := (mI_ix (by decide)).trans e34
  have g4 : (mSI M4 34 5 (iI (mo W b : Int))).1 34 4 = iI (mo W a : Int) := (mI_ix (by decide)).trans e44
  have g5 : (mSI M4 34 5 (iI (mo W b : Int))).1 34 5 = iI (mo W b : Int) := mI_hit
  generalize mSI M4 34 5 (iI (mo W b : Int)) = M5 at *
  clear e2 e3 e24 e34 e44 s2 s4 cw2 cw4
  unfold F_Chain_clear
  refine wp_bind (Ψ := fun N => Same (fun k => k = 37) M5 N ∧ ∀ j, j < 9 → N.2 37 j = -1) ?_ (fun r5 hr5 => ?_)
  · refine wp_bind (T_Row_setAllQ 37 9 (-1) M5) (fun r hr => wp_some ⟨hr.1, fun j hj => hr.2 j hj (by decide)⟩)
  obtain ⟨f5, c5⟩ := hr5
  have cw5 : CW8 W r5 := (h.sm s5 (fun k q => by omega)).sm f5 (fun k q => by omega)
  have k2 : r5.1 34 2 = iI (a : Int) := ((f5 34 (by decide)).1 2).trans g2
  have k3 : r5.1 34 3 = iI (b : Int) := ((f5 34 (by decide)).1 3).trans g3
  have k4 : r5.1 34 4 = iI (mo W a : Int) := ((f5 34 (by decide)).1 4).trans g4
  have k5 : r5.1 34 5 = iI (mo W b : Int) := ((f5 34 (by decide)).1 5).trans g5
  clear g2 g3 g4 g5 s5 f5
  unfold F_Pair_look_l58
  refine wp_bind (Ψ := fun N => Same (fun k => k = 37 ∨ k = 39) r5 N ∧ (∀ s, stW W a b s → N.2 37 s = lI (nxW W a b s : Int) ∧ ∀ pe, pe < 2 → N.2 39 (2 * s + pe) = lI (getW W a b s pe)) ∧ ∀ s, s < 9 → ¬ stW W a b s → N.2 37 s = lI (-1)) ?_ (fun N hN => ?_)
  · refine wp_iterS (P := fun (k : Nat) (z : Int32 × Mem) => z.1 = iI (k : Int) ∧ k ≤ mo W a ∧ Same (fun k => k = 37 ∨ k = 39) r5 z.2 ∧ (∀ s, stW W a b s → s / 3 < k → z.2.2 37 s = lI (nxW W a b s : Int) ∧ ∀ pe, pe < 2 → z.2.2 39 (2 * s + pe) = lI (getW W a b s pe)) ∧ ∀ s, s < 9 → ¬ (stW W a b s ∧ s / 3 < k) → z.2.2 37 s = lI (-1)) (mo W a) ?_ FUEL (0, r5) ⟨rfl, by omega, Same.rfl', fun s _ q => absurd q (Nat.not_lt_zero _), fun s h9 _ => by rw [← tm1l]; exact c5 s h9⟩ (FUEL_big (by omega))
    rintro x ⟨z1, N⟩ hx ⟨e1, -, fN, nv, nu⟩
    dsimp only at e1 fN nv nu
    subst e1
    unfold F_Pair_look_b58
    dsimp only
    rw [(fN 34 (by omega)).1 4, k4]
    refine wp_if (fun c => wp_some ⟨fN, fun s hs => nv s hs ?_, fun s h9 hns => nu s h9 (fun w => hns w.1)⟩) (fun c => ?_)
    · rw [iI_le (by omega) (by omega) (by omega) (by omega)] at c
      have := hs.1
      omega
    rw [iI_le (by omega) (by omega) (by omega) (by omega)] at c
    have hxa : x < mo W a := by omega
    unfold F_Pair_look_l70
    refine wp_bind (Ψ := fun O => Same (fun k => k = 37 ∨ k = 39) r5 O ∧ (∀ s, stW W a b s → s / 3 < x + 1 → O.2 37 s = lI (nxW W a b s : Int) ∧ ∀ pe, pe < 2 → O.2 39 (2 * s + pe) = lI (getW W a b s pe)) ∧ ∀ s, s < 9 → ¬ (stW W a b s ∧ s / 3 < x + 1) → O.2 37 s = lI (-1)) ?_ (fun O hO => wp_some ⟨by omega, iI_succ x, by omega, hO.1, hO.2.1, hO.2.2⟩)
    refine wp_iterS (P := fun (k : Nat) (z : Int32 × Mem) => z.1 = iI (k : Int) ∧ k ≤ mo W b ∧ Same (fun k => k = 37 ∨ k = 39) r5 z.2 ∧ (∀ s, stW W a b s → (s / 3 < x ∨ (s / 3 = x ∧ s % 3 < k)) → z.2.2 37 s = lI (nxW W a b s : Int) ∧ ∀ pe, pe < 2 → z.2.2 39 (2 * s + pe) = lI (getW W a b s pe)) ∧ ∀ s, s < 9 → ¬ (stW W a b s ∧ (s / 3 < x ∨ (s / 3 = x ∧ s % 3 < k))) → z.2.2 37 s = lI (-1)) (mo W b) ?_ FUEL (0, N) ⟨rfl, by omega, fN, fun s hs q => nv s hs (by omega), fun s h9 hns => nu s h9 (fun w => hns ⟨w.1, by omega⟩)⟩ (FUEL_big (by omega))
    rintro y ⟨z1, O⟩ hy ⟨e1, -, fO, ov, ou⟩
    dsimp only at e1 fO ov ou
    subst e1
    unfold F_Pair_look_b70
    dsimp only
    rw [(fO 34 (by omega)).1 5, k5]
    refine wp_if (fun c2 => wp_some ⟨fO, fun s hs q => ov s hs ?_, fun s h9 hns => ou s h9 (fun w => hns ⟨w.1, by omega⟩)⟩) (fun c2 => ?_)
    · rw [iI_le (by omega) (by omega) (by omega) (by omega)] at c2
      have := hs.2
      omega
    rw [iI_le (by omega) (by omega) (by omega) (by omega)] at c2
    have hyb : y < mo W b := by omega
    have cwO := cw5.sm fO (fun k q => by omega)
    have q2 : O.1 34 2 = iI (a : Int) := ((fO 34 (by omega)).1 2).trans k2
    have q3 : O.1 34 3 = iI (b : Int) := ((fO 34 (by omega)).1 3).trans k3
    have d1 := hA.dzK hxa
    have d2 := hB.dzK hyb
    have gA := (hA.gzK hxa (s := dz W b y) (by omega)).1
    have gB := (hB.gzK hyb (s := dz W a x) (by omega)).1
    have hs0 : (3 * x + y) / 3 = x ∧ (3 * x + y) % 3 = y := by omega
    have en : nxW W a b (3 * x + y) = 3 * gz W a x (dz W b y) + gz W b y (dz W a x) := by
      unfold nxW
      rw [hs0.1, hs0.2]
    have eg : ∀ pe, getW W a b (3 * x + y) pe = br W (dz W a x) (dz W b y) pe := fun pe => by
      unfold getW
      rw [hs0.1, hs0.2]
    have hst : stW W a b (3 * x + y) := ⟨by rw [hs0.1]; exact hxa, by rw [hs0.2]; exact hyb⟩
    have bb : ∀ pe, pe < 2 → -99 ≤ br W (dz W a x) (dz W b y) pe ∧ br W (dz W a x) (dz W b y) pe ≤ 99 := fun pe hp => h.2.1.br _ _ _ (by omega) (by omega) hp
    have b0 := bb 0 (by decide)
    have b1 := bb 1 (by decide)
    rw [q2, q3, C_actOf8 cwO ha hxa, bs, C_actOf8 cwO hb hyb, bs, C_placeAfter8 cwO q2 q3 ha hb hxa hyb (by omega) (by omega), bs, i0, C_brW8 cwO (by omega) (by omega) (by decide), bs, i1, C_brW8 cwO (by omega) (by omega) (by decide), bs, ← en, ← eg 0, ← eg 1]
    rw [← eg 0] at b0
    rw [← eg 1] at b1
    have hlt := st_lt hA hst
    have nlt := st_lt hA (nx_st hA hB hst)
    have e35 : 3 * iI (x : Int) + iI (y : Int) = iI ((3 * x + y : Nat) : Int) := by rw [l32n_3, iI_pm, iI_pa]
    rw [e35]
    generalize hsd : 3 * x + y = s0 at *
    unfold F_Chain_put
    have i20 : 2 * iI (s0 : Int) = iI ((2 * s0 : Nat) : Int) := by rw [l32n_2, iI_pm]
    have i21 : iI ((2 * s0 : Nat) : Int) + 1 = iI ((2 * s0 + 1 : Nat) : Int) := iI_succ _
    rw [i20, i21, l64n _ (by omega), iI_l (by omega) (by omega), iI_l (by omega) (by omega), V_Row_put (by omega) (by omega) (by decide), bs, V_Row_put (by omega) (by omega) (by decide), bs, V_Row_put (by omega) (by omega) (by decide), bs, bs, show ((s0 : Nat) : Int).toNat = s0 from rfl, show ((2 * s0 : Nat) : Int).toNat = 2 * s0 from rfl, show ((2 * s0 + 1 : Nat) : Int).toNat = 2 * s0 + 1 from rfl]
    have fP : Same (fun k => k = 37 ∨ k = 39) r5 (mSL (mSL (mSL O 37 s0 (lI (nxW W a b s0 : Int))) 39 (2 * s0) (lI (getW W a b s0 0))) 39 (2 * s0 + 1) (lI (getW W a b s0 1))) := ((fO.sL (Or.inl rfl)).sL (Or.inr rfl)).sL (Or.inr rfl)
    have v37 : ∀ j, (mSL (mSL (mSL O 37 s0 (lI (nxW W a b s0 : Int))) 39 (2 * s0) (lI (getW W a b s0 0))) 39 (2 * s0 + 1) (lI (getW W a b s0 1))).2 37 j = if j = s0 then lI (nxW W a b s0 : Int) else O.2 37 j := fun j => by
      rw [mL_cell (by decide), mL_cell (by decide), mSL_2]
      by_cases q : j = s0
      · rw [if_pos ⟨rfl, q⟩, if_pos q]
      · rw [if_neg (fun w => q w.2), if_neg q]
    have v39 : ∀ j, (mSL (mSL (mSL O 37 s0 (lI (nxW W a b s0 : Int))) 39 (2 * s0) (lI (getW W a b s0 0))) 39 (2 * s0 + 1) (lI (getW W a b s0 1))).2 39 j = if j = 2 * s0 + 1 then lI (getW W a b s0 1) else if j = 2 * s0 then lI (getW W a b s0 0) else O.2 39 j := fun j => by
      rw [mSL_2]
      by_cases q : j = 2 * s0 + 1
      · rw [if_pos ⟨rfl, q⟩, if_pos q]
      · rw [if_neg (fun w => q w.2), if_neg q, mSL_2]
        by_cases q2 : j = 2 * s0
        · rw [if_pos ⟨rfl, q2⟩, if_pos q2]
        · rw [if_neg (fun w => q2 w.2), if_neg q2, mL_cell (by decide)]
    generalize mSL (mSL (mSL O 37 s0 (lI (nxW W a b s0 : Int))) 39 (2 * s0) (lI (getW W a b s0 0))) 39 (2 * s0 + 1) (lI (getW W a b s0 1)) = P at *
    refine wp_some ⟨by omega, iI_succ y, by omega, fP, fun s hs q => ?_, fun s h9 hns => ?_⟩
    · show P.2 37 s = _ ∧ ∀ pe, pe < 2 → P.2 39 (2 * s + pe) = _
      by_cases qs : s = s0
      · rw [qs]
        refine ⟨by rw [v37, if_pos rfl], fun pe hp => ?_⟩
        have hp2 : pe = 0 ∨ pe = 1 := by omega
        rcases hp2 with rfl | rfl
        · rw [v39, if_neg (by omega), if_pos (by omega)]
        · rw [v39, if_pos rfl]
      · obtain ⟨o1, o2⟩ := ov s hs (by omega)
        refine ⟨by rw [v37, if_neg qs, o1], fun pe hp => by rw [v39, if_neg (by omega), if_neg (by omega), o2 pe hp]⟩
    · show P.2 37 s = _
      have qs : s ≠ s0 := fun w => hns ⟨by rw [w]; exact hst, by omega⟩
      rw [v37, if_neg qs]
      exact ou s h9 (fun w => hns ⟨w.1, by omega⟩)
  · obtain ⟨fN, nv, nu⟩ := hN
    unfold F_Pair_look_j171
    refine wp_bind (wp_q (Ψ := fun r => Same (fun k => 35 ≤ k ∧ k ≤ 47) N r) (C_reckon (b := 35) (p := p) (q := q) hC (fun s _ hs => (nv s hs).1) nu (fun s pe hs _ hp => (nv s hs).2 pe hp)) (fun a ha => (wpO_of (T_Chain_reckon 35 _ _ _) ha).mono (fun k hk => by omega))) (fun r6 h6 => wp_some ?_)
    obtain ⟨⟨cI, cs⟩, f6⟩ := h6
    have fT : ∀ j, r6.1 34 j = r5.1 34 j := fun j => ((f6 34 (by omega)).1 j).trans ((fN 34 (by omega)).1 j)
    exact ⟨(cw5.sm fN (fun k q => by omega)).sm f6 (fun k q => by omega), ⟨(fT 2).trans k2, (fT 3).trans k3, (fT 4).trans k4, (fT 5).trans k5⟩, cI, cs⟩
theorem PRS8.eqn {W : Nat → Int32} {a b pe : Nat} {p q : Int} {M : Mem} (hA : WOKW W a) (hB : WOKW W b) (h : PRS8 W a b p q M) (hp : pe < 2) : eqnW (stW W a b) (nxW W a b) (fun s => getW W a b s pe) p q (fun s => uM 35 M s pe) (fun s => dM 35 M s) := fun s hs => by
  obtain ⟨h1, h2, h3, h4, h5, h6⟩ := h.2.2.2 s hs
  exact ⟨h5, nx_st hA hB hs, h3 pe hp⟩
theorem PRS8.same {W : Nat → Int32} {a b s pe : Nat} {p q : Int} {M N : Mem} (hA : WOKW W a) (hB : WOKW W b) (p1 : 1 ≤ p) (pq : p < q) (h : PRS8 W a b p q M) (hs : stW W a b s) (hp : pe < 2) (hw : wOK W a b p q N s pe) : N.2 104 (2 * s + pe) = lI (rU (uM 35 M s pe) (dM 35 M s)) ∧ N.2 105 (2 * s + pe) = lI (rD (uM 35 M s pe) (dM 35 M s)) := by
  obtain ⟨days, c, h1, -, h3, h4, h5, -, -⟩ := hw
  have e := (h.eqn hA hB hp).val (s := s) p1 pq (fun k => by rw [← pth_it]; exact pth_st hA hB hs k) h1 (by rw [← pth_it, ← pth_it]; exact h3)
  have ef : (fun j => getW W a b (pth W a b s j) pe) = (fun k => (fun s => getW W a b s pe) (itN (nxW W a b) s k)) := funext fun k => by
    show getW W a b (pth W a b s k) pe = getW W a b (itN (nxW W a b) s k) pe
    rw [pth_it]
  rw [ef, e] at h4 h5
  exact ⟨h4, h5⟩
theorem C_tell8 {W : Nat → Int32} {a b x y pe o : Nat} {p q : Int} {M : Mem} (hA : WOKW W a) (hB : WOKW W b) (q2 : 2 ≤ q) (q12 : q ≤ 12) (h : PRS8 W a b p q M) (hC : chS (stW W a b) (nxW W a b) (getW W a b) p q) (hs : stW W a b (3 * x + y)) (hp : pe < 2) : F_Pair_tellWorth o (iI (x : Int)) (iI (y : Int)) (iI (pe : Int)) M = some (mSL (mSL M o 0 (lI (rU (uM 35 M (3 * x + y) pe) (dM 35 M (3 * x + y))))) o 1 (lI (rD (uM 35 M (3 * x + y) pe) (dM 35 M (3 * x + y))))) := by
  have hs9 := st_lt hA hs
  obtain ⟨h1, h2, h3, h4, h5, h6⟩ := h.2.2.2 _ hs
  have hd := (h.2.2.2 _ hs).d9 hC
  have hb := fb_num q2 q12 (h6 pe hp) (by omega)
  have e35 : 3 * iI (x : Int) + iI (y : Int) = iI ((3 * x + y : Nat) : Int) := by rw [l32n_3, iI_pm, iI_pa]
  unfold F_Pair_tellWorth F_Chain_tellWorth
  rw [e35]
  generalize 3 * x + y = s at *
  have eu : M.2 41 (2 * s + pe) = lI (uM 35 M s pe) := (lI_of _).symm
  have ed : M.2 43 s = lI (dM 35 M s) := (lI_of _).symm
  rw [ix2, V_Row_at (by omega) (by omega) (by decide), bs, V_Row_at (by omega) (by omega) (by decide), bs]
  show ((F_Fraction_be o (M.2 41 (2 * s + pe)) (M.2 43 s) M).bind fun r3 => some r3).bind (fun r1 => some r1) = _
  rw [eu, ed, C_be (by omega) (by omega) h5 (by omega), bs, bs]

theorem C_orderOf8 {W : Nat → Int32} {a b s t pe : Nat} {p q g : Int} {M : Mem} (hA : WOKW W a) (p1 : 1 ≤ p) (pq : p < q) (q12 : q ≤ 12) (h : PRS8 W a b p q M) (hC : chS (stW W a b) (nxW W a b) (getW W a b) p q) (hs : stW W a b s) (ht : stW W a b t) (hp : pe < 2) (hg1 : -99 ≤ g) (hg2 : g ≤ 99) : F_Chain_orderOf 35 (iI g) (iI (t : Int)) (iI (pe : Int)) (iI (s : Int)) M = some (iI (Int.sign ((g * (q * dM 35 M t) + p * uM 35 M t pe) * dM 35 M s - uM 35 M s pe * (q * dM 35 M t)))) := by
  have s9 := st_lt hA hs
  have t9 := st_lt hA ht
  have hd := (h.2.2.2 s hs).d9 hC
  have kd := (h.2.2.2 t ht).d9 hC
  obtain ⟨-, -, -, -, h5, h6⟩ := h.2.2.2 s hs
  obtain ⟨-, -, -, -, k5, k6⟩ := h.2.2.2 t ht
  obtain ⟨-, -, -, m6, m7⟩ := h.2.2.1
  have b1 := fb_num (by omega) q12 (h6 pe hp) (by omega)
  obtain ⟨c1, c2, c3⟩ := fb_back (gk := g) p1 pq (by decide) ⟨hg1, hg2⟩ (k6 pe hp)
  dsimp only at c1 c2 c3
  have hqd : q * dM 35 M t ≤ 12 * 5159780352 := Int.mul_le_mul q12 kd (by omega) (by omega)
  have f := fb_num (u := g * q * dM 35 M t + p * uM 35 M t pe) (d := q * dM 35 M t) (by omega) q12 ⟨c1, c2, c3⟩ (by omega)
  rw [Int.mul_assoc g q] at f
  have eU : M.2 41 (2 * t + pe) = lI (uM 35 M t pe) := (lI_of _).symm
  have eD : M.2 43 t = lI (dM 35 M t) := (lI_of _).symm
  have eu : M.2 41 (2 * s + pe) = lI (uM 35 M s pe) := (lI_of _).symm
  have ed : M.2 43 s = lI (dM 35 M s) := (lI_of _).symm
  unfold F_Chain_orderOf
  rw [V_Row_at (by omega) (by omega) (by decide), bs, ix2 t, V_Row_at (by omega) (by omega) (by decide), bs, ix2 s, V_Row_at (by omega) (by omega) (by decide), bs, V_Row_at (by omega) (by omega) (by decide), bs]
  show ((F_Fraction_order ((iI g).toInt64 * (M.2 35 7 * M.2 43 t) + M.2 35 6 * M.2 41 (2 * t + pe)) (M.2 35 7 * M.2 43 t) (M.2 41 (2 * s + pe)) (M.2 43 s) M).bind fun r5 => some r5) = _
  rw [eU, eD, eu, ed, m6, m7, iI_l (by omega) (by omega), lI_mul, lI_mul, lI_mul, lI_add, C_order f.1 f.2.1 f.2.2.1 f.2.2.2 b1.1 b1.2.1 b1.2.2.1 b1.2.2.2, bs]
theorem C_gains8 {W : Nat → Int32} {a b x y pe : Nat} {p q : Int} {M : Mem} (ha : wIn W a) (hb : wIn W b) (p1 : 1 ≤ p) (pq : p < q) (q12 : q ≤ 12) (h : PRS8 W a b p q M) (hx : x < mo W a) (hy : y < mo W b) (hp : pe < 2) : F_Pair_gainsOtherwise (iI (x : Int)) (iI (y : Int)) (iI (pe : Int)) M = some (gnB W a b p q (uM 35 M) (dM 35 M) (3 * x + y) pe) := by
  have cw := h.1
  have hA := cw.wk ha
  have hB := cw.wk hb
  have mA := hA.moK
  have mB := hB.moK
  have hC := pairS8 cw.2.1 hA hB p1 pq q12
  obtain ⟨h2, h3, -, -⟩ := h.2.1
  have hW := cw.2.1.acts
  have e0 := cw.2.2.1.1
  obtain ⟨n, hn⟩ : ∃ n : Nat, (W 0).toInt = n := ⟨(W 0).toInt.toNat, by omega⟩
  have en : W 0 = iI (n : Int) := by rw [← hn, iI_of]
  have nn : (W 0).toInt.toNat = n := by omega
  have hs0 : (3 * x + y) / 3 = x ∧ (3 * x + y) % 3 = y := by omega
  have hst : stW W a b (3 * x + y) := ⟨by rw [hs0.1]; exact hx, by rw [hs0.2]; exact hy⟩
  have e35 : 3 * iI (x : Int) + iI (y : Int) = iI ((3 * x + y : Nat) : Int) := by rw [l32n_3, iI_pm, iI_pa]
  have core : ∀ k f v : Nat, k < 3 → fsA W a (3 * x + y) pe k = f → scA W b (3 * x + y) pe k = v → wpO (F_Pair_gainsOtherwise_j60 (iI (x : Int)) (iI (y : Int)) (iI (pe : Int)) (iI (k : Int)) (iI (f : Int)) (iI (v : Int)) M) (fun r => match r with | .inl z => z = iI ((k + 1 : Nat) : Int) ∧ ¬ 0 < gX W a b p q (uM 35 M) (dM 35 M) (3 * x + y) pe k | .inr (.inl _) => 0 < gX W a b p q (uM 35 M) (dM 35 M) (3 * x + y) pe k | .inr (.inr _) => False) := by
    intro k f v hk hf hv
    obtain ⟨t1, t2, t3, t4, t5⟩ := toA_st (pe := pe) hA hB hst hk
    rw [hf] at t2
    rw [hv] at t3
    have et : toA W a b (3 * x + y) pe k = 3 * gz W a x v + gz W b y f := by
      unfold toA
      rw [hf, hv, hs0.1, hs0.2]
    have eb : brA W a b (3 * x + y) pe k = br W f v pe := by
      unfold brA
      rw [hf, hv]
    have bb := cw.2.1.br f v pe t2 t3 hp
    unfold F_Pair_gainsOtherwise_j60
    rw [C_placeAfter8 cw h2 h3 ha hb hx hy t2 t3, bs, C_brW8 cw t2 t3 hp, bs, e35, ← et, C_orderOf8 hA p1 pq q12 h hC hst t1 hp bb.1 bb.2, bs, ← eb]
    refine wp_if (fun c => wp_some ⟨iI_succ k, sgn_le.mp c⟩) (fun c => wp_some ?_)
    have c2 : ¬ ¬ 0 < gX W a b p q (uM 35 M) (dM 35 M) (3 * x + y) pe k := fun w => c (sgn_le.mpr w)
    exact Decidable.not_not.mp c2
  have loop : wpO (iter (F_Pair_gainsOtherwise_b3 (iI (x : Int)) (iI (y : Int)) (iI (pe : Int)) M) FUEL 0) (fun r => match r with | .inl _ => gnB W a b p q (uM 35 M) (dM 35 M) (3 * x + y) pe = true | .inr _ => gnB W a b p q (uM 35 M) (dM 35 M) (3 * x + y) pe = false) := by
    refine wp_iterS (P := fun (k : Nat) (z : Int32) => z = iI (k : Int) ∧ ∀ e, e < k → ¬ 0 < gX W a b p q (uM 35 M) (dM 35 M) (3 * x + y) pe e) n ?_ FUEL 0 ⟨rfl, fun e h => absurd h (Nat.not_lt_zero _)⟩ (FUEL_big (by omega))
    rintro k z hk ⟨rfl, hz⟩
    unfold F_Pair_gainsOtherwise_b3
    rw [e0, en]
    refine wp_if (fun c => wp_some ?_) (fun c => ?_)
    · rw [iI_le (by omega) (by omega) (by omega) (by omega)] at c
      exact gnB_f (fun e he => hz e (by omega))
    rw [iI_le (by omega) (by omega) (by omega) (by omega)] at c
    have fin : ∀ r, (match r with | .inl z => z = iI ((k + 1 : Nat) : Int) ∧ ¬ 0 < gX W a b p q (uM 35 M) (dM 35 M) (3 * x + y) pe k | .inr (.inl _) => 0 < gX W a b p q (uM 35 M) (dM 35 M) (3 * x + y) pe k | .inr (.inr _) => False : Prop) → sumP (fun s' => k < n ∧ s' = iI ((k + 1 : Nat) : Int) ∧ ∀ e, e < k + 1 → ¬ 0 < gX W a b p q (uM 35 M) (dM 35 M) (3 * x + y) pe e) (fun r : Unit ⊕ Unit => match r with | .inl _ => gnB W a b p q (uM 35 M) (dM 35 M) (3 * x + y) pe = true | .inr _ => gnB W a b p q (uM 35 M) (dM 35 M) (3 * x + y) pe = false) r := by
      intro r hr
      rcases r with r | r | r
      · refine ⟨by omega, hr.1, fun e he => ?_⟩
        by_cases q1 : e = k
        · rw [q1]
          exact hr.2
        · exact hz e (by omega)
      · exact gnB_t (e := k) (by omega) hr
      · exact hr.elim
    have d1 := hA.dzK hx
    have d2 := hB.dzK hy
    have hp2 : pe = 0 ∨ pe = 1 := by omega
    rcases hp2 with rfl | rfl
    · refine wp_t (show iI ((0 : Nat) : Int) = 0 from rfl) ?_
      unfold F_Pair_gainsOtherwise_j36
      refine wp_f (show ¬ iI ((0 : Nat) : Int) = 1 by decide) ?_
      rw [h3, C_actOf8 cw hb hy, bs]
      refine wp_mono (core k k (dz W b y) (by omega) ?_ ?_) fin
      · unfold fsA
        rw [if_pos rfl]
      · unfold scA
        rw [if_neg (by decide), hs0.2]
    · refine wp_f (show ¬ iI ((1 : Nat) : Int) = 0 by decide) ?_
      rw [h2, C_actOf8 cw ha hx, bs]
      unfold F_Pair_gainsOtherwise_j36
      refine wp_t (show iI ((1 : Nat) : Int) = 1 from rfl) ?_
      refine wp_mono (core k (dz W a x) k (by omega) ?_ ?_) fin
      · unfold fsA
        rw [if_neg (by decide), hs0.1]
      · unfold scA
        rw [if_pos rfl]
  apply wp_of
  unfold F_Pair_gainsOtherwise F_Pair_gainsOtherwise_l3
  refine wp_bind loop (fun r hr => ?_)
  rcases r with r | r
  · exact wp_some hr.symm
  · exact wp_some hr.symm
theorem C_firstGain8 {W : Nat → Int32} {a b : Nat} {p q : Int} {M : Mem} (ha : wIn W a) (hb : wIn W b) (p1 : 1 ≤ p) (pq : p < q) (q12 : q ≤ 12) (h : PRS8 W a b p q M) : F_Pair_firstGain M = some (iI (fgR W a b p q (uM 35 M) (dM 35 M) 18 0)) := by
  have cw := h.1
  have hA := cw.wk ha
  have hB := cw.wk hb
  have mA := hA.moK
  have mB := hB.moK
  obtain ⟨-, -, m4, m5⟩ := h.2.1
  have l2 : (2 : Int32) = iI 2 := rfl
  obtain ⟨V, hV⟩ : ∃ V, V = fgR W a b p q (uM 35 M) (dM 35 M) 18 0 := ⟨_, rfl⟩
  rw [← hV]
  apply wp_of
  unfold F_Pair_firstGain F_Pair_firstGain_l2
  refine wp_bind (Ψ := fun r => match r with | .inl z => ∃ i : Nat, z = (iI ((i / 2 / 3 : Nat) : Int), iI ((i / 2 % 3 : Nat) : Int), iI ((i % 2 : Nat) : Int)) ∧ i < 18 ∧ V = i | .inr _ => V = -1) ?_ (fun r hr => ?_)
  · refine wp_iterS (P := fun (k : Nat) (z : Int32) => z = iI (k : Int) ∧ k ≤ mo W a ∧ V = fgR W a b p q (uM 35 M) (dM 35 M) (18 - 6 * k) (6 * k)) (mo W a) ?_ FUEL 0 ⟨rfl, by omega, hV⟩ (FUEL_big (by omega))
    rintro x z - ⟨rfl, hx, vx⟩
    unfold F_Pair_firstGain_b2
    rw [m4]
    refine wp_if (fun c => wp_some ?_) (fun c => ?_)
    · rw [iI_le (by omega) (by omega) (by omega) (by omega)] at c
      show V = -1
      rw [vx]
      exact fgR_end (by omega) (fun j h1 h2 w => by omega)
    rw [iI_le (by omega) (by omega) (by omega) (by omega)] at c
    unfold F_Pair_firstGain_l12
    refine wp_bind (Ψ := fun r => match r with | .inl z => ∃ i : Nat, z = (iI ((i / 2 % 3 : Nat) : Int), iI ((i % 2 : Nat) : Int)) ∧ i / 2 / 3 = x ∧ i < 18 ∧ V = i | .inr _ => V = fgR W a b p q (uM 35 M) (dM 35 M) (18 - 6 * (x + 1)) (6 * (x + 1))) ?_ (fun r hr => ?_)
    · refine wp_iterS (P := fun (k : Nat) (z : Int32) => z = iI (k : Int) ∧ k ≤ mo W b ∧ V = fgR W a b p q (uM 35 M) (dM 35 M) (18 - (6 * x + 2 * k)) (6 * x + 2 * k)) (mo W b) ?_ FUEL 0 ⟨rfl, by omega, vx⟩ (FUEL_big (by omega))
      rintro y z - ⟨rfl, hy, vy⟩
      unfold F_Pair_firstGain_b12
      rw [m5]
      refine wp_if (fun c2 => wp_some ?_) (fun c2 => ?_)
      · rw [iI_le (by omega) (by omega) (by omega) (by omega)] at c2
        show V = _
        rw [vy, fgR_skip (6 * (x + 1) - (6 * x + 2 * y)) (by omega) (fun j h1 h2 w => by omega), show 6 * x + 2 * y + (6 * (x + 1) - (6 * x + 2 * y)) = 6 * (x + 1) by omega]
      rw [iI_le (by omega) (by omega) (by omega) (by omega)] at c2
      unfold F_Pair_firstGain_l22
      refine wp_bind (Ψ := fun r => match r with | .inl z => ∃ i : Nat, z = iI ((i % 2 : Nat) : Int) ∧ i / 2 = 3 * x + y ∧ V = i | .inr _ => V = fgR W a b p q (uM 35 M) (dM 35 M) (18 - (6 * x + 2 * (y + 1))) (6 * x + 2 * (y + 1))) ?_ (fun r hr => ?_)
      · refine wp_iterS (P := fun (k : Nat) (z : Int32) => z = iI (k : Int) ∧ k ≤ 2 ∧ V = fgR W a b p q (uM 35 M) (dM 35 M) (18 - (6 * x + 2 * y + k)) (6 * x + 2 * y + k)) 2 ?_ FUEL 0 ⟨rfl, by omega, vy⟩ (FUEL_big (by omega))
        rintro pe z - ⟨rfl, hp, vp⟩
        unfold F_Pair_firstGain_b22
        rw [l2]
        refine wp_if (fun c3 => wp_some ?_) (fun c3 => ?_)
        · rw [iI_le (by omega) (by omega) (by omega) (by omega)] at c3
          have : pe = 2 := by omega
          subst this
          exact vp
        rw [iI_le (by omega) (by omega) (by omega) (by omega)] at c3
        have i1 : (6 * x + 2 * y + pe) / 2 = 3 * x + y := by omega
        have i2 : (6 * x + 2 * y + pe) % 2 = pe := by omega
        have i3 : (3 * x + y) / 3 = x := by omega
        have i4 : (3 * x + y) % 3 = y := by omega
        rw [fgR_go (by omega), i1, i2, i3, i4] at vp
        rw [C_gains8 ha hb p1 pq q12 h (by omega) (by omega) (by omega), bs]
        refine wp_if (fun c4 => wp_some ?_) (fun c4 => wp_some ?_)
        · rw [if_pos ⟨by omega, by omega, c4⟩] at vp
          exact ⟨6 * x + 2 * y + pe, by rw [i2], i1, vp⟩
        · rw [if_neg (fun w => c4 w.2.2)] at vp
          exact ⟨by omega, iI_succ pe, by omega, vp⟩
      · rcases r with r | r
        · obtain ⟨i, e1, e2, e3⟩ := hr
          refine wp_some ⟨i, ?_, by omega, by omega, e3⟩
          rw [e1, show i / 2 % 3 = y by omega]
        · exact wp_some ⟨by omega, iI_succ y, by omega, hr⟩
    · rcases r with r | r
      · obtain ⟨i, e1, e2, e3, e4⟩ := hr
        refine wp_some ⟨i, ?_, e3, e4⟩
        rw [e1, e2]
      · exact wp_some ⟨by omega, iI_succ x, by omega, hr⟩
  · rcases r with r | r
    · obtain ⟨i, e1, e2, e3⟩ := hr
      rw [e1]
      unfold F_Pair_firstGain_j37
      refine wp_some ?_
      dsimp only
      rw [show (6 : Int32) = iI ((6 : Nat) : Int) from rfl, l32n_2, iI_pm, iI_pm, iI_pa, iI_pa, e3, show 6 * (i / 2 / 3) + 2 * (i / 2 % 3) + i % 2 = i by omega]
    · refine wp_some ?_
      rw [show V = -1 from hr]
      rfl

theorem R_gains8 {a b s pe : Nat} {p q : Int} {M N : Mem} (hR : RI8 (N.1 95)) (ha : wIn (N.1 95) a) (hb : wIn (N.1 95) b) (hP : N.1 94 19 = iI p) (hQ : N.1 94 20 = iI q) (p1 : 1 ≤ p) (pq : p < q) (q12 : q ≤ 12) (h : PRS8 (N.1 95) a b p q M) (hw : ∀ t, stW (N.1 95) a b t → N.2 104 (2 * t + pe) = lI (rU (uM 35 M t pe) (dM 35 M t)) ∧ N.2 105 (2 * t + pe) = lI (rD (uM 35 M t pe) (dM 35 M t))) (hs : stW (N.1 95) a b s) (hp : pe < 2) : F_MO_gains (iI (a : Int)) (iI (b : Int)) (iI (s : Int)) (iI (pe : Int)) N = some (gnB (N.1 95) a b p q (uM 35 M) (dM 35 M) s pe) := by
  have hA := hR.way a ha
  have hB := hR.way b hb
  have a8 := hR.w8 ha
  have b8 := hR.w8 hb
  have hbr := hR.br
  have hact := hR.acts
  have hC := pairS8 hR hA hB p1 pq q12
  have hs9 := st_lt hA hs
  have da := (hA.dzK hs.1).1
  have db := (hB.dzK hs.2).1
  obtain ⟨a1, a2, -⟩ := hA.moK
  obtain ⟨b1, b2, -⟩ := hB.moK
  have l0 : (0 : Int32) = iI 0 := rfl
  have p64 : (N.1 94 19).toInt64 = lI p := by rw [hP, iI_l (by omega) (by omega)]
  have q64 : (N.1 94 20).toInt64 = lI q := by rw [hQ, iI_l (by omega) (by omega)]
  have vals : ∀ t, stW (N.1 95) a b t → 0 < dM 35 M t ∧ fb 99 q (rU (uM 35 M t pe) (dM 35 M t), rD (uM 35 M t pe) (dM 35 M t)) ∧ rD (uM 35 M t pe) (dM 35 M t) ≤ 5159780352 := fun t ht => by
    have kd := (h.2.2.2 t ht).d9 hC
    obtain ⟨-, -, -, -, h5, h6⟩ := h.2.2.2 t ht
    obtain ⟨f1, f2, f3⟩ := h6 pe hp
    dsimp only at f1 f2 f3
    have hr := fb_red (G := 99) (q := q) (by omega) f1 f2 f3
    exact ⟨h5, hr.1, by omega⟩
  have core : ∀ (x7 : Int32) (k f g : Nat), k < 3 → fsA (N.1 95) a s pe k = f → scA (N.1 95) b s pe k = g → wpO (F_MO_gains_j93 (iI (a : Int)) (iI (b : Int)) (iI (s : Int)) (iI (pe : Int)) (iI ((s / 3 : Nat) : Int)) (iI ((s % 3 : Nat) : Int)) x7 (iI (k : Int)) (iI (f : Int)) (iI (g : Int)) N) (fun r => match r with | .inl z => z = iI ((k + 1 : Nat) : Int) ∧ ¬ 0 < gX (N.1 95) a b p q (uM 35 M) (dM 35 M) s pe k | .inr (.inl _) => 0 < gX (N.1 95) a b p q (uM 35 M) (dM 35 M) s pe k | .inr (.inr _) => False) := by
    intro x7 k f g hk hf hg
    obtain ⟨t1, t2, t3, t4, t5⟩ := toA_st (pe := pe) hA hB hs hk
    rw [hf] at t2 t5
    rw [hg] at t3 t4
    have et : toA (N.1 95) a b s pe k = 3 * gz (N.1 95) a (s / 3) g + gz (N.1 95) b (s % 3) f := by
      unfold toA
      rw [hf, hg]
    have eb : brA (N.1 95) a b s pe k = br (N.1 95) f g pe := by
      unfold brA
      rw [hf, hg]
    have hb9 := hbr f g pe (by omega) (by omega) hp
    unfold F_MO_gains_j93
    rw [N_goesW a8 hA hs.1 (by omega), bs, N_goesW b8 hB hs.2 (by omega), bs, N_brings (by omega) (by omega) hp, bs]
    have e1 : (2 * ((3 * iI (gz (N.1 95) a (s / 3) g : Int)) + iI (gz (N.1 95) b (s % 3) f : Int))) + iI (pe : Int) = iI ((2 * toA (N.1 95) a b s pe k + pe : Nat) : Int) := by
      rw [et, l32_2, l32_3, iI_mul, iI_add, iI_mul, iI_add]
      rfl
    have e2 : (2 * iI (s : Int)) + iI (pe : Int) = iI ((2 * s + pe : Nat) : Int) := by
      rw [l32_2, iI_mul, iI_add]
      rfl
    have t9 := st_lt hA t1
    rw [e1, e2]
    refine wp_t (inb_iI (by omega) (by omega) (by omega)) (wp_t (inb_iI (by omega) (by omega) (by omega)) (wp_t (inb_iI (by omega) (by omega) (by omega)) (wp_t (inb_iI (by omega) (by omega) (by omega)) (wp_t (inb_iI (by omega) (by omega) (by omega)) ?_))))
    have n1 : (iI ((2 * toA (N.1 95) a b s pe k + pe : Nat) : Int)).toNatClampNeg = 2 * toA (N.1 95) a b s pe k + pe := clN (by omega)
    have n2 : (iI ((2 * s + pe : Nat) : Int)).toNatClampNeg = 2 * s + pe := clN (by omega)
    obtain ⟨v0, v3, v4⟩ := vals _ t1
    obtain ⟨y0, y3, y4⟩ := vals _ hs
    obtain ⟨v1, v2⟩ := hw _ t1
    obtain ⟨y1, y2⟩ := hw _ hs
    have hgx : 0 < gX (N.1 95) a b p q (uM 35 M) (dM 35 M) s pe k ↔ 0 < (br (N.1 95) f g pe * q * rD (uM 35 M (toA (N.1 95) a b s pe k) pe) (dM 35 M (toA (N.1 95) a b s pe k)) + p * rU (uM 35 M (toA (N.1 95) a b s pe k) pe) (dM 35 M (toA (N.1 95) a b s pe k))) * rD (uM 35 M s pe) (dM 35 M s) - rU (uM 35 M s pe) (dM 35 M s) * (q * rD (uM 35 M (toA (N.1 95) a b s pe k) pe) (dM 35 M (toA (N.1 95) a b s pe k))) := by
      rw [sgn_red v0 y0]
      unfold gX
      rw [eb]
    rw [n1, n2, v1, v2, y1, y2, p64, q64, iI_l (by omega) (by omega), lI_mul, lI_mul, lI_mul, lI_add, lI_mul]
    obtain ⟨c1, c2, c3⟩ := fb_back (gk := br (N.1 95) f g pe) p1 pq (by decide) hb9 v3
    dsimp only at c1 c2 c3
    have hqd : q * rD (uM 35 M (toA (N.1 95) a b s pe k) pe) (dM 35 M (toA (N.1 95) a b s pe k)) ≤ 12 * 5159780352 := Int.mul_le_mul q12 v4 (by have := v3.1; dsimp only at this; omega) (by omega)
    obtain ⟨f1, f2, f3, f4⟩ := fb_num (u := br (N.1 95) f g pe * q * rD (uM 35 M (toA (N.1 95) a b s pe k) pe) (dM 35 M (toA (N.1 95) a b s pe k)) + p * rU (uM 35 M (toA (N.1 95) a b s pe k) pe) (dM 35 M (toA (N.1 95) a b s pe k))) (d := q * rD (uM 35 M (toA (N.1 95) a b s pe k) pe) (dM 35 M (toA (N.1 95) a b s pe k))) (by omega) q12 ⟨c1, c2, c3⟩ (by omega)
    obtain ⟨g1, g2, g3, g4⟩ := fb_num (by omega) q12 y3 (by omega)
    rw [N_compared f1 f2 f3 f4 g1 g2 g3 g4 N, bs]
    refine wp_if (fun c => wp_some ⟨iI_succ k, fun w => sgn_le.mp c (hgx.mp w)⟩) (fun c => wp_some ?_)
    exact hgx.mpr (Decidable.not_not.mp (fun w => c (sgn_le.mpr w)))
  have own : ∀ e : Nat, e = (if pe = 0 then dz (N.1 95) a (s / 3) else dz (N.1 95) b (s % 3)) → ¬ 0 < gX (N.1 95) a b p q (uM 35 M) (dM 35 M) s pe e := fun e he => by
    rw [he, gX_own hp (h.eqn hA hB hp) hs]
    decide
  have loop : ∀ o : Nat, o ≤ 2 → o = (if pe = 0 then dz (N.1 95) a (s / 3) else dz (N.1 95) b (s % 3)) → wpO (F_MO_gains_l37 (iI (a : Int)) (iI (b : Int)) (iI (s : Int)) (iI (pe : Int)) (iI ((s / 3 : Nat) : Int)) (iI ((s % 3 : Nat) : Int)) (iI (o : Int)) 0 N) (fun r => r = gnB (N.1 95) a b p q (uM 35 M) (dM 35 M) s pe) := by
    intro o ho2 ho
    unfold F_MO_gains_l37
    obtain ⟨n, hn⟩ : ∃ n : Nat, (N.1 95 0).toInt = n := ⟨(N.1 95 0).toInt.toNat, by omega⟩
    have en : N.1 95 0 = iI (n : Int) := by rw [← hn, iI_of]
    refine wp_bind (Ψ := fun r => match r with | .inl _ => gnB (N.1 95) a b p q (uM 35 M) (dM 35 M) s pe = true | .inr _ => gnB (N.1 95) a b p q (uM 35 M) (dM 35 M) s pe = false) ?_ (fun r hr => by
      rcases r with r | r
      · exact wp_some hr.symm
      · exact wp_some hr.symm)
    refine wp_iterS (P := fun (k : Nat) (z : Int32) => z = iI (k : Int) ∧ ∀ e, e < k → ¬ 0 < gX (N.1 95) a b p q (uM 35 M) (dM 35 M) s pe e) n ?_ FUEL 0 ⟨rfl, fun e h => absurd h (Nat.not_lt_zero _)⟩ (FUEL_big (by omega))
    rintro k z hk ⟨rfl, hz⟩
    have nx : ¬ 0 < gX (N.1 95) a b p q (uM 35 M) (dM 35 M) s pe k → ∀ e, e < k + 1 → ¬ 0 < gX (N.1 95) a b p q (uM 35 M) (dM 35 M) s pe e := fun w e he => by
      by_cases q1 : e = k
      · rw [q1]
        exact w
      · exact hz e (by omega)
    unfold F_MO_gains_b37
    rw [S_actMany, bs, en]
    refine wp_if (fun c => wp_some ?_) (fun c => ?_)
    · rw [iI_le (by omega) (by omega) (by omega) (by omega)] at c
      exact gnB_f (fun e he => hz e (by omega))
    rw [iI_le (by omega) (by omega) (by omega) (by omega)] at c
    refine wp_if (fun c2 => wp_some ⟨by omega, iI_succ k, nx (own k ?_)⟩) (fun _ => ?_)
    · rw [iI_eq (by omega) (by omega) (by omega) (by omega)] at c2
      omega
    have fin : ∀ r, (match r with | .inl z => z = iI ((k + 1 : Nat) : Int) ∧ ¬ 0 < gX (N.1 95) a b p q (uM 35 M) (dM 35 M) s pe k | .inr (.inl _) => 0 < gX (N.1 95) a b p q (uM 35 M) (dM 35 M) s pe k | .inr (.inr _) => False : Prop) → sumP (fun s' => k < n ∧ s' = iI ((k + 1 : Nat) : Int) ∧ ∀ e, e < k + 1 → ¬ 0 < gX (N.1 95) a b p q (uM 35 M) (dM 35 M) s pe e) (fun r : Unit ⊕ Unit => match r with | .inl _ => gnB (N.1 95) a b p q (uM 35 M) (dM 35 M) s pe = true | .inr _ => gnB (N.1 95) a b p q (uM 35 M) (dM 35 M) s pe = false) r := by
      intro r hr
      rcases r with r | r | r
      · exact ⟨by omega, hr.1, nx hr.2⟩
      · exact gnB_t (e := k) (by omega) hr
      · exact hr.elim
    have hp2 : pe = 0 ∨ pe = 1 := by omega
    rcases hp2 with rfl | rfl
    · refine wp_t (show iI ((0 : Nat) : Int) = 0 from rfl) ?_
      unfold F_MO_gains_j73
      refine wp_f (show ¬ iI ((0 : Nat) : Int) = 1 by decide) ?_
      rw [N_doesW b8 hB hs.2, bs]
      refine wp_mono (core _ k k (dz (N.1 95) b (s % 3)) (by omega) ?_ ?_) fin
      · unfold fsA
        rw [if_pos rfl]
      · unfold scA
        rw [if_neg (by decide)]
    · refine wp_f (show ¬ iI ((1 : Nat) : Int) = 0 by decide) ?_
      rw [N_doesW a8 hA hs.1, bs]
      unfold F_MO_gains_j73
      refine wp_t (show iI ((1 : Nat) : Int) = 1 from rfl) ?_
      refine wp_mono (core _ k (dz (N.1 95) a (s / 3)) k (by omega) ?_ ?_) fin
      · unfold fsA
        rw [if_neg (by decide)]
      · unfold scA
        rw [if_pos rfl]
  apply wp_of
  unfold F_MO_gains
  rw [idiv3 hs9, irm3 hs9]
  have hp2 : pe = 0 ∨ pe = 1 := by omega
  rcases hp2 with rfl | rfl
  · refine wp_t (show iI ((0 : Nat) : Int) = 0 from rfl) ?_
    rw [N_doesW a8 hA hs.1, bs]
    exact loop _ da (by rw [if_pos rfl])
  · refine wp_f (show ¬ iI ((1 : Nat) : Int) = 0 by decide) ?_
    rw [N_doesW b8 hB hs.2, bs]
    exact loop _ db (by rw [if_neg (by decide)])
theorem R_firstL8 {a b : Nat} {p q : Int} {M N : Mem} (hR : RI8 (N.1 95)) (ha : wIn (N.1 95) a) (hb : wIn (N.1 95) b) (hP : N.1 94 19 = iI p) (hQ : N.1 94 20 = iI q) (p1 : 1 ≤ p) (pq : p < q) (q12 : q ≤ 12) (h : PRS8 (N.1 95) a b p q M) (hw : ∀ t pe, pe < 2 → stW (N.1 95) a b t → N.2 104 (2 * t + pe) = lI (rU (uM 35 M t pe) (dM 35 M t)) ∧ N.2 105 (2 * t + pe) = lI (rD (uM 35 M t pe) (dM 35 M t))) : F_MO_firstOf_l8 (iI (a : Int)) (iI (b : Int)) 0 N = some (iI (fgR (N.1 95) a b p q (uM 35 M) (dM 35 M) 18 0), N) := by
  have hA := hR.way a ha
  have hB := hR.way b hb
  have a8 := hR.w8 ha
  have b8 := hR.w8 hb
  obtain ⟨V, hV⟩ : ∃ V, V = fgR (N.1 95) a b p q (uM 35 M) (dM 35 M) 18 0 := ⟨_, rfl⟩
  rw [← hV]
  apply wp_of
  unfold F_MO_firstOf_l8
  refine wp_bind (Ψ := fun r => match r with | .inl z => ∃ s pe : Nat, z = (iI (s : Int), iI (pe : Int)) ∧ V = ((2 * s + pe : Nat) : Int) | .inr _ => V = -1) ?_ (fun r hr => ?_)
  · refine wp_iterS (P := fun (k : Nat) (z : Int32) => z = iI (k : Int) ∧ V = fgR (N.1 95) a b p q (uM 35 M) (dM 35 M) (18 - 2 * k) (2 * k)) 9 ?_ FUEL 0 ⟨rfl, hV⟩ (FUEL_big (by decide))
    rintro s z hk ⟨rfl, vs⟩
    unfold F_MO_firstOf_b8
    rw [l32_9]
    refine wp_if (fun c => wp_some ?_) (fun c => ?_)
    · rw [iI_le (by omega) (by omega) (by omega) (by omega)] at c
      show V = -1
      rw [vs]
      exact fgR_end (by omega) (fun j h1 h2 w => by omega)
    rw [iI_le (by omega) (by omega) (by omega) (by omega)] at c
    unfold F_MO_firstOf_l17
    refine wp_bind (Ψ := fun r => match r with | .inl z => ∃ pe : Nat, z = iI (pe : Int) ∧ V = ((2 * s + pe : Nat) : Int) | .inr _ => V = fgR (N.1 95) a b p q (uM 35 M) (dM 35 M) (18 - 2 * (s + 1)) (2 * (s + 1))) ?_ (fun r hr => ?_)
    · refine wp_iterS (P := fun (k : Nat) (z : Int32) => z = iI (k : Int) ∧ V = fgR (N.1 95) a b p q (uM 35 M) (dM 35 M) (18 - (2 * s + k)) (2 * s + k)) 2 ?_ FUEL 0 ⟨rfl, vs⟩ (FUEL_big (by decide))
      rintro pe z hp ⟨rfl, vp⟩
      unfold F_MO_firstOf_b17
      rw [l32_2]
      refine wp_if (fun c2 => wp_some ?_) (fun c2 => ?_)
      · rw [iI_le (by omega) (by omega) (by omega) (by omega)] at c2
        have : pe = 2 := by omega
        subst this
        exact vp
      rw [iI_le (by omega) (by omega) (by omega) (by omega)] at c2
      have i1 : (2 * s + pe) / 2 = s := by omega
      have i2 : (2 * s + pe) % 2 = pe := by omega
      obtain ⟨r, hr, hst⟩ := N_isState (M := N) (s := s) (by omega) (by omega) hA hB (by omega)
      rw [hr, bs]
      refine wp_if (fun c3 => ?_) (fun c3 => wp_some ?_)
      · have hs := hst.mp c3
        rw [R_gains8 hR ha hb hP hQ p1 pq q12 h (fun t ht => hw t pe (by omega) ht) hs (by omega), bs]
        rw [fgR_go (by omega), i1, i2] at vp
        refine wp_if (fun c4 => wp_some ?_) (fun c4 => wp_some ?_)
        · rw [if_pos ⟨hs.1, hs.2, c4⟩] at vp
          exact ⟨pe, rfl, vp⟩
        · rw [if_neg (fun w => c4 w.2.2)] at vp
          exact ⟨by omega, iI_succ pe, vp⟩
      · show V = _
        have hns : ¬ stW (N.1 95) a b s := fun w => c3 (hst.mpr w)
        rw [vp, fgR_skip (2 * (s + 1) - (2 * s + pe)) (by omega) (fun j h1 h2 w => hns (by
          have : j / 2 = s := by omega
          rw [this] at w
          exact ⟨w.1, w.2.1⟩)), show 2 * s + pe + (2 * (s + 1) - (2 * s + pe)) = 2 * (s + 1) by omega]
    · rcases r with r | r
      · obtain ⟨pe, e1, e2⟩ := hr
        exact wp_some ⟨s, pe, by rw [e1], e2⟩
      · exact wp_some ⟨by omega, iI_succ s, hr⟩
  · rcases r with r | r
    · obtain ⟨s, pe, e1, e2⟩ := hr
      rw [e1]
      refine wp_some ?_
      dsimp only
      rw [ix2, e2]
    · refine wp_some ?_
      rw [show V = -1 from hr]
      rfl
