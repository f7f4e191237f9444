/-! the class's side of the best answer -/
theorem C_ownW {W : Nat → Int32} {pr x y : Nat} {M : Mem} (h : CW W M) (hp : pr < 2) (hx : x < 3) (hy : y < 3) : F_Well_bringsOwn (iI (pr : Int)) (iI (x : Int)) (iI (y : Int)) M = some (iI (ownW W pr x y)) := by
  unfold F_Well_bringsOwn F_Well_bringsOwn_j27 ownW
  have hp2 : pr = 0 ∨ pr = 1 := by omega
  rcases hp2 with rfl | rfl
  · rw [if_pos (show iI ((0 : Nat) : Int) = 0 from rfl), if_pos rfl, ← C_brW h hx hy (show 0 < 2 by decide)]
    unfold F_Well_bringsTo
    rw [show iI ((0 : Nat) : Int) = 0 from rfl, Int32.add_zero]
  · rw [if_neg (show ¬ iI ((1 : Nat) : Int) = 0 by decide), if_neg (by decide), ← C_brW h hy hx (show 1 < 2 by decide)]
    rfl
theorem C_orderG {b s t pe : Nat} {S : Nat → Prop} {nx : Nat → Nat} {g : Nat → Nat → Int} {p q G : Int} {M : Mem} (hC : chS S nx g p q) (hI : chI b S nx g p q M) (hs : slv b S nx g p q M s) (ht : slv b S nx g p q M t) (hp : pe < 2) (hg1 : -99 ≤ G) (hg2 : G ≤ 99) : F_Chain_orderOf b (iI G) (iI (t : Int)) (iI (pe : Int)) (iI (s : Int)) M = some (iI (Int.sign ((G * (q * dM b M t) + p * uM b M t pe) * dM b M s - uM b M s pe * (q * dM b M t)))) := by
  have s9 := (hC.1 s hs.1).1
  have t9 := (hC.1 t ht.1).1
  have hd := hs.d9 hC
  have kd := ht.d9 hC
  obtain ⟨-, -, p1, pq, q12⟩ := hC
  obtain ⟨-, -, -, -, h5, h6⟩ := hs
  obtain ⟨-, -, -, -, k5, k6⟩ := ht
  obtain ⟨-, -, -, m6, m7⟩ := hI
  have b1 := fb_num (by omega) q12 (h6 pe hp) (by omega)
  obtain ⟨c1, c2, c3⟩ := fb_back (gk := G) p1 pq (by decide) ⟨hg1, hg2⟩ (k6 pe hp)
  dsimp only at c1 c2 c3
  have hqd : q * dM b M t ≤ 12 * 5159780352 := Int.mul_le_mul q12 kd (by omega) (by omega)
  have f := fb_num (u := G * q * dM b M t + p * uM b M t pe) (d := q * dM b M t) (by omega) q12 ⟨c1, c2, c3⟩ (by omega)
  rw [Int.mul_assoc G q] at f
  have eU : M.2 (b + 6) (2 * t + pe) = lI (uM b M t pe) := (lI_of _).symm
  have eD : M.2 (b + 8) t = lI (dM b M t) := (lI_of _).symm
  have eu : M.2 (b + 6) (2 * s + pe) = lI (uM b M s pe) := (lI_of _).symm
  have ed : M.2 (b + 8) s = lI (dM b M s) := (lI_of _).symm
  unfold F_Chain_orderOf
  rw [V_Row_at (by omega) (by omega) (by decide), bs, ix2 t, V_Row_at (by omega) (by omega) (by decide), bs, ix2 s, V_Row_at (by omega) (by omega) (by decide), bs, V_Row_at (by omega) (by omega) (by decide), bs]
  show ((F_Fraction_order ((iI G).toInt64 * (M.2 b 7 * M.2 (b + 8) t) + M.2 b 6 * M.2 (b + 6) (2 * t + pe)) (M.2 b 7 * M.2 (b + 8) t) (M.2 (b + 6) (2 * s + pe)) (M.2 (b + 8) s) M).bind fun r5 => some r5) = _
  rw [eU, eD, eu, ed, m6, m7, iI_l (by omega) (by omega), lI_mul, lI_mul, lI_mul, lI_add, C_order f.1 f.2.1 f.2.2.1 f.2.2.2 b1.1 b1.2.1 b1.2.2.1 b1.2.2.2, bs]
def nxB (W : Nat → Int32) (w m e : Nat) : Nat := gz W w m e
def gB (W : Nat → Int32) (pr w m e : Nat) : Int := ownW W pr e (dz W w m)
def aN (W : Nat → Int32) : Nat := (W 0).toInt.toNat
/-- the place of the best answer: whose, of which way -/
def AW (W : Nat → Int32) (pr w : Nat) (M : Mem) : Prop := CW W M ∧ M.1 52 3 = iI (pr : Int) ∧ M.1 52 4 = iI (w : Int) ∧ M.1 52 5 = iI (mo W w : Int)
/-- its policy -/
def RWp (W : Nat → Int32) (w : Nat) (f : Nat → Nat) (M : Mem) : Prop := ∀ m, m < mo W w → f m < aN W ∧ M.2 67 m = lI (f m : Int)
/-- what its chain holds -/
def KN (W : Nat → Int32) (pr w : Nat) (f : Nat → Nat) (M : Mem) : Prop := AW W pr w M ∧ chI 53 (fun s => s < mo W w) (fun m => nxB W w m (f m)) (fun s pe => if pe = 0 then gB W pr w s (f s) else 0) (W 1).toInt (W 2).toInt M ∧ ∀ s, s < mo W w → slv 53 (fun s => s < mo W w) (fun m => nxB W w m (f m)) (fun s pe => if pe = 0 then gB W pr w s (f s) else 0) (W 1).toInt (W 2).toInt M s
theorem AW.sm {T : Nat → Prop} {W : Nat → Int32} {pr w : Nat} {M N : Mem} (h : AW W pr w M) (f : Same T M N) (hs : ∀ k, T k → ¬ (k = 1 ∨ k = 3 ∨ k = 5 ∨ k = 7 ∨ k = 95 ∨ k = 52)) : AW W pr w N := by
  obtain ⟨h1, h2, h3, h4⟩ := h
  have e : ∀ j, N.1 52 j = M.1 52 j := fun j => (f 52 (fun q => hs 52 q (by omega))).1 j
  exact ⟨h1.sm f (fun k q w => hs k q (by omega)), (e 3).trans h2, (e 4).trans h3, (e 5).trans h4⟩
theorem aN3 {W : Nat → Int32} {M : Mem} (h : CW W M) : 2 ≤ aN W ∧ aN W ≤ 3 ∧ W 0 = iI (aN W : Int) := by
  have := h.2.1.acts
  exact ⟨by unfold aN; omega, by unfold aN; omega, iI_nat (by omega)⟩
theorem gB_b {W : Nat → Int32} {pr w m e : Nat} {M : Mem} (h : CW W M) (hw : (w : Int) < (W 5).toInt) (hm : m < mo W w) (he : e < 3) : -99 ≤ gB W pr w m e ∧ gB W pr w m e ≤ 99 := by
  have d := ((h.wk hw).dzK hm).1
  exact ownW_le h.2.1.br he (by omega)
theorem nxB_lt {W : Nat → Int32} {w m e : Nat} {M : Mem} (h : CW W M) (hw : (w : Int) < (W 5).toInt) (hm : m < mo W w) (he : e < 3) : nxB W w m e < mo W w := ((h.wk hw).gzK hm he).1
theorem C_bringsIn {W : Nat → Int32} {pr w m e : Nat} {M : Mem} (h : AW W pr w M) (hp : pr < 2) (hw : (w : Int) < (W 5).toInt) (hm : m < mo W w) (he : e < 3) : F_Answer_bringsIn (iI (m : Int)) (iI (e : Int)) M = some (iI (gB W pr w m e)) := by
  have d := ((h.1.wk hw).dzK hm).1
  unfold F_Answer_bringsIn
  rw [h.2.2.1, h.2.1, C_actOf h.1 hw hm, bs, C_ownW h.1 hp he (by omega), bs]
  rfl
theorem AWS {W : Nat → Int32} {pr w : Nat} {f : Nat → Nat} {M : Mem} (h : CW W M) (hw : (w : Int) < (W 5).toInt) (hf : ∀ m, m < mo W w → f m < aN W) : chS (fun s => s < mo W w) (fun m => nxB W w m (f m)) (fun s pe => if pe = 0 then gB W pr w s (f s) else 0) (W 1).toInt (W 2).toInt := by
  have mk := (h.wk hw).moK
  have a3 := aN3 h
  obtain ⟨-, -, p1, pq, q9⟩ := h.pq
  refine ⟨fun s hs => ⟨by omega, nxB_lt h hw hs (by have := hf s hs; omega)⟩, fun s pe hs _ => ?_, p1, pq, by omega⟩
  dsimp only
  by_cases c : pe = 0
  · rw [if_pos c]
    exact gB_b h hw hs (by have := hf s hs; omega)
  · rw [if_neg c]
    decide
theorem C_reckonA {W : Nat → Int32} {pr w : Nat} {f : Nat → Nat} {M : Mem} (h : AW W pr w M) (hr : RWp W w f M) (hp : pr < 2) (hw : (w : Int) < (W 5).toInt) : wpO (F_Answer_reckon M) (fun N => KN W pr w f N ∧ RWp W w f N) := by
  have cw := h.1
  have mk := (cw.wk hw).moK
  have a3 := aN3 cw
  have hC := AWS (pr := pr) (f := f) cw hw (fun m hm => (hr m hm).1)
  obtain ⟨q1, q2, p1, pq, q9⟩ := cw.pq
  refine wp_mono (wp_q (Ψ := fun r => Same (fun k => (53 ≤ k ∧ k ≤ 65)) M r) (Φ := fun N => chI 53 (fun s => s < mo W w) (fun m => nxB W w m (f m)) (fun s pe => if pe = 0 then gB W pr w s (f s) else 0) (W 1).toInt (W 2).toInt N ∧ ∀ s, s < mo W w → slv 53 (fun s => s < mo W w) (fun m => nxB W w m (f m)) (fun s pe => if pe = 0 then gB W pr w s (f s) else 0) (W 1).toInt (W 2).toInt N s) ?_ (fun a ha => wpO_of (T_Answer_reckon M) ha)) (fun N hN => ⟨⟨h.sm hN.2 (fun k q => by omega), hN.1.1, hN.1.2⟩, fun m hm => ⟨(hr m hm).1, ((hN.2 67 (by omega)).2 m).trans (hr m hm).2⟩⟩)
  unfold F_Answer_reckon F_Chain_clear
  refine wp_bind (Ψ := fun N => Same (fun k => k = 55) M N ∧ ∀ j, j < 9 → N.2 55 j = -1) ?_ (fun r5 hr5 => ?_)
  · refine wp_bind (T_Row_setAllQ 55 9 (-1) M) (fun r hr => wp_some ⟨hr.1, fun j hj => hr.2 j hj (by decide)⟩)
  obtain ⟨f5, c5⟩ := hr5
  have aw5 := h.sm f5 (fun k q => by omega)
  unfold F_Answer_reckon_l9
  refine wp_bind (Ψ := fun N => Same (fun k => k = 55 ∨ k = 57) r5 N ∧ (∀ s, s < mo W w → N.2 55 s = lI (nxB W w s (f s) : Int) ∧ ∀ pe, pe < 2 → N.2 57 (2 * s + pe) = lI (if pe = 0 then gB W pr w s (f s) else 0)) ∧ ∀ s, s < 9 → ¬ s < mo W w → N.2 55 s = lI (-1)) ?_ (fun N hN => ?_)
  · refine wp_iterS (P := fun (k : Nat) (z : Int32 × Mem) => z.1 = iI (k : Int) ∧ k ≤ mo W w ∧ Same (fun k => k = 55 ∨ k = 57) r5 z.2 ∧ (∀ s, s < k → z.2.2 55 s = lI (nxB W w s (f s) : Int) ∧ ∀ pe, pe < 2 → z.2.2 57 (2 * s + pe) = lI (if pe = 0 then gB W pr w s (f s) else 0)) ∧ ∀ s, s < 9 → ¬ s < k → z.2.2 55 s = lI (-1)) (mo W w) ?_ FUEL (0, r5) ⟨rfl, by omega, Same.rfl', fun s q => absurd q (Nat.not_lt_zero _), fun s h9 _ => by rw [← tm1l]; exact c5 s h9⟩ (FUEL_big (by omega))
    rintro k ⟨z1, O⟩ hk ⟨e1, kn, fO, ov, ou⟩
    dsimp only at e1 fO ov ou
    subst e1
    have awO := aw5.sm fO (fun k q => by omega)
    unfold F_Answer_reckon_b9
    dsimp only
    rw [awO.2.2.2]
    refine wp_if (fun c => wp_some ?_) (fun c => ?_)
    · rw [iI_le (by omega) (by omega) (by omega) (by omega)] at c
      have : k = mo W w := by omega
      subst this
      exact ⟨fO, ov, ou⟩
    rw [iI_le (by omega) (by omega) (by omega) (by omega)] at c
    have hkn : k < mo W w := by omega
    obtain ⟨fk, e67⟩ := hr k hkn
    have r67 : O.2 67 k = lI (f k : Int) := ((fO 67 (by omega)).2 k).trans (((f5 67 (by omega)).2 k).trans e67)
    have gb := gB_b (pr := pr) cw hw hkn (show f k < 3 by omega)
    have nl := nxB_lt cw hw hkn (show f k < 3 by omega)
    rw [V_Row_small (by omega) (by omega) (by decide), bs, show ((k : Nat) : Int).toNat = k from rfl, r67, lI_i, awO.2.2.1, C_nextOf awO.1 hw hkn (by omega), bs, C_bringsIn awO hp hw hkn (by omega), bs]
    unfold F_Chain_put
    have i20 : 2 * iI (k : Int) = iI ((2 * k : Nat) : Int) := by rw [l32n_2, iI_pm]
    have i21 : iI ((2 * k : Nat) : Int) + 1 = iI ((2 * k + 1 : Nat) : Int) := iI_succ _
    have e0 : ((0 : Int32)).toInt64 = lI 0 := rfl
    have enx : gz W w k (f k) = nxB W w k (f k) := rfl
    rw [i20, i21, enx, l64n _ (by omega), iI_l (by omega) (by omega), e0, V_Row_put (by omega) (by omega) (by decide), bs, V_Row_put (by omega) (by omega) (by decide), bs, V_Row_put (by omega) (by omega) (by decide), bs, bs, show ((k : Nat) : Int).toNat = k from rfl, show ((2 * k : Nat) : Int).toNat = 2 * k from rfl, show ((2 * k + 1 : Nat) : Int).toNat = 2 * k + 1 from rfl]
    have fP : Same (fun k => k = 55 ∨ k = 57) r5 (mSL (mSL (mSL O 55 k (lI (nxB W w k (f k) : Int))) 57 (2 * k) (lI (gB W pr w k (f k)))) 57 (2 * k + 1) (lI 0)) := ((fO.sL (Or.inl rfl)).sL (Or.inr rfl)).sL (Or.inr rfl)
    have v55 : ∀ j, (mSL (mSL (mSL O 55 k (lI (nxB W w k (f k) : Int))) 57 (2 * k) (lI (gB W pr w k (f k)))) 57 (2 * k + 1) (lI 0)).2 55 j = if j = k then lI (nxB W w k (f k) : Int) else O.2 55 j := fun j => by
      rw [mL_cell (by decide), mL_cell (by decide), mSL_2]
      by_cases q : j = k
      · rw [if_pos ⟨rfl, q⟩, if_pos q]
      · rw [if_neg (fun w => q w.2), if_neg q]
    have v57 : ∀ j, (mSL (mSL (mSL O 55 k (lI (nxB W w k (f k) : Int))) 57 (2 * k) (lI (gB W pr w k (f k)))) 57 (2 * k + 1) (lI 0)).2 57 j = if j = 2 * k + 1 then lI 0 else if j = 2 * k then lI (gB W pr w k (f k)) else O.2 57 j := fun j => by
      rw [mSL_2]
      by_cases q : j = 2 * k + 1
      · rw [if_pos ⟨rfl, q⟩, if_pos q]
      · rw [if_neg (fun w => q w.2), if_neg q, mSL_2]
        by_cases q2 : j = 2 * k
        · rw [if_pos ⟨rfl, q2⟩, if_pos q2]
        · rw [if_neg (fun w => q2 w.2), if_neg q2, mL_cell (by decide)]
    generalize mSL (mSL (mSL O 55 k (lI (nxB W w k (f k) : Int))) 57 (2 * k) (lI (gB W pr w k (f k)))) 57 (2 * k + 1) (lI 0) = P at *
    refine wp_some ⟨by omega, iI_succ k, by omega, fP, fun s hs => ?_, fun s h9 hns => ?_⟩
    · show P.2 55 s = _ ∧ ∀ pe, pe < 2 → P.2 57 (2 * s + pe) = _
      by_cases qs : s = k
      · rw [qs]
        refine ⟨by rw [v55, if_pos rfl], fun pe hp => ?_⟩
        have hp2 : pe = 0 ∨ pe = 1 := by omega
        rcases hp2 with rfl | rfl
        · rw [v57, if_neg (by omega), if_pos (by omega), if_pos rfl]
        · rw [v57, if_pos rfl, if_neg (by decide)]
      · obtain ⟨o1, o2⟩ := ov s (by omega)
        refine ⟨by rw [v55, if_neg qs, o1], fun pe hp => by rw [v57, if_neg (by omega), if_neg (by omega), o2 pe hp]⟩
    · show P.2 55 s = _
      rw [v55, if_neg (by omega)]
      exact ou s h9 (by omega)
  · obtain ⟨fN, nv, nu⟩ := hN
    have awN := aw5.sm fN (fun k q => by omega)
    unfold F_Answer_reckon_j60
    rw [awN.1.pq.1, awN.1.pq.2.1]
    refine wp_bind (C_reckon (b := 53) hC (fun s _ hs => (nv s hs).1) nu (fun s pe hs _ hp => (nv s hs).2 pe hp)) (fun r6 h6 => wp_some h6)
