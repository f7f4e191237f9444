/-! ===== ways on the class's side; mood, field, meet ===== -/
/-- the class's cells hold a world -/
def CW (W : Nat → Int32) (M : Mem) : Prop := M.1 95 = W ∧ RIW W ∧ (M.1 1 0 = W 0 ∧ M.1 1 1 = W 1 ∧ M.1 1 2 = W 2 ∧ M.1 1 3 = W 3 ∧ M.1 1 4 = W 4 ∧ M.1 1 5 = W 6 ∧ M.1 1 6 = W 5 ∧ M.1 1 7 = W 7) ∧ (∀ w : Nat, (w : Int) < (W 5).toInt → wyR (M.2 5) W w) ∧ (∀ j : Nat, j < 18 → M.2 3 j = (W (9 + j)).toInt64) ∧ ∀ j : Nat, (j : Int) < 2 * (W 7).toInt → M.2 7 j = (W (152 + j)).toInt64
theorem RY.cw {M : Mem} (h : RY M) : CW (M.1 95) M := by
  obtain ⟨⟨i, ⟨⟨h0, h1, h2, h3, h4, h5, h8, hb, hc⟩, -⟩, -⟩, ⟨y1, y2, y3, y4⟩, -⟩ := h
  exact ⟨rfl, i.1, ⟨h0, h1, h2, h3, h4, h5, y1, y2⟩, y3, hb, y4⟩
theorem CW.sm {S : Nat → Prop} {W : Nat → Int32} {M N : Mem} (h : CW W M) (f : Same S M N) (hs : ∀ k, S k → ¬ (k = 1 ∨ k = 3 ∨ k = 5 ∨ k = 7 ∨ k = 95)) : CW W N := by
  obtain ⟨w0, w1, ⟨h0, h1, h2, h3, h4, h5, h6, h7⟩, w2, w3, w4⟩ := h
  have e1 := (f 1 (fun q => hs _ q (by omega))).1
  have e3 := funext (f 3 (fun q => hs _ q (by omega))).2
  have e5 := funext (f 5 (fun q => hs _ q (by omega))).2
  have e7 := funext (f 7 (fun q => hs _ q (by omega))).2
  have e95 := funext (f 95 (fun q => hs _ q (by omega))).1
  refine ⟨e95.trans w0, w1, ⟨(e1 0).trans h0, (e1 1).trans h1, (e1 2).trans h2, (e1 3).trans h3, (e1 4).trans h4, (e1 5).trans h5, (e1 6).trans h6, (e1 7).trans h7⟩, fun w hw => ?_, fun j hj => ?_, fun j hj => ?_⟩
  · rw [show N.2 5 = M.2 5 from e5]
    exact w2 w hw
  · rw [show N.2 3 = M.2 3 from e3]
    exact w3 j hj
  · rw [show N.2 7 = M.2 7 from e7]
    exact w4 j hj
theorem iI_pm (a b : Nat) : iI (a : Int) * iI (b : Int) = iI ((a * b : Nat) : Int) := by rw [iI_mul]; rfl
theorem iI_pa (a b : Nat) : iI (a : Int) + iI (b : Int) = iI ((a + b : Nat) : Int) := by rw [iI_add]; rfl
theorem l32n_1 : (1 : Int32) = iI ((1 : Nat) : Int) := rfl
theorem l32n_2 : (2 : Int32) = iI ((2 : Nat) : Int) := rfl
theorem l32n_3 : (3 : Int32) = iI ((3 : Nat) : Int) := rfl
theorem l32n_4 : (4 : Int32) = iI ((4 : Nat) : Int) := rfl
theorem l32n_13 : (13 : Int32) = iI ((13 : Nat) : Int) := rfl
theorem CW.w8 {W : Nat → Int32} {M : Mem} (h : CW W M) {w : Nat} (hw : (w : Int) < (W 5).toInt) : w < 8 := by
  have := h.2.1.ways
  omega
theorem CW.wk {W : Nat → Int32} {M : Mem} (h : CW W M) {w : Nat} (hw : (w : Int) < (W 5).toInt) : WOKW W w := h.2.1.way w hw
theorem C_moodsOf {W : Nat → Int32} {w : Nat} {M : Mem} (h : CW W M) (hw : (w : Int) < (W 5).toInt) : F_Well_moodsOf (iI (w : Int)) M = some (iI (mo W w : Int)) := by
  have w8 := h.w8 hw
  have k := (h.wk hw).moK
  unfold F_Well_moodsOf
  rw [l32n_13, iI_pm, V_Row_small (by omega) (by omega) (by decide), bs]
  show some (M.2 5 (w * 13)).toInt32 = _
  rw [Nat.mul_comm w 13, (h.2.2.2.1 w hw).1, k.2.2, iI_l (by omega) (by omega), lI_i]
theorem C_actOf {W : Nat → Int32} {w m : Nat} {M : Mem} (h : CW W M) (hw : (w : Int) < (W 5).toInt) (hm : m < mo W w) : F_Well_actOf (iI (w : Int)) (iI (m : Int)) M = some (iI (dz W w m : Int)) := by
  have w8 := h.w8 hw
  have k := (h.wk hw).moK
  have d := (h.wk hw).dzK hm
  unfold F_Well_actOf
  rw [l32n_13, l32n_1, l32n_4, iI_pm, iI_pm, iI_pa, iI_pa, V_Row_small (by omega) (by omega) (by decide), bs]
  show some (M.2 5 (w * 13 + 1 + 4 * m)).toInt32 = _
  rw [Nat.mul_comm w 13, ((h.2.2.2.1 w hw).2 m (by rw [k.2.2, iI_toInt (by omega) (by omega)]; omega)).1, d.2, iI_l (by omega) (by omega), lI_i]
theorem C_nextOf {W : Nat → Int32} {w m s : Nat} {M : Mem} (h : CW W M) (hw : (w : Int) < (W 5).toInt) (hm : m < mo W w) (hs : s < 3) : F_Well_nextOf (iI (w : Int)) (iI (m : Int)) (iI (s : Int)) M = some (iI (gz W w m s : Int)) := by
  have w8 := h.w8 hw
  have k := (h.wk hw).moK
  have d := (h.wk hw).gzK hm hs
  unfold F_Well_nextOf
  rw [l32n_13, l32n_2, l32n_4, iI_pm, iI_pm, iI_pa, iI_pa, iI_pa, V_Row_small (by omega) (by omega) (by decide), bs]
  show some (M.2 5 (w * 13 + 2 + 4 * m + s)).toInt32 = _
  rw [Nat.mul_comm w 13, ((h.2.2.2.1 w hw).2 m (by rw [k.2.2, iI_toInt (by omega) (by omega)]; omega)).2 s hs, d.2, iI_l (by omega) (by omega), lI_i]
theorem C_brW {W : Nat → Int32} {p x y : Nat} {M : Mem} (h : CW W M) (hx : x < 3) (hy : y < 3) (hp : p < 2) : F_Well_bringsTo (iI (p : Int)) (iI (x : Int)) (iI (y : Int)) M = some (iI (br W x y p)) := by
  have b := h.2.1.brj (2 * (3 * x + y) + p) (by omega)
  unfold F_Well_bringsTo
  rw [l32n_2, l32n_3, iI_pm, iI_pa, iI_pm, iI_pa, V_Row_small (by omega) (by omega) (by decide), bs]
  show some (M.2 3 (2 * (3 * x + y) + p)).toInt32 = _
  rw [h.2.2.2.2.1 _ (by omega)]
  unfold br
  generalize W (9 + (2 * (3 * x + y) + p)) = v at *
  rw [← iI_of v, iI_l (by omega) (by omega), lI_i, iI_of, iI_of]
theorem C_min3 {a : Nat} (h : a ≤ 3) (M : Mem) : F_Math_min_III (iI (a : Int)) 3 M = some (iI (a : Int)) := by
  have l3 : (3 : Int32) = iI 3 := rfl
  unfold F_Math_min_III
  rw [l3, if_neg (by rw [iI_lt (by omega) (by omega) (by omega) (by omega)]; omega)]
theorem C_isBarred {W : Nat → Int32} {w : Nat} {M : Mem} (h : CW W M) (hw : (w : Int) < (W 5).toInt) : F_Well_isBarred (iI (w : Int)) M = some (barW W w) := by
  have w8 := h.w8 hw
  have k := (h.wk hw).moK
  have ra := h.2.1.acts
  apply wp_of
  unfold F_Well_isBarred
  rw [C_moodsOf h hw, bs, C_min3 k.2.1, bs]
  unfold F_Well_isBarred_l12
  refine wp_bind (Ψ := fun q => (q = .inl () ∧ barW W w = true) ∨ (q = .inr () ∧ barW W w = false)) ?_ (fun q hq => ?_)
  · refine wp_iterS (P := fun k z => z = iI (k : Int) ∧ ∀ m, m < k → (dz W w m : Int) < (W 0).toInt) (mo W w) ?_ _ _ ⟨rfl, fun m q => absurd q (Nat.not_lt_zero _)⟩ (FUEL_big (by omega))
    rintro m z hm ⟨rfl, hz⟩
    unfold F_Well_isBarred_b12
    refine wp_if (fun c => wp_some (Or.inr ⟨rfl, ?_⟩)) (fun c => ?_)
    · rw [iI_le (by omega) (by omega) (by omega) (by omega)] at c
      unfold barW
      rw [List.any_eq_false]
      intro x hx
      have := hz x (by have := List.mem_range.mp hx; omega)
      rw [decide_eq_true_eq]
      omega
    rw [iI_le (by omega) (by omega) (by omega) (by omega)] at c
    have d := (h.wk hw).dzK (m := m) (by omega)
    rw [C_actOf h hw (by omega), bs, h.2.2.1.1]
    refine wp_if (fun c2 => wp_some ⟨by omega, iI_succ m, fun x hx => ?_⟩) (fun c2 => wp_some (Or.inl ⟨rfl, ?_⟩))
    · rw [lt_i, iI_toInt (by omega) (by omega)] at c2
      by_cases q : x = m
      · rw [q]
        exact c2
      · exact hz x (by omega)
    · rw [lt_i, iI_toInt (by omega) (by omega)] at c2
      unfold barW
      rw [List.any_eq_true]
      exact ⟨m, List.mem_range.mpr (by omega), decide_eq_true (by omega)⟩
  · rcases hq with ⟨rfl, e⟩ | ⟨rfl, e⟩
    · exact wp_some e.symm
    · exact wp_some e.symm
/-! which ways there are, on both sides -/
abbrev wOk (W : Nat → Int32) (x : Int32) : Prop := 0 ≤ x ∧ x < W 5
theorem wOk_nat {W : Nat → Int32} {x : Int32} (h : wOk W x) : ∃ a : Nat, x = iI (a : Int) ∧ (a : Int) < (W 5).toInt := by
  obtain ⟨h1, h2⟩ := h
  rw [le_i, li0] at h1
  rw [lt_i] at h2
  exact ⟨x.toInt.toNat, iI_nat h1, by omega⟩
theorem wOk_nat2 {W : Nat → Int32} {x : Int32} (h : wOk W x) : x = iI ((x.toInt.toNat : Nat) : Int) ∧ ((x.toInt.toNat : Nat) : Int) < (W 5).toInt := by
  obtain ⟨h1, h2⟩ := h
  rw [le_i, li0] at h1
  rw [lt_i] at h2
  exact ⟨iI_nat h1, by omega⟩
theorem CW.way_ok {W : Nat → Int32} {x : Int32} {M : Mem} (h : CW W M) (q : wOk W x) : F_KW_needWay x M = some (.inr (), M) := S_way_ok (by rw [h.2.2.1.2.2.2.2.2.2.1]; exact q)
theorem CW.way_no {W : Nat → Int32} {x : Int32} {M : Mem} (h : CW W M) (q : ¬ wOk W x) : F_KW_needWay x M = some (.inl "java/lang/IndexOutOfBoundsException", M) := S_way_no (by rw [h.2.2.1.2.2.2.2.2.2.1]; exact q)
theorem CW.free {W : Nat → Int32} {a : Nat} {M : Mem} (h : CW W M) (ha : (a : Int) < (W 5).toInt) : F_KW_needFree (iI (a : Int)) M = some (if barW W a = true then .inl "java/lang/IllegalStateException" else .inr (), M) := by
  unfold F_KW_needFree
  rw [C_isBarred h ha, bs]
  cases barW W a <;> rfl
theorem R_noWay {W : Nat → Int32} {x : Int32} {M : Mem} (hW : M.1 95 = W) (h : RIW W) : F_MO_noWay x M = some (!decide (wOk W x)) := by
  rw [S_noWay (by rw [hW, le_i, li0]; exact h.ways.1), hW]
abbrev wOk2 (W : Nat → Int32) (x y : Int32) : Prop := wOk W x ∧ wOk W y
theorem R_ways {α : Type} {W : Nat → Int32} {x y : Int32} {M : Mem} {J : Bool → Option α} (hW : M.1 95 = W) (h : RIW W) : ((F_MO_noWay x M).bind fun r1 => if r1 = true then J true else (F_MO_noWay y M).bind fun r6 => if r6 = true then J true else J false) = J (!decide (wOk2 W x y)) := by
  rw [R_noWay hW h, R_noWay hW h, bs]
  by_cases c1 : wOk W x
  · by_cases c2 : wOk W y
    · have c3 : wOk2 W x y := ⟨c1, c2⟩
      rw [decide_eq_true c1, decide_eq_true c2, decide_eq_true c3]
      rfl
    · have c3 : ¬ wOk2 W x y := fun q => c2 q.2
      rw [decide_eq_true c1, decide_eq_false c2, decide_eq_false c3]
      rfl
  · have c3 : ¬ wOk2 W x y := fun q => c1 q.1
    rw [decide_eq_false c1, decide_eq_false c3]
    rfl
theorem CW.pair_no {W : Nat → Int32} {x y : Int32} {M : Mem} (h : CW W M) (q : ¬ wOk2 W x y) : F_KW_needPair x y M = some (.inl "java/lang/IndexOutOfBoundsException", M) := by
  unfold F_KW_needPair
  by_cases c1 : wOk W x
  · rw [h.way_ok c1, xb_inr, h.way_no (fun w => q ⟨c1, w⟩), xb_inl]
  · rw [h.way_no c1, xb_inl]
theorem CW.pair {W : Nat → Int32} {a b : Nat} {M : Mem} (h : CW W M) (ha : (a : Int) < (W 5).toInt) (hb : (b : Int) < (W 5).toInt) : F_KW_needPair (iI (a : Int)) (iI (b : Int)) M = some (if (barW W a || barW W b) = true then .inl "java/lang/IllegalStateException" else .inr (), M) := by
  have k : ∀ c : Nat, (c : Int) < (W 5).toInt → wOk W (iI (c : Int)) := fun c hc => by
    have := h.2.1.ways
    exact ⟨by rw [le_i, li0, iI_toInt (by omega) (by omega)]; omega, by rw [lt_i, iI_toInt (by omega) (by omega)]; exact hc⟩
  unfold F_KW_needPair
  rw [h.way_ok (k a ha), xb_inr, h.way_ok (k b hb), xb_inr, h.free ha]
  cases barW W a with
  | false =>
    show xbind (F_KW_needFree (iI (b : Int)) M) (fun _ M4 => some (.inr (), M4)) = _
    rw [h.free hb]
    cases barW W b <;> rfl
  | true => rfl
theorem R_areB {W : Nat → Int32} {a b : Nat} {M : Mem} (hW : M.1 95 = W) (h : RIW W) (ha : (a : Int) < (W 5).toInt) (hb : (b : Int) < (W 5).toInt) : F_MO_areBarred (iI (a : Int)) (iI (b : Int)) M = some (barW W a || barW W b) := by
  subst hW
  exact N_areB h ha hb
/-! mood -/
def moV (W : Nat → Int32) (a m : Nat) (x3 : Int32) : Int32 := if x3 = 0 then iI (mo W a : Int) else if x3 = 1 then b2i (barW W a) else if x3 = 2 then iI (dz W a m : Int) else iI (gz W a m (x3 - 3).toInt.toNat : Int)
def moOk (W : Nat → Int32) (x1 x2 x3 : Int32) : Prop := wOk W x1 ∧ (2 ≤ x3 ∧ x3 ≤ 5 → 0 ≤ x2 ∧ x2 < iI (mo W x1.toInt.toNat : Int))
theorem s3_nat {x3 : Int32} (h1 : 0 ≤ x3) (h2 : x3 ≤ 5) (n0 : ¬ x3 = 0) (n1 : ¬ x3 = 1) (n2 : ¬ x3 = 2) : ∃ s : Nat, s < 3 ∧ x3 - 3 = iI (s : Int) := by
  rw [le_i, li0] at h1
  rw [le_i, li5] at h2
  have e : x3 = iI x3.toInt := (iI_of x3).symm
  have m0 : x3.toInt ≠ 0 := fun q => n0 (by rw [e, q]; rfl)
  have m1 : x3.toInt ≠ 1 := fun q => n1 (by rw [e, q]; rfl)
  have m2 : x3.toInt ≠ 2 := fun q => n2 (by rw [e, q]; rfl)
  refine ⟨(x3.toInt - 3).toNat, by omega, ?_⟩
  rw [e, show (3 : Int32) = iI 3 from rfl, iI_sub, iI_of]
  congr 1
  omega
theorem C_moodV {x1 x2 x3 : Int32} {W : Nat → Int32} {M : Mem} (h : CW W M) : wpO (F_LAW_mood x1 x2 x3 M) (fun r => (¬ moOk W x1 x2 x3 → r.1 = 1) ∧ (moOk W x1 x2 x3 → ¬ (0 ≤ x3 ∧ x3 ≤ 5) → r.1 = 2) ∧ (moOk W x1 x2 x3 → (0 ≤ x3 ∧ x3 ≤ 5) → r.1 = 0 ∧ r.2.2 121 0 = (moV W x1.toInt.toNat x2.toInt.toNat x3).toInt64)) := by
  unfold F_LAW_mood F_KW_mood
  have fin : ∀ v : Int32, v = moV W x1.toInt.toNat x2.toInt.toNat x3 → moOk W x1 x2 x3 → (0 ≤ x3 ∧ x3 ≤ 5) → wpO (if inb ((0 : Int32)) 1 then some ((0, mSL M 121 ((0 : Int32)).toNatClampNeg v.toInt64)) else none) (fun r : Int32 × Mem => (¬ moOk W x1 x2 x3 → r.1 = 1) ∧ (moOk W x1 x2 x3 → ¬ (0 ≤ x3 ∧ x3 ≤ 5) → r.1 = 2) ∧ (moOk W x1 x2 x3 → (0 ≤ x3 ∧ x3 ≤ 5) → r.1 = 0 ∧ r.2.2 121 0 = (moV W x1.toInt.toNat x2.toInt.toNat x3).toInt64)) := by
    intro v hv h1 h2
    refine wp_t ib01 (wp_some ⟨fun w => absurd h1 w, fun _ w => absurd h2 w, fun _ _ => ⟨rfl, ?_⟩⟩)
    show (mSL M 121 ((0 : Int32)).toNatClampNeg v.toInt64).2 121 0 = _
    rw [tn0, mL_hit, hv]
  by_cases c1 : wOk W x1
  · obtain ⟨e1, a5⟩ := wOk_nat2 c1
    rw [h.way_ok c1, xb_inr]
    have k := (h.wk a5).moK
    by_cases n0 : x3 = 0
    · have r3 : 0 ≤ x3 ∧ x3 ≤ 5 := by
        rw [n0]
        decide
      have mok : moOk W x1 x2 x3 := ⟨c1, fun w => absurd w.1 (by rw [n0]; decide)⟩
      rw [if_pos n0, e1, C_moodsOf h a5, bs, hb_inr, ← e1]
      exact fin _ (by unfold moV; rw [if_pos n0]) mok r3
    rw [if_neg n0]
    by_cases n1 : x3 = 1
    · have r3 : 0 ≤ x3 ∧ x3 ≤ 5 := by
        rw [n1]
        decide
      have mok : moOk W x1 x2 x3 := ⟨c1, fun w => absurd w.1 (by rw [n1]; decide)⟩
      rw [if_pos n1, show F_Well_isBarred x1 M = some (barW W x1.toInt.toNat) by rw [e1, C_isBarred h a5, ← e1], bs]
      have ev : moV W x1.toInt.toNat x2.toInt.toNat x3 = b2i (barW W x1.toInt.toNat) := by
        unfold moV
        rw [if_neg n0, if_pos n1]
      cases hb : barW W x1.toInt.toNat with
      | true =>
        rw [if_pos rfl, hb_inr]
        exact fin _ (by rw [ev, hb]; rfl) mok r3
      | false =>
        rw [if_neg (by decide), hb_inr]
        exact fin _ (by rw [ev, hb]; rfl) mok r3
    rw [if_neg n1]
    by_cases r3 : 0 ≤ x3 ∧ x3 ≤ 5
    · rw [S_what_ok r3, xb_inr]
      have r25 : 2 ≤ x3 ∧ x3 ≤ 5 := by
        refine ⟨?_, r3.2⟩
        have h0 := r3.1
        rw [le_i, li0] at h0
        rw [le_i, li2]
        have m0 : x3.toInt ≠ 0 := fun q => n0 (by rw [← iI_of x3, q]; rfl)
        have m1 : x3.toInt ≠ 1 := fun q => n1 (by rw [← iI_of x3, q]; rfl)
        omega
      unfold F_KW_needMood
      by_cases c2 : x2 < 0
      · rw [if_pos c2, xb_inl, hb_inl]
        have nok : ¬ moOk W x1 x2 x3 := fun w => by
          have := (w.2 r25).1
          rw [le_i] at this
          rw [lt_i] at c2
          omega
        exact wp_t rfl (wp_some ⟨fun _ => rfl, fun w => absurd w nok, fun w => absurd w nok⟩)
      · rw [if_neg c2, show F_Well_moodsOf x1 M = some (iI (mo W x1.toInt.toNat : Int)) by rw [e1, C_moodsOf h a5, ← e1], bs]
        by_cases c3 : x2 < iI (mo W x1.toInt.toNat : Int)
        · rw [if_pos c3, xb_inr]
          have h0 : 0 ≤ x2 := n32.mp c2
          have mok : moOk W x1 x2 x3 := ⟨c1, fun _ => ⟨h0, c3⟩⟩
          have e2 : x2 = iI ((x2.toInt.toNat : Nat) : Int) := by
            rw [le_i, li0] at h0
            exact iI_nat h0
          have m2 : x2.toInt.toNat < mo W x1.toInt.toNat := by
            rw [lt_i, iI_toInt (by omega) (by omega)] at c3
            rw [le_i, li0] at h0
            omega
          by_cases n2 : x3 = 2
          · rw [if_pos n2, show F_Well_actOf x1 x2 M = some (iI (dz W x1.toInt.toNat x2.toInt.toNat : Int)) by rw [e1, e2, C_actOf h a5 m2, ← e1, ← e2], bs, hb_inr]
            exact fin _ (by unfold moV; rw [if_neg n0, if_neg n1, if_pos n2]) mok r3
          · obtain ⟨s, s3, es⟩ := s3_nat r3.1 r3.2 n0 n1 n2
            have ess : (x3 - 3).toInt.toNat = s := by rw [es, iI_toInt (by omega) (by omega)]; omega
            rw [if_neg n2, es, show F_Well_nextOf x1 x2 (iI (s : Int)) M = some (iI (gz W x1.toInt.toNat x2.toInt.toNat s : Int)) by rw [e1, e2, C_nextOf h a5 m2 s3, ← e1, ← e2], bs, hb_inr]
            exact fin _ (by unfold moV; rw [if_neg n0, if_neg n1, if_neg n2, ess]) mok r3
        · rw [if_neg c3, xb_inl, hb_inl]
          have nok : ¬ moOk W x1 x2 x3 := fun w => c3 (w.2 r25).2
          exact wp_t rfl (wp_some ⟨fun _ => rfl, fun w => absurd w nok, fun w => absurd w nok⟩)
    · rw [S_what_no r3, xb_inl, hb_inl]
      have mok : moOk W x1 x2 x3 := ⟨c1, fun w => absurd ⟨by rw [le_i, li0]; have := w.1; rw [le_i, li2] at this; omega, w.2⟩ r3⟩
      exact wp_f (by decide) (wp_t rfl (wp_some ⟨fun w => absurd mok w, fun _ _ => rfl, fun _ w => absurd w r3⟩))
  · rw [h.way_no c1, xb_inl, hb_inl]
    have nok : ¬ moOk W x1 x2 x3 := fun w => c1 w.1
    exact wp_t rfl (wp_some ⟨fun _ => rfl, fun w => absurd w nok, fun w => absurd w nok⟩)
theorem R_moodV {x1 x2 x3 : Int32} {W : Nat → Int32} {M : Mem} (hW : M.1 95 = W) (h : RIW W) : wpO (F_MO_mood x1 x2 x3 M) (fun r => (¬ moOk W x1 x2 x3 → r.2.1 94 0 = 1) ∧ (moOk W x1 x2 x3 → ¬ (0 ≤ x3 ∧ x3 ≤ 5) → r.2.1 94 0 = 2) ∧ (moOk W x1 x2 x3 → (0 ≤ x3 ∧ x3 ≤ 5) → r.2.1 94 0 = 0 ∧ r.1 = moV W x1.toInt.toNat x2.toInt.toNat x3)) := by
  have hN : (mSI M 94 0 0).1 95 = W := hW
  have n0' : (mSI M 94 0 0).1 94 0 = 0 := mI_hit
  unfold F_MO_mood
  generalize mSI M 94 0 0 = N at *
  have jt : ¬ moOk W x1 x2 x3 → wpO (F_MO_mood_j37 x1 x2 x3 true N) (fun r => (¬ moOk W x1 x2 x3 → r.2.1 94 0 = 1) ∧ (moOk W x1 x2 x3 → ¬ (0 ≤ x3 ∧ x3 ≤ 5) → r.2.1 94 0 = 2) ∧ (moOk W x1 x2 x3 → (0 ≤ x3 ∧ x3 ≤ 5) → r.2.1 94 0 = 0 ∧ r.1 = moV W x1.toInt.toNat x2.toInt.toNat x3)) := by
    intro q
    unfold F_MO_mood_j37
    rw [S_throws_t, bs]
    exact wp_t rfl (wp_some ⟨fun _ => mI_hit, fun w => absurd w q, fun w => absurd w q⟩)
  have jf : moOk W x1 x2 x3 → wpO (F_MO_mood_j37 x1 x2 x3 false N) (fun r => (¬ moOk W x1 x2 x3 → r.2.1 94 0 = 1) ∧ (moOk W x1 x2 x3 → ¬ (0 ≤ x3 ∧ x3 ≤ 5) → r.2.1 94 0 = 2) ∧ (moOk W x1 x2 x3 → (0 ≤ x3 ∧ x3 ≤ 5) → r.2.1 94 0 = 0 ∧ r.1 = moV W x1.toInt.toNat x2.toInt.toNat x3)) := by
    intro q
    obtain ⟨e1, a5⟩ := wOk_nat2 q.1
    have r5 := h.ways
    have ok := h.way _ a5
    have k := ok.moK
    have fin : ∀ v : Int32, v = moV W x1.toInt.toNat x2.toInt.toNat x3 → (0 ≤ x3 ∧ x3 ≤ 5) → wpO (some ((v, N)) : Option (Int32 × Mem)) (fun r => (¬ moOk W x1 x2 x3 → r.2.1 94 0 = 1) ∧ (moOk W x1 x2 x3 → ¬ (0 ≤ x3 ∧ x3 ≤ 5) → r.2.1 94 0 = 2) ∧ (moOk W x1 x2 x3 → (0 ≤ x3 ∧ x3 ≤ 5) → r.2.1 94 0 = 0 ∧ r.1 = moV W x1.toInt.toNat x2.toInt.toNat x3)) := fun v hv h2 => wp_some ⟨fun w => absurd q w, fun _ w => absurd h2 w, fun _ _ => ⟨n0', hv⟩⟩
    unfold F_MO_mood_j37
    rw [S_throws_f, bs]
    refine thr_f ?_
    dsimp only
    rw [S_within, bs]
    by_cases r3 : 0 ≤ x3 ∧ x3 ≤ 5
    · rw [decide_eq_true r3]
      refine wp_tt ?_
      unfold F_MO_mood_j59
      rw [S_throws_f, bs]
      refine thr_f ?_
      dsimp only
      subst hN
      by_cases n0 : x3 = 0
      · rw [if_pos n0, e1, N_moods (by omega) ok, bs, ← e1]
        exact fin _ (by unfold moV; rw [if_pos n0]) r3
      rw [if_neg n0]
      by_cases n1 : x3 = 1
      · rw [if_pos n1, show F_MO_isBarred x1 N = some (barW (N.1 95) x1.toInt.toNat) by rw [e1, N_isBarred (by omega) ok, ← e1], bs]
        have ev : moV (N.1 95) x1.toInt.toNat x2.toInt.toNat x3 = b2i (barW (N.1 95) x1.toInt.toNat) := by
          unfold moV
          rw [if_neg n0, if_pos n1]
        cases hb : barW (N.1 95) x1.toInt.toNat with
        | true => exact wp_tt (fin _ (by rw [ev, hb]; rfl) r3)
        | false => exact wp_ff (fin _ (by rw [ev, hb]; rfl) r3)
      rw [if_neg n1]
      have r25 : 2 ≤ x3 ∧ x3 ≤ 5 := by
        refine ⟨?_, r3.2⟩
        have h0 := r3.1
        rw [le_i, li0] at h0
        rw [le_i, li2]
        have m0 : x3.toInt ≠ 0 := fun q => n0 (by rw [← iI_of x3, q]; rfl)
        have m1 : x3.toInt ≠ 1 := fun q => n1 (by rw [← iI_of x3, q]; rfl)
        omega
      obtain ⟨h0, c3⟩ := q.2 r25
      have e2 : x2 = iI ((x2.toInt.toNat : Nat) : Int) := by
        rw [le_i, li0] at h0
        exact iI_nat h0
      have m2 : x2.toInt.toNat < mo (N.1 95) x1.toInt.toNat := by
        rw [lt_i, iI_toInt (by omega) (by omega)] at c3
        rw [le_i, li0] at h0
        omega
      by_cases n2 : x3 = 2
      · rw [if_pos n2, show F_MO_does x1 x2 N = some (iI (dz (N.1 95) x1.toInt.toNat x2.toInt.toNat : Int)) by rw [e1, e2, N_doesW (by omega) ok m2, ← e1, ← e2], bs]
        exact fin _ (by unfold moV; rw [if_neg n0, if_neg n1, if_pos n2]) r3
      · obtain ⟨s, s3, es⟩ := s3_nat r3.1 r3.2 n0 n1 n2
        have ess : (x3 - 3).toInt.toNat = s := by rw [es, iI_toInt (by omega) (by omega)]; omega
        rw [if_neg n2, es, show F_MO_goes x1 x2 (iI (s : Int)) N = some (iI (gz (N.1 95) x1.toInt.toNat x2.toInt.toNat s : Int)) by rw [e1, e2, N_goesW (by omega) ok m2 (by omega), ← e1, ← e2], bs]
        exact fin _ (by unfold moV; rw [if_neg n0, if_neg n1, if_neg n2, ess]) r3
    · rw [decide_eq_false r3]
      refine wp_ff ?_
      unfold F_MO_mood_j59
      rw [S_throws_t, bs]
      exact wp_t rfl (wp_some ⟨fun w => absurd q w, fun _ _ => mI_hit, fun _ w => absurd w r3⟩)
  rw [R_noWay hN h, bs]
  by_cases c1 : wOk W x1
  · rw [decide_eq_true c1]
    refine wp_ff ?_
    obtain ⟨e1, a5⟩ := wOk_nat2 c1
    have r5 := h.ways
    have ok := h.way _ a5
    have k := ok.moK
    rw [S_within, bs]
    by_cases r25 : 2 ≤ x3 ∧ x3 ≤ 5
    · rw [decide_eq_true r25]
      refine wp_tt ?_
      unfold F_MO_noMood
      rw [R_noWay hN h, bs, decide_eq_true c1]
      rw [if_neg (show ¬ (!true) = true by decide)]
      have em : F_MO_moodsOf x1 N = some (iI (mo W x1.toInt.toNat : Int)) := by
        rw [e1]
        subst hN
        rw [N_moods (by omega) ok, ← e1]
      rw [em, bs, S_within, bs]
      have cc : (0 ≤ x2 ∧ x2 ≤ iI (mo W x1.toInt.toNat : Int) - 1) ↔ (0 ≤ x2 ∧ x2 < iI (mo W x1.toInt.toNat : Int)) := by
        rw [le_pred (by rw [le_i, li0, iI_toInt (by omega) (by omega)]; omega)]
      by_cases c2 : 0 ≤ x2 ∧ x2 < iI (mo W x1.toInt.toNat : Int)
      · rw [decide_eq_true (cc.mpr c2)]
        show wpO ((some false : Option Bool).bind _) _
        rw [bs]
        exact wp_ff (jf ⟨c1, fun _ => c2⟩)
      · rw [decide_eq_false (fun w => c2 (cc.mp w))]
        show wpO ((some true : Option Bool).bind _) _
        rw [bs]
        exact wp_tt (jt (fun w => c2 (w.2 r25)))
    · rw [decide_eq_false r25]
      exact wp_ff (jf ⟨c1, fun w => absurd w r25⟩)
  · rw [decide_eq_false c1]
    exact wp_tt (jt (fun w => c1 w.1))
theorem V_mood {x1 x2 x3 : Int32} {M : Mem} (h : RY M) : wpO (F_LAW_mood x1 x2 x3 M) (fun r1 => wpO (F_MO_mood x1 x2 x3 r1.2) (fun r2 => RY r2.2 ∧ r2.2.1 94 0 = r1.1 ∧ (r1.1 = 0 → r2.2.2 121 0 = r2.1.toInt64))) := by
  refine wp2 (B := fun r1 r2 => r2.2.1 94 0 = r1.1 ∧ (r1.1 = 0 → r2.2.2 121 0 = r2.1.toInt64)) (Y_mood h) (fun r1 r2 e1 e2 => ?_) (fun r s p q => ⟨p, q⟩)
  have f1 := wpO_of (T_LAW_mood x1 x2 x3 M) e1
  have f2 := Q_MO_mood x1 x2 x3 r1.2 r2 e2
  have cw := h.cw
  have e95 : r1.2.1 95 = M.1 95 := funext (f1 95 (by omega)).1
  obtain ⟨a1, a2, a3⟩ := wpO_of (C_moodV cw) e1
  obtain ⟨b1, b2, b3⟩ := wpO_of (R_moodV e95 cw.2.1) e2
  have e121 : r2.2.2 121 0 = r1.2.2 121 0 := (f2 121 0 (by omega)).2
  by_cases c : moOk (M.1 95) x1 x2 x3
  · by_cases c2 : 0 ≤ x3 ∧ x3 ≤ 5
    · obtain ⟨p1, p2⟩ := a3 c c2
      obtain ⟨q1, q2⟩ := b3 c c2
      exact ⟨by rw [q1, p1], fun _ => by rw [e121, p2, q2]⟩
    · rw [a2 c c2, b2 c c2]
      exact ⟨rfl, fun w => absurd w (by decide)⟩
  · rw [a1 c, b1 c]
    exact ⟨rfl, fun w => absurd w (by decide)⟩
