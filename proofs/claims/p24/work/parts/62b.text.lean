/-! ===== the class's reader of a text: its things ===== -/
theorem tm1 : (-1 : Int32) = iI (-1) := by decide
theorem tm1l : (-1 : Int64) = lI (-1) := by decide
theorem mSI_same {M : Mem} {k j : Nat} {v : Int32} (h : M.1 k j = v) : mSI M k j v = M := by
  refine Prod.ext (funext fun a => funext fun b => ?_) rfl
  rw [mSI_1]
  by_cases q : a = k ∧ b = j
  · rw [if_pos q, q.1, q.2, h]
  · rw [if_neg q]
/-- the class's tape -/
def CTp (t : Nat → Int) (n : Nat) (M : Mem) : Prop := M.1 27 1 = iI (n : Int) ∧ n ≤ 400 ∧ ∀ j, j < n → M.2 29 j = lI (t j % 256) ∧ -128 ≤ t j ∧ t j ≤ 127
/-- only the class's place in the text differs; and text, named -/
def g27 (M N : Mem) : Prop := (∀ k j, ¬ (k = 27 ∧ 4 ≤ j ∧ j ≤ 7) → N.1 k j = M.1 k j) ∧ N.2 = M.2
def f27 (M N : Mem) : Prop := (∀ k j, k ≠ 31 → k ≠ 33 → ¬ (k = 27 ∧ 4 ≤ j ∧ j ≤ 7) → N.1 k j = M.1 k j) ∧ ∀ k j, k ≠ 31 → k ≠ 33 → N.2 k j = M.2 k j
theorem g27.rf {M : Mem} : g27 M M := ⟨fun _ _ _ => rfl, rfl⟩
theorem g27.tr {M N O : Mem} (h : g27 M N) (h2 : g27 N O) : g27 M O := ⟨fun k j q => (h2.1 k j q).trans (h.1 k j q), h2.2.trans h.2⟩
theorem g27.s {M N : Mem} {j : Nat} {v : Int32} (h : g27 M N) (h4 : 4 ≤ j) (h7 : j ≤ 7) : g27 M (mSI N 27 j v) := h.tr ⟨fun k i q => by rw [mSI_1, if_neg (fun w => q (by omega))], rfl⟩
theorem g27.f {M N : Mem} (h : g27 M N) : f27 M N := ⟨fun k j _ _ q => h.1 k j q, fun k j _ _ => by rw [h.2]⟩
theorem f27.rf {M : Mem} : f27 M M := g27.rf.f
theorem f27.tr {M N O : Mem} (h : f27 M N) (h2 : f27 N O) : f27 M O := ⟨fun k j a b q => (h2.1 k j a b q).trans (h.1 k j a b q), fun k j a b => (h2.2 k j a b).trans (h.2 k j a b)⟩
theorem f27.ct {t : Nat → Int} {n : Nat} {M N : Mem} (h : f27 M N) (c : CTp t n M) : CTp t n N := by
  obtain ⟨c1, c2, c3⟩ := c
  refine ⟨(h.1 27 1 (by decide) (by decide) (by omega)).trans c1, c2, fun j hj => ?_⟩
  rw [h.2 29 j (by decide) (by decide)]
  exact c3 j hj
theorem CTp.s27 {t : Nat → Int} {n j : Nat} {v : Int32} {M : Mem} (h : CTp t n M) (hj : j ≠ 1) : CTp t n (mSI M 27 j v) := ⟨(mI_ix (by omega)).trans h.1, h.2.1, h.2.2⟩
theorem C_byte {t : Nat → Int} {n p : Nat} {M : Mem} (h : CTp t n M) (hp : p < n) : F_Tape_byteAt (iI (p : Int)) M = some (iI (t p % 256)) := by
  obtain ⟨h1, h2, h3⟩ := h
  unfold F_Tape_byteAt
  rw [h1, if_neg (by rw [iI_le (by omega) (by omega) (by omega) (by omega)]; omega), V_Row_small (by omega) (by omega) (by decide), bs]
  show some (M.2 29 p).toInt32 = _
  rw [(h3 p hp).1, lI_i]
theorem C_run {t : Nat → Int} {n j p : Nat} {lo hi : Int} {M : Mem} {body : Mem → Option (Mem ⊕ Mem)} (hb : ∀ (z : Mem) (q : Nat), CTp t n z → z.1 27 j = iI (q : Int) → q ≤ n → body z = if q < n ∧ lo ≤ t q ∧ t q ≤ hi then some (.inl (mSI z 27 j (z.1 27 j + 1))) else some (.inr z)) (hj : j ≠ 1) (h : CTp t n M) (hp : M.1 27 j = iI (p : Int)) (hpn : p ≤ n) : wpO (iter body FUEL M) (fun N => N = mSI M 27 j (iI ((rn t n lo hi p : Nat) : Int))) := by
  refine wp_iterS (P := fun k z => z = mSI M 27 j (iI ((p + k : Nat) : Int)) ∧ p + k ≤ n ∧ rn t n lo hi (p + k) = rn t n lo hi p) (n - p) ?_ _ _ ⟨(mSI_same hp).symm, hpn, rfl⟩ (FUEL_big (by have := h.2.1; omega))
  rintro k z hk ⟨e1, e2, e3⟩
  have hz : CTp t n z := by
    rw [e1]
    exact h.s27 hj
  have hq : z.1 27 j = iI ((p + k : Nat) : Int) := by rw [e1, mI_hit]
  rw [hb z (p + k) hz hq e2]
  by_cases c : p + k < n ∧ lo ≤ t (p + k) ∧ t (p + k) ≤ hi
  · rw [if_pos c]
    refine wp_some ⟨by omega, ?_, by omega, ?_⟩
    · show mSI z 27 j (z.1 27 j + 1) = _
      rw [hq, iI_succ, e1, mSI_tw]
      rfl
    · have := rn_in (lo := lo) (hi := hi) c.1 c.2
      rw [show p + (k + 1) = p + k + 1 by omega, ← this]
      exact e3
  · rw [if_neg c]
    refine wp_some ?_
    show z = _
    have : rn t n lo hi (p + k) = p + k := by
      by_cases q : p + k < n
      · exact rn_no (fun w => c ⟨q, w⟩)
      · exact rn_end (by omega)
    rw [e1, ← e3, this]
theorem C_letter {x : Int} {M : Mem} (h1 : -128 ≤ x) (h2 : x ≤ 127) : F_Tape_isLetter (iI (x % 256)) M = some (decide (97 ≤ x ∧ x ≤ 122)) := by
  have l97 : (97 : Int32) = iI 97 := rfl
  have l122 : (122 : Int32) = iI 122 := rfl
  unfold F_Tape_isLetter
  by_cases c : 97 ≤ x ∧ x ≤ 122
  · rw [if_neg (by rw [l97, iI_lt (by omega) (by omega) (by omega) (by omega)]; omega), if_neg (by rw [l122, iI_lt (by omega) (by omega) (by omega) (by omega)]; omega), decide_eq_true c]
  · rw [decide_eq_false c]
    by_cases c1 : x % 256 < 97
    · rw [if_pos (by rw [l97, iI_lt (by omega) (by omega) (by omega) (by omega)]; omega)]
    · rw [if_neg (by rw [l97, iI_lt (by omega) (by omega) (by omega) (by omega)]; omega), if_pos (by rw [l122, iI_lt (by omega) (by omega) (by omega) (by omega)]; omega)]
theorem C_figure {x : Int} {M : Mem} (h1 : -128 ≤ x) (h2 : x ≤ 127) : F_Tape_isFigure (iI (x % 256)) M = some (decide (48 ≤ x ∧ x ≤ 57)) := by
  have l97 : (48 : Int32) = iI 48 := rfl
  have l122 : (57 : Int32) = iI 57 := rfl
  unfold F_Tape_isFigure
  by_cases c : 48 ≤ x ∧ x ≤ 57
  · rw [if_neg (by rw [l97, iI_lt (by omega) (by omega) (by omega) (by omega)]; omega), if_neg (by rw [l122, iI_lt (by omega) (by omega) (by omega) (by omega)]; omega), decide_eq_true c]
  · rw [decide_eq_false c]
    by_cases c1 : x % 256 < 48
    · rw [if_pos (by rw [l97, iI_lt (by omega) (by omega) (by omega) (by omega)]; omega)]
    · rw [if_neg (by rw [l97, iI_lt (by omega) (by omega) (by omega) (by omega)]; omega), if_pos (by rw [l122, iI_lt (by omega) (by omega) (by omega) (by omega)]; omega)]
/-- the thing that the class has before it: the one behind p -/
def TK (t : Nat → Int) (n p : Nat) (M : Mem) : Prop := M.1 27 5 = iI ((sk t n p : Nat) : Int) ∧ M.1 27 4 = iI (kd t n p) ∧ M.1 27 6 = iI ((af t n p : Nat) : Int) ∧ M.1 27 7 = iI (vl t n p)
theorem k_end {t : Nat → Int} {n p : Nat} (h : n ≤ sk t n p) : kd t n p = 0 ∧ af t n p = sk t n p ∧ vl t n p = -1 := by
  unfold kd af vl
  rw [if_pos h, if_pos h, if_pos h]
  exact ⟨rfl, rfl, rfl⟩
theorem k_let {t : Nat → Int} {n p : Nat} (h : sk t n p < n) (c : 97 ≤ t (sk t n p) ∧ t (sk t n p) ≤ 122) : kd t n p = 1 ∧ af t n p = rn t n 97 122 (sk t n p) ∧ vl t n p = -1 := by
  have h2 : ¬ n ≤ sk t n p := by omega
  unfold kd af vl
  rw [if_neg h2, if_neg h2, if_neg h2, if_pos c, if_pos c, if_pos c]
  exact ⟨rfl, rfl, rfl⟩
theorem k_fig {t : Nat → Int} {n p : Nat} (h : sk t n p < n) (c : 48 ≤ t (sk t n p) ∧ t (sk t n p) ≤ 57) : kd t n p = 2 ∧ af t n p = rn t n 48 57 (sk t n p) ∧ vl t n p = fg t n p := by
  have h2 : ¬ n ≤ sk t n p := by omega
  have h3 : ¬ (97 ≤ t (sk t n p) ∧ t (sk t n p) ≤ 122) := by omega
  unfold kd af vl
  rw [if_neg h2, if_neg h2, if_neg h2, if_neg h3, if_neg h3, if_neg h3, if_pos c, if_pos c, if_pos c]
  refine ⟨rfl, rfl, ?_⟩
  unfold fg
  by_cases c2 : rn t n 48 57 (sk t n p) = sk t n p + 1 ∧ t (sk t n p) ≤ 50
  · rw [if_pos c2, if_pos ⟨h, c.1, c2.2, c2.1⟩]
  · rw [if_neg c2, if_neg (fun w => c2 ⟨w.2.2.2, w.2.2.1⟩)]
theorem k_sgn {t : Nat → Int} {n p : Nat} (h : sk t n p < n) (c : ¬ (97 ≤ t (sk t n p) ∧ t (sk t n p) ≤ 122)) (c2 : ¬ (48 ≤ t (sk t n p) ∧ t (sk t n p) ≤ 57)) : kd t n p = 3 ∧ af t n p = sk t n p + 1 ∧ vl t n p = t (sk t n p) % 256 := by
  have h2 : ¬ n ≤ sk t n p := by omega
  unfold kd af vl
  rw [if_neg h2, if_neg h2, if_neg h2, if_neg c, if_neg c, if_neg c, if_neg c2, if_neg c2, if_neg c2]
  exact ⟨rfl, rfl, rfl⟩
theorem TK.skK {t : Nat → Int} {n p : Nat} {M : Mem} (h : TK t n p M) : TK t n (sk t n p) M := by
  obtain ⟨a, b, c, d⟩ := h
  refine ⟨by rw [sk_sk]; exact a, ?_, ?_, ?_⟩
  · unfold kd at b ⊢
    rw [sk_sk]
    exact b
  · unfold af at c ⊢
    rw [sk_sk]
    exact c
  · unfold vl at d ⊢
    rw [sk_sk]
    exact d
theorem C_step {t : Nat → Int} {n p : Nat} {M : Mem} (h : CTp t n M) (hp : M.1 27 6 = iI (p : Int)) (hpn : p ≤ n) : wpO (F_Tape_step M) (fun N => g27 M N ∧ TK t n p N) := by
  have l32 : (32 : Int32) = iI 32 := rfl
  have l48 : (48 : Int32) = iI 48 := rfl
  unfold F_Tape_step F_Tape_step_l8
  have h0 : CTp t n (mSI M 27 5 (M.1 27 6)) := h.s27 (by decide)
  refine wp_bind (C_run (j := 5) (lo := 32) (hi := 32) (p := p) ?_ (by decide) h0 (by rw [mI_hit, hp]) hpn) (fun N hN => ?_)
  · intro z q hz hq hqn
    have hn := hz.2.1
    unfold F_Tape_step_b8
    rw [hq, hz.1]
    by_cases c : q < n
    · rw [if_neg (by rw [iI_le (by omega) (by omega) (by omega) (by omega)]; omega), C_byte hz c, bs]
      have b := (hz.2.2 q c).2
      by_cases c2 : t q = 32
      · rw [if_pos (by rw [c2]; decide), if_pos ⟨c, by omega, by omega⟩]
      · rw [if_neg (by rw [l32, iI_eq (by omega) (by omega) (by omega) (by omega)]; omega), if_neg (fun w => c2 (by omega))]
    · rw [if_pos (by rw [iI_le (by omega) (by omega) (by omega) (by omega)]; omega), if_neg (fun w => c w.1)]
  have hn4 := h.2.1
  have hN2 : N = mSI M 27 5 (iI ((sk t n p : Nat) : Int)) := hN.trans mSI_tw
  have n5 : N.1 27 5 = iI ((sk t n p : Nat) : Int) := by rw [hN2, mI_hit]
  have gN : g27 M N := by
    rw [hN2]
    exact g27.rf.s (by decide) (by decide)
  have cN : CTp t n N := gN.f.ct h
  have sl : sk t n p ≤ n := sk_le hpn
  clear hN hN2 h0 hp
  unfold F_Tape_step_j45
  have gO : g27 M (mSI (mSI N 27 6 (N.1 27 5)) 27 7 (-1)) := (gN.s (by decide) (by decide)).s (by decide) (by decide)
  have o5 : (mSI (mSI N 27 6 (N.1 27 5)) 27 7 (-1)).1 27 5 = iI ((sk t n p : Nat) : Int) := by rw [mI_ix (by decide), mI_ix (by decide), n5]
  have o6 : (mSI (mSI N 27 6 (N.1 27 5)) 27 7 (-1)).1 27 6 = iI ((sk t n p : Nat) : Int) := by rw [mI_ix (by decide), mI_hit, n5]
  have o7 : (mSI (mSI N 27 6 (N.1 27 5)) 27 7 (-1)).1 27 7 = iI (-1) := by rw [mI_hit, tm1]
  generalize mSI (mSI N 27 6 (N.1 27 5)) 27 7 (-1) = O at *
  have cO : CTp t n O := gO.f.ct h
  clear gN cN n5
  rw [o5, cO.1]
  refine wp_if (fun c => ?_) (fun c => ?_)
  · rw [iI_lt (by omega) (by omega) (by omega) (by omega)] at c
    have c1 : sk t n p < n := by omega
    obtain ⟨-, b1, b2⟩ := cO.2.2 _ c1
    rw [C_byte cO c1, bs, C_letter b1 b2, bs]
    refine wp_if (fun cL => ?_) (fun cL => ?_)
    · have cL2 := of_decide_eq_true cL
      obtain ⟨k1, k2, k3⟩ := k_let c1 cL2
      unfold F_Tape_step_l97
      refine wp_bind (C_run (j := 6) (lo := 97) (hi := 122) (p := sk t n p) ?_ (by decide) (cO.s27 (by decide)) (by rw [mI_ix (by decide), o6]) sl) (fun P hP => wp_some ?_)
      · intro z q hz hq hqn
        have hn := hz.2.1
        unfold F_Tape_step_b97
        rw [hq, hz.1]
        by_cases c : q < n
        · obtain ⟨-, y1, y2⟩ := hz.2.2 q c
          rw [if_neg (by rw [iI_le (by omega) (by omega) (by omega) (by omega)]; omega), C_byte hz c, bs, C_letter y1 y2, bs]
          by_cases c2 : 97 ≤ t q ∧ t q ≤ 122
          · rw [if_pos (decide_eq_true c2), if_pos ⟨c, c2⟩]
          · rw [if_neg (by rw [decide_eq_false c2]; decide), if_neg (fun w => c2 w.2)]
        · rw [if_pos (by rw [iI_le (by omega) (by omega) (by omega) (by omega)]; omega), if_neg (fun w => c w.1)]
      · rw [hP]
        refine ⟨(gO.s (by decide) (by decide)).s (by decide) (by decide), ?_, ?_, ?_, ?_⟩
        · rw [mI_ix (by decide), mI_ix (by decide), o5]
        · rw [mI_ix (by decide), mI_hit, k1]
          rfl
        · rw [mI_hit, k2]
        · rw [mI_ix (by decide), mI_ix (by decide), o7, k3]
    · have cL2 : ¬ (97 ≤ t (sk t n p) ∧ t (sk t n p) ≤ 122) := fun w => cL (decide_eq_true w)
      rw [bs, C_figure b1 b2, bs]
      refine wp_if (fun cF => ?_) (fun cF => ?_)
      · have cF2 := of_decide_eq_true cF
        obtain ⟨k1, k2, k3⟩ := k_fig c1 cF2
        unfold F_Tape_step_l156
        refine wp_bind (C_run (j := 6) (lo := 48) (hi := 57) (p := sk t n p) ?_ (by decide) (cO.s27 (by decide)) (by rw [mI_ix (by decide), o6]) sl) (fun P hP => ?_)
        · intro z q hz hq hqn
          have hn := hz.2.1
          unfold F_Tape_step_b156
          rw [hq, hz.1]
          by_cases c : q < n
          · obtain ⟨-, y1, y2⟩ := hz.2.2 q c
            rw [if_neg (by rw [iI_le (by omega) (by omega) (by omega) (by omega)]; omega), C_byte hz c, bs, C_figure y1 y2, bs]
            by_cases c2 : 48 ≤ t q ∧ t q ≤ 57
            · rw [if_pos (decide_eq_true c2), if_pos ⟨c, c2⟩]
            · rw [if_neg (by rw [decide_eq_false c2]; decide), if_neg (fun w => c2 w.2)]
          · rw [if_pos (by rw [iI_le (by omega) (by omega) (by omega) (by omega)]; omega), if_neg (fun w => c w.1)]
        · have gP : g27 M P := by
            rw [hP]
            exact (gO.s (by decide) (by decide)).s (by decide) (by decide)
          have p5 : P.1 27 5 = iI ((sk t n p : Nat) : Int) := by rw [hP, mI_ix (by decide), mI_ix (by decide), o5]
          have p4 : P.1 27 4 = iI 2 := by
            rw [hP, mI_ix (by decide), mI_hit]
            rfl
          have p6 : P.1 27 6 = iI ((rn t n 48 57 (sk t n p) : Nat) : Int) := by rw [hP, mI_hit]
          have cP : CTp t n P := gP.f.ct h
          have rl : rn t n 48 57 (sk t n p) ≤ n := rn_le sl
          clear hP
          have fin : ∀ v : Int32, v = iI (vl t n p) → g27 M (mSI P 27 7 v) ∧ TK t n p (mSI P 27 7 v) := by
            intro v hv
            refine ⟨gP.s (by decide) (by decide), ?_, ?_, ?_, ?_⟩
            · rw [mI_ix (by decide), p5]
            · rw [mI_ix (by decide), p4, k1]
            · rw [mI_ix (by decide), p6, k2]
            · rw [mI_hit, hv]
          unfold F_Tape_step_j195
          rw [p5, C_byte cP c1, bs, p6, iI_succ, show t (sk t n p) % 256 = t (sk t n p) by omega, l48, iI_sub]
          refine wp_if (fun c6 => ?_) (fun c6 => wp_some (fin _ ?_))
          · rw [iI_eq (by omega) (by omega) (by omega) (by omega)] at c6
            have l3 : (3 : Int32) = iI 3 := rfl
            rw [l3]
            refine wp_if (fun c7 => wp_some (fin _ ?_)) (fun c7 => wp_some (fin _ ?_))
            · rw [iI_le (by omega) (by omega) (by omega) (by omega)] at c7
              rw [tm1, k3]
              unfold fg
              rw [if_neg (by omega)]
            · rw [iI_le (by omega) (by omega) (by omega) (by omega)] at c7
              rw [k3]
              unfold fg
              rw [if_pos (by omega)]
          · rw [iI_eq (by omega) (by omega) (by omega) (by omega)] at c6
            rw [tm1, k3]
            unfold fg
            rw [if_neg (by omega)]
      · have cF2 : ¬ (48 ≤ t (sk t n p) ∧ t (sk t n p) ≤ 57) := fun w => cF (decide_eq_true w)
        obtain ⟨k1, k2, k3⟩ := k_sgn c1 cL2 cF2
        have e3 : (mSI O 27 4 3).1 27 5 = iI ((sk t n p : Nat) : Int) := by rw [mI_ix (by decide), o5]
        rw [e3, C_byte (cO.s27 (by decide)) c1, bs]
        refine wp_some ⟨((gO.s (by decide) (by decide)).s (by decide) (by decide)).s (by decide) (by decide), ?_, ?_, ?_, ?_⟩
        · rw [mI_ix (by decide), mI_ix (by decide), mI_ix (by decide), o5]
        · rw [mI_ix (by decide), mI_ix (by decide), mI_hit, k1]
          rfl
        · rw [mI_hit, mI_ix (by decide), mI_ix (by decide), o6, iI_succ, k2]
        · rw [mI_ix (by decide), mI_hit, k3]
  · rw [iI_lt (by omega) (by omega) (by omega) (by omega)] at c
    obtain ⟨k1, k2, k3⟩ := k_end (t := t) (n := n) (p := p) (by omega)
    refine wp_some ⟨gO.s (by decide) (by decide), ?_, ?_, ?_, ?_⟩
    · rw [mI_ix (by decide), o5]
    · rw [mI_hit, k1]
      rfl
    · rw [mI_ix (by decide), o6, k2]
    · rw [mI_ix (by decide), o7, k3]
theorem C_isWord {t : Nat → Int} {n w p : Nat} {M : Mem} (hw : w < 3) (h : CTp t n M) (k : TK t n p M) (hpn : p ≤ n) : F_Tape_isWord w M = some (wd t n w p) := by
  apply wp_of
  have hn4 := h.2.1
  have wlp := wl_pos hw
  have sl : sk t n p ≤ n := sk_le hpn
  unfold F_Tape_isWord F_String_length
  by_cases cL : sk t n p < n ∧ 97 ≤ t (sk t n p) ∧ t (sk t n p) ≤ 122
  · obtain ⟨k1, k2, k3⟩ := k_let cL.1 cL.2
    have rl : rn t n 97 122 (sk t n p) ≤ n := rn_le sl
    have rg := rn_ge (t := t) (n := n) (lo := 97) (hi := 122) (p := sk t n p)
    refine wp_t (by rw [k.2.1, k1]; rfl) ?_
    rw [bs, k.2.2.1, k.1, k2, iI_sub, nI_iI]
    refine wp_if (fun c => ?_) (fun c => wp_some (decide_eq_false (fun q => c ?_)).symm)
    · have c1 : rn t n 97 122 (sk t n p) - sk t n p = wl w := by
        have c2 : iI (((rn t n 97 122 (sk t n p) : Nat) : Int) - ((sk t n p : Nat) : Int)) = iI ((wl w : Nat) : Int) := c
        rw [iI_eq (by omega) (by omega) (by omega) (by omega)] at c2
        omega
      have all := rn_in2 (t := t) (n := n) (lo := 97) (hi := 122) (wl w) (sk t n p)
      unfold F_Tape_isWord_l28
      refine wp_bind (Ψ := fun q => (q = .inl () ∧ wd t n w p = false) ∨ (q = .inr () ∧ wd t n w p = true)) ?_ (fun q hq => ?_)
      · refine wp_iterS (P := fun k z => z = iI (k : Int) ∧ ∀ i, i < k → iI (t (sk t n p + i)) = strC w i) (wl w) ?_ _ _ ⟨rfl, fun i q => absurd q (Nat.not_lt_zero _)⟩ (FUEL_big (by omega))
        rintro i z hi ⟨rfl, hz⟩
        unfold F_Tape_isWord_b28 F_String_length F_String_charAt
        rw [bs]
        show wpO (if nI (wl w) ≤ iI (i : Int) then _ else _) _
        rw [nI_iI]
        refine wp_if (fun c => wp_some (Or.inr ⟨rfl, decide_eq_true ⟨c1, fun j hj => hz j ?_⟩⟩)) (fun c => ?_)
        · rw [iI_le (by omega) (by omega) (by omega) (by omega)] at c
          omega
        rw [iI_le (by omega) (by omega) (by omega) (by omega)] at c
        have e : (M.1 27 5) + iI (i : Int) = iI ((sk t n p + i : Nat) : Int) := by
          rw [k.1, iI_add]
          rfl
        have ib : inb (iI (i : Int)) (strL.getD w 0) := inb_iI (n := wl w) (by omega) (by omega) (by omega)
        rw [e, C_byte h (by omega), bs, if_pos ib, bs, clN (by omega)]
        have hx := all i (by omega) (by omega)
        rw [show t (sk t n p + i) % 256 = t (sk t n p + i) by omega]
        refine wp_if (fun c2 => wp_some ⟨by omega, iI_succ i, fun j hj => ?_⟩) (fun c2 => wp_some (Or.inl ⟨rfl, decide_eq_false (fun q => c2 (q.2 i (by omega)))⟩))
        by_cases q : j = i
        · rw [q]
          exact c2
        · exact hz j (by omega)
      · rcases hq with ⟨rfl, e⟩ | ⟨rfl, e⟩
        · exact wp_some e.symm
        · exact wp_some e.symm
    · show iI (((rn t n 97 122 (sk t n p) : Nat) : Int) - ((sk t n p : Nat) : Int)) = iI ((wl w : Nat) : Int)
      congr 1
      omega
  · have e : wd t n w p = false := by
      cases hq : wd t n w p with
      | false => rfl
      | true => exact absurd (wd_in hw hq) cL
    rw [e]
    refine wp_f ?_ (wp_some rfl)
    rw [k.2.1]
    unfold kd
    by_cases c1 : n ≤ sk t n p
    · rw [if_pos c1]
      decide
    · rw [if_neg c1, if_neg (fun q => cL ⟨by omega, q⟩)]
      by_cases c2 : 48 ≤ t (sk t n p) ∧ t (sk t n p) ≤ 57
      · rw [if_pos c2]
        decide
      · rw [if_neg c2]
        decide
theorem fg_in {t : Nat → Int} {n p : Nat} (h : fg t n p ≠ -1) : sk t n p < n ∧ 48 ≤ t (sk t n p) ∧ t (sk t n p) ≤ 57 := by
  unfold fg at h
  by_cases c : sk t n p < n ∧ 48 ≤ t (sk t n p) ∧ t (sk t n p) ≤ 50 ∧ rn t n 48 57 (sk t n p) = sk t n p + 1
  · exact ⟨c.1, c.2.1, by omega⟩
  · rw [if_neg c] at h
    exact absurd rfl h
theorem C_isNumber {t : Nat → Int} {n p : Nat} {M : Mem} (k : TK t n p M) : F_Tape_isNumber M = some (decide (fg t n p ≠ -1)) := by
  have hb := fg_b (t := t) (n := n) (p := p)
  unfold F_Tape_isNumber
  by_cases cF : sk t n p < n ∧ 48 ≤ t (sk t n p) ∧ t (sk t n p) ≤ 57
  · obtain ⟨k1, k2, k3⟩ := k_fig cF.1 cF.2
    rw [if_pos (show M.1 27 4 = 2 by rw [k.2.1, k1]; rfl), k.2.2.2, k3, tm1]
    by_cases c : fg t n p = -1
    · rw [if_pos (by rw [c]), decide_eq_false (fun q => q c)]
    · rw [if_neg (by rw [iI_eq (by omega) (by omega) (by omega) (by omega)]; exact c), decide_eq_true c]
  · rw [decide_eq_false (fun q => cF (fg_in q)), if_neg]
    rw [k.2.1]
    unfold kd
    by_cases c1 : n ≤ sk t n p
    · rw [if_pos c1]
      decide
    · rw [if_neg c1]
      by_cases c2 : 97 ≤ t (sk t n p) ∧ t (sk t n p) ≤ 122
      · rw [if_pos c2]
        decide
      · rw [if_neg c2, if_neg (fun q => cF ⟨by omega, q⟩)]
        decide
theorem TK.num {t : Nat → Int} {n p : Nat} {M : Mem} (k : TK t n p M) (h : fg t n p ≠ -1) : M.1 27 7 = iI (fg t n p) ∧ af t n p = rn t n 48 57 (sk t n p) := by
  have c := fg_in h
  obtain ⟨k1, k2, k3⟩ := k_fig c.1 c.2
  exact ⟨by rw [k.2.2.2, k3], k2⟩
theorem af_word {t : Nat → Int} {n w p : Nat} (hw : w < 3) (h : wd t n w p = true) : af t n p = rn t n 97 122 (sk t n p) := by
  have c := wd_in hw h
  exact (k_let c.1 c.2).2.1
theorem C_isSign {t : Nat → Int} {n p : Nat} {c : Int} {M : Mem} (h : CTp t n M) (k : TK t n p M) (hc : c = 44 ∨ c = 59) : F_Tape_isSign (iI c) M = some (sgT t n c p) := by
  unfold F_Tape_isSign
  by_cases c0 : n ≤ sk t n p
  · obtain ⟨k1, -, -⟩ := k_end c0
    rw [if_neg (by rw [k.2.1, k1]; decide)]
    unfold sgT
    rw [decide_eq_false (fun q => by omega)]
  · have c1 : sk t n p < n := by omega
    obtain ⟨-, b1, b2⟩ := h.2.2 _ c1
    by_cases cL : 97 ≤ t (sk t n p) ∧ t (sk t n p) ≤ 122
    · obtain ⟨k1, -, -⟩ := k_let c1 cL
      rw [if_neg (by rw [k.2.1, k1]; decide)]
      unfold sgT
      rw [decide_eq_false (fun q => by omega)]
    · by_cases cF : 48 ≤ t (sk t n p) ∧ t (sk t n p) ≤ 57
      · obtain ⟨k1, -, -⟩ := k_fig c1 cF
        rw [if_neg (by rw [k.2.1, k1]; decide)]
        unfold sgT
        rw [decide_eq_false (fun q => by omega)]
      · obtain ⟨k1, -, k3⟩ := k_sgn c1 cL cF
        rw [if_pos (by rw [k.2.1, k1]; rfl), k.2.2.2, k3]
        unfold sgT
        by_cases q : t (sk t n p) = c
        · rw [if_pos (by rw [q, show c % 256 = c by omega]), decide_eq_true ⟨c1, q⟩]
        · rw [if_neg (by rw [iI_eq (by omega) (by omega) (by omega) (by omega)]; omega), decide_eq_false (fun w => q w.2)]
