/-! ===== the reference's reader of a text: seen, moods, the way ===== -/
def fR (M N : Mem) : Prop := (∀ k j, k ≠ 99 → k ≠ 100 → k ≠ 101 → ¬ (k = 94 ∧ (j = 6 ∨ j = 8 ∨ j = 14)) → N.1 k j = M.1 k j) ∧ N.2 = M.2
theorem fR.rf {M : Mem} : fR M M := ⟨fun _ _ _ _ _ _ => rfl, rfl⟩
theorem fR.tr {M N O : Mem} (h : fR M N) (h2 : fR N O) : fR M O := ⟨fun k j a b c q => (h2.1 k j a b c q).trans (h.1 k j a b c q), h2.2.trans h.2⟩
theorem sm68.f {M N : Mem} (s : sm68 M N) : fR M N := ⟨fun k j _ _ _ q => s.1 k j (fun w => q (by omega)), s.2⟩
theorem fR.rt {t : Nat → Int} {n : Nat} {M N : Mem} (s : fR M N) (h : RTp t n M) : RTp t n N := by
  obtain ⟨h1, h2, h3⟩ := h
  refine ⟨(s.1 94 7 (by decide) (by decide) (by decide) (by omega)).trans h1, h2, fun j hj => ?_⟩
  rw [s.1 97 j (by decide) (by decide) (by decide) (by omega)]
  exact h3 j hj
def TXr (c : Nat) (a : Nat → Int) (g : GoT) (M : Mem) : Prop := ∀ m, m < c → M.1 99 (1 + m) = iI (a m) ∧ ∀ s, s < 3 → M.1 99 (4 + 3 * m + s) = iI (g m s)
def NMr (L : NaT) (M : Mem) : Prop := M.1 94 14 = iI ((L.length : Nat) : Int) ∧ ∀ k x, L[k]? = some x → M.1 100 k = iI x.1 ∧ M.1 101 k = iI ((x.2 : Nat) : Int)
theorem sm68.tx {c : Nat} {a : Nat → Int} {g : GoT} {M N : Mem} (s : sm68 M N) (h : TXr c a g M) : TXr c a g N := fun m hm => ⟨(s.1 99 _ (by omega)).trans (h m hm).1, fun q hq => (s.1 99 _ (by omega)).trans ((h m hm).2 q hq)⟩
theorem sm68.nr {L : NaT} {M N : Mem} (s : sm68 M N) (h : NMr L M) : NMr L N := ⟨(s.1 94 14 (by omega)).trans h.1, fun k x hx => ⟨(s.1 100 k (by omega)).trans (h.2 k x hx).1, (s.1 101 k (by omega)).trans (h.2 k x hx).2⟩⟩
def poSr (m c : Nat) (a : Nat → Int) (g : GoT) (L : NaT) (r : Bool × Mem) : Nat ⊕ (Int × Int × Nat × Nat) → Prop
  | .inl e => r.1 = false ∧ r.2.1 94 8 = iI (e : Int)
  | .inr x => r.1 = true ∧ r.2.1 94 6 = iI (x.2.2.2 : Int) ∧ TXr c a (upG g m x.1 x.2.1) r.2 ∧ NMr (L ++ [(x.2.1, x.2.2.1)]) r.2
theorem R_j49 {t : Nat → Int} {n m c q : Nat} {any : Bool} {x3 : Int32} {seen : Int} {a : Nat → Int} {g : GoT} {L : NaT} {M : Mem} (hT : RTp t n M) (h6 : M.1 94 6 = iI (q : Int)) (hq : q ≤ n) (hm : m < c) (hc : c ≤ 3) (hsn : (any = true ∧ seen = -1) ∨ (any = false ∧ x3 = iI seen ∧ 0 ≤ seen ∧ seen ≤ 2)) (hx : TXr c a g M) (hN : NMr L M) (hl : L.length ≤ q) : wpO (F_MO_readSeen_j49 (iI (m : Int)) any x3 M) (fun r => fR M r.2 ∧ poSr m c a g L r (if wd t n 2 q = false then .inl (sk t n q) else if fg t n (rn t n 97 122 (sk t n q)) = -1 then .inl (sk t n (rn t n 97 122 (sk t n q))) else .inr (seen, fg t n (rn t n 97 122 (sk t n q)), sk t n (rn t n 97 122 (sk t n q)), rn t n 48 57 (sk t n (rn t n 97 122 (sk t n q)))))) := by
  have hn := hT.2.1
  have l3 : (3 : Int32) = iI 3 := rfl
  have l4 : (4 : Int32) = iI 4 := rfl
  have sl : sk t n q ≤ n := sk_le hq
  have rl : rn t n 97 122 (sk t n q) ≤ n := rn_le sl
  have s0 := sk_ge (t := t) (n := n) (p := q)
  have s1 := rn_ge (t := t) (n := n) (lo := 97) (hi := 122) (p := sk t n q)
  have s2 := sk_ge (t := t) (n := n) (p := rn t n 97 122 (sk t n q))
  unfold F_MO_readSeen_j49
  refine wp_bind (R_needs (by decide) hT h6 hq) (fun r4 hr4 => ?_)
  obtain ⟨w4, p4, b4, v4⟩ := hr4
  rw [v4]
  cases cw : wd t n 2 q with
  | false =>
    rw [if_pos rfl]
    exact wp_ff (wp_some ⟨w4.f, rfl, b4⟩)
  | true =>
    rw [if_neg (show ¬ (true = false) by decide)]
    refine wp_tt ?_
    refine wp_bind (R_figure (w4.rt hT) p4 rl) (fun r5 hr5 => ?_)
    obtain ⟨w5, v5, p5, b5⟩ := hr5
    have w6 := w4.tr w5
    have fb := fg_b (t := t) (n := n) (p := rn t n 97 122 (sk t n q))
    have i0 : (0 : Int32) = iI 0 := rfl
    rw [v5]
    by_cases cf : fg t n (rn t n 97 122 (sk t n q)) = -1
    · rw [if_pos cf]
      refine wp_f (by rw [i0, iI_le (by omega) (by omega) (by omega) (by omega)]; omega) (wp_some ⟨w6.f, rfl, b5⟩)
    · rw [if_neg cf]
      refine wp_t (by rw [i0, iI_le (by omega) (by omega) (by omega) (by omega)]; omega) ?_
      have cin := fg_in cf
      have hN5 := w6.nr hN
      have hx5 := w6.tx hx
      generalize fg t n (rn t n 97 122 (sk t n q)) = to at *
      have s3 := sk_ge (t := t) (n := n) (p := rn t n 97 122 (sk t n q))
      generalize r5.2 = N5 at *
      have hl4 : L.length < 400 := by omega
      have ib : inb (N5.1 94 14) 400 := by
        rw [hN5.1]
        exact inb_iI (by omega) (by omega) (by omega)
      refine wp_t ib ?_
      simp only [mI_cell (show (94 : Nat) ≠ 100 by decide), mI_cell (show (94 : Nat) ≠ 101 by decide)]
      refine wp_t ib ?_
      have ecl : (N5.1 94 14).toNatClampNeg = L.length := by rw [hN5.1, clN (by omega)]
      rw [ecl, b5, hN5.1, iI_succ]
      generalize hN6 : mSI (mSI (mSI N5 100 L.length (iI to)) 101 L.length (iI ((sk t n (rn t n 97 122 (sk t n q)) : Nat) : Int))) 94 14 (iI ((L.length + 1 : Nat) : Int)) = N6
      have n6 : N6.1 94 14 = iI ((L.length + 1 : Nat) : Int) := by rw [← hN6, mI_hit]
      have c6 : ∀ k j, k ≠ 100 → k ≠ 101 → ¬ (k = 94 ∧ j = 14) → N6.1 k j = N5.1 k j := fun k j h1 h2 h3 => by rw [← hN6, mSI_1, if_neg h3, mI_cell h2, mI_cell h1]
      have a6 : ∀ j, N6.1 100 j = if j = L.length then iI to else N5.1 100 j := fun j => by
        rw [← hN6, mI_cell (by decide), mI_cell (by decide)]
        by_cases w : j = L.length
        · rw [if_pos w, w, mI_hit]
        · rw [if_neg w, mI_ix w]
      have d6 : ∀ j, N6.1 101 j = if j = L.length then iI ((sk t n (rn t n 97 122 (sk t n q)) : Nat) : Int) else N5.1 101 j := fun j => by
        rw [← hN6, mI_cell (by decide)]
        by_cases w : j = L.length
        · rw [if_pos w, w, mI_hit]
        · rw [if_neg w, mI_ix w, mI_cell (by decide)]
      have z6 : N6.2 = N5.2 := by
        rw [← hN6]
        rfl
      clear hN6
      unfold F_MO_readSeen_l110
      refine wp_bind (Ψ := fun O => (∀ k i, k ≠ 99 → O.1 k i = N6.1 k i) ∧ O.2 = N6.2 ∧ ∀ i, O.1 99 i = if 4 + 3 * m ≤ i ∧ i < 4 + 3 * m + 3 ∧ (seen = -1 ∨ (i : Int) = 4 + 3 * m + seen) then iI to else N6.1 99 i) ?_ (fun O hO => wp_some ?_)
      · refine wp_iterS (P := fun k z => z.1 = iI (k : Int) ∧ (∀ e i, e ≠ 99 → z.2.1 e i = N6.1 e i) ∧ z.2.2 = N6.2 ∧ ∀ i, z.2.1 99 i = if 4 + 3 * m ≤ i ∧ i < 4 + 3 * m + k ∧ (seen = -1 ∨ (i : Int) = 4 + 3 * m + seen) then iI to else N6.1 99 i) 3 ?_ _ _ ⟨rfl, fun _ _ _ => rfl, rfl, fun i => by rw [if_neg (by omega)]⟩ (FUEL_big (by decide))
        rintro k ⟨z1, O⟩ hk ⟨e1, o1, o2, o3⟩
        dsimp only at e1 o1 o2 o3
        subst e1
        unfold F_MO_readSeen_b110
        dsimp only
        refine wp_if (fun c3 => wp_some ⟨o1, o2, fun i => ?_⟩) (fun c3 => ?_)
        · rw [l3, iI_le (by omega) (by omega) (by omega) (by omega)] at c3
          rw [o3, show k = 3 by omega]
        rw [l3, iI_le (by omega) (by omega) (by omega) (by omega)] at c3
        have put : (seen = -1 ∨ (k : Int) = seen) → wpO (F_MO_readSeen_j126 (iI (m : Int)) any x3 (iI to) (iI (k : Int)) O) (sumP (fun s' => k < 3 ∧ s'.1 = iI ((k + 1 : Nat) : Int) ∧ (∀ e i, e ≠ 99 → s'.2.1 e i = N6.1 e i) ∧ s'.2.2 = N6.2 ∧ ∀ i, s'.2.1 99 i = if 4 + 3 * m ≤ i ∧ i < 4 + 3 * m + (k + 1) ∧ (seen = -1 ∨ (i : Int) = 4 + 3 * m + seen) then iI to else N6.1 99 i) (fun O => (∀ k i, k ≠ 99 → O.1 k i = N6.1 k i) ∧ O.2 = N6.2 ∧ ∀ i, O.1 99 i = if 4 + 3 * m ≤ i ∧ i < 4 + 3 * m + 3 ∧ (seen = -1 ∨ (i : Int) = 4 + 3 * m + seen) then iI to else N6.1 99 i)) := fun w => by
          unfold F_MO_readSeen_j126
          have e : (4 + (3 * iI (m : Int))) + iI (k : Int) = iI ((4 + 3 * m + k : Nat) : Int) := by
            rw [l4, l3, iI_mul, iI_add, iI_add]
            rfl
          rw [e]
          refine wp_t (inb_iI (by omega) (by omega) (by omega)) (wp_some ⟨by omega, iI_succ k, fun e i he => (mI_cell he).trans (o1 e i he), o2, fun i => ?_⟩)
          show (mSI O 99 _ _).1 99 i = _
          rw [clN (by omega)]
          by_cases qi : i = 4 + 3 * m + k
          · rw [qi, mI_hit, if_pos ⟨by omega, by omega, by omega⟩]
          · rw [mI_ix qi, o3]
            by_cases cc : 4 + 3 * m ≤ i ∧ i < 4 + 3 * m + k ∧ (seen = -1 ∨ (i : Int) = 4 + 3 * m + seen)
            · rw [if_pos cc, if_pos ⟨cc.1, by omega, cc.2.2⟩]
            · rw [if_neg cc, if_neg (fun w2 => cc ⟨w2.1, by omega, w2.2.2⟩)]
        rcases hsn with ⟨rfl, rfl⟩ | ⟨rfl, rfl, h1, h2⟩
        · exact wp_tt (put (Or.inl rfl))
        · refine wp_ff (wp_if (fun ck => put (Or.inr ?_)) (fun ck => wp_some ⟨by omega, iI_succ k, o1, o2, fun i => ?_⟩))
          · rw [iI_eq (by omega) (by omega) (by omega) (by omega)] at ck
            exact ck
          · rw [iI_eq (by omega) (by omega) (by omega) (by omega)] at ck
            rw [o3]
            by_cases cc : 4 + 3 * m ≤ i ∧ i < 4 + 3 * m + k ∧ (seen = -1 ∨ (i : Int) = 4 + 3 * m + seen)
            · rw [if_pos cc, if_pos ⟨cc.1, by omega, cc.2.2⟩]
            · rw [if_neg cc, if_neg (fun w2 => cc ⟨w2.1, by omega, w2.2.2⟩)]
      · obtain ⟨o1, o2, o3⟩ := hO
        refine ⟨⟨fun k j h1 h2 h4 h5 => ?_, by rw [o2, z6, w6.2]⟩, rfl, ?_, fun m2 hm2 => ⟨?_, fun s hs => ?_⟩, ?_, fun k x hkx => ?_⟩
        · rw [o1 k j h1, c6 k j h2 h4 (fun w => h5 (by omega)), w6.1 k j (fun w => h5 (by omega))]
        · show O.1 94 6 = _
          rw [o1 94 6 (by decide), c6 94 6 (by decide) (by decide) (by decide), p5]
        · show O.1 99 (1 + m2) = _
          rw [o3, if_neg (by omega), c6 99 _ (by decide) (by decide) (by omega)]
          exact (hx5 m2 hm2).1
        · show O.1 99 (4 + 3 * m2 + s) = iI (upG g m seen to m2 s)
          rw [o3]
          unfold upG
          by_cases cc : m2 = m ∧ (seen = -1 ∨ (s : Int) = seen)
          · rw [if_pos cc, if_pos (by omega)]
          · rw [if_neg cc, if_neg (by omega), c6 99 _ (by decide) (by decide) (by omega)]
            exact (hx5 m2 hm2).2 s hs
        · show O.1 94 14 = _
          rw [o1 94 14 (by decide), n6, List.length_append]
          rfl
        · show O.1 100 k = _ ∧ O.1 101 k = _
          rw [o1 100 k (by decide), o1 101 k (by decide), a6, d6]
          rw [List.getElem?_append] at hkx
          by_cases qk : k < L.length
          · rw [if_pos qk] at hkx
            rw [if_neg (by omega), if_neg (by omega)]
            exact hN5.2 k x hkx
          · rw [if_neg qk] at hkx
            have k0 : k - L.length = 0 := by
              cases hd : k - L.length with
              | zero => rfl
              | succ d =>
                rw [hd] at hkx
                exact absurd hkx (by simp)
            rw [k0] at hkx
            rw [if_pos (by omega), if_pos (by omega)]
            cases hkx
            exact ⟨rfl, rfl⟩
theorem R_readSeen {t : Nat → Int} {n m c p : Nat} {a : Nat → Int} {g : GoT} {L : NaT} {M : Mem} (hT : RTp t n M) (h6 : M.1 94 6 = iI (p : Int)) (hp : p ≤ n) (hm : m < c) (hc : c ≤ 3) (hx : TXr c a g M) (hN : NMr L M) (hl : L.length ≤ p) : wpO (F_MO_readSeen (iI (m : Int)) M) (fun r => fR M r.2 ∧ poSr m c a g L r (pSeen t n p)) := by
  have hn := hT.2.1
  have sl : sk t n p ≤ n := sk_le hp
  have rl : rn t n 97 122 (sk t n p) ≤ n := rn_le sl
  have rl5 : rn t n 48 57 (sk t n p) ≤ n := rn_le sl
  have s0 := sk_ge (t := t) (n := n) (p := p)
  have s1 := rn_ge (t := t) (n := n) (lo := 97) (hi := 122) (p := sk t n p)
  have s5 := rn_ge (t := t) (n := n) (lo := 48) (hi := 57) (p := sk t n p)
  have fb := fg_b (t := t) (n := n) (p := p)
  unfold F_MO_readSeen
  refine wp_bind (R_letters hT h6 hp) (fun N hN1 => ?_)
  obtain ⟨w1, p1, b1⟩ := hN1
  have T1 := w1.rt hT
  rw [R_isWord (by decide) T1 p1 b1 hp, bs]
  cases cw : wd t n 1 p with
  | true =>
    refine wp_tt ?_
    unfold F_MO_readSeen_j28
    refine wp_tt ?_
    unfold F_MO_readSeen_j40
    refine wp_tt ?_
    have e : pS1 t n p = rn t n 97 122 (sk t n p) := by
      unfold pS1
      rw [if_pos cw]
    have es : pSeen t n p = if wd t n 2 (pS1 t n p) = false then .inl (sk t n (pS1 t n p)) else if fg t n (pS2 t n p) = -1 then .inl (sk t n (pS2 t n p)) else .inr (-1, fg t n (pS2 t n p), sk t n (pS2 t n p), rn t n 48 57 (sk t n (pS2 t n p))) := by
      unfold pSeen
      rw [if_neg (fun w => by rw [cw] at w; exact absurd w.1 (by decide)), if_pos cw]
    rw [es]
    refine wp_mono (R_j49 (q := pS1 t n p) (seen := -1) T1 (by rw [p1, e]) (by rw [e]; exact rl) hm hc (Or.inl ⟨rfl, rfl⟩) (w1.tx hx) (w1.nr hN) (by rw [e]; omega)) (fun r hr => ⟨w1.f.tr hr.1, hr.2⟩)
  | false =>
    refine wp_ff ?_
    rw [p1, b1]
    refine wp_if (fun cl => ?_) (fun cl => ?_)
    · rw [iI_le (by omega) (by omega) (by omega) (by omega)] at cl
      have e0 : rn t n 97 122 (sk t n p) = sk t n p := by omega
      unfold F_MO_readSeen_j28
      refine wp_ff ?_
      refine wp_bind (R_figure (p := sk t n p) T1 (by rw [p1, e0]) sl) (fun r3 hr3 => ?_)
      obtain ⟨w3, v3, p3, b3⟩ := hr3
      rw [sk_sk] at p3 b3
      rw [fg_sk] at v3
      have w4 := w1.tr w3
      have i0 : (0 : Int32) = iI 0 := rfl
      unfold F_MO_readSeen_j40
      refine wp_ff ?_
      rw [v3, i0]
      refine wp_if (fun cs => wp_some ?_) (fun cs => ?_)
      · rw [iI_lt (by omega) (by omega) (by omega) (by omega)] at cs
        have es : pSeen t n p = .inl (sk t n p) := by
          unfold pSeen
          rw [if_pos ⟨cw, by omega⟩]
        rw [es]
        exact ⟨w4.f, rfl, b3⟩
      · rw [iI_lt (by omega) (by omega) (by omega) (by omega)] at cs
        have e : pS1 t n p = rn t n 48 57 (sk t n p) := by
          unfold pS1
          rw [if_neg (by rw [cw]; decide)]
        have es : pSeen t n p = if wd t n 2 (pS1 t n p) = false then .inl (sk t n (pS1 t n p)) else if fg t n (pS2 t n p) = -1 then .inl (sk t n (pS2 t n p)) else .inr (fg t n p, fg t n (pS2 t n p), sk t n (pS2 t n p), rn t n 48 57 (sk t n (pS2 t n p))) := by
          unfold pSeen
          rw [if_neg (fun w => absurd w.2 (by omega)), if_neg (show ¬ wd t n 1 p = true by rw [cw]; decide)]
        rw [es]
        refine wp_mono (R_j49 (q := pS1 t n p) (seen := fg t n p) (w4.rt hT) (by rw [p3, e]) (by rw [e]; exact rl5) hm hc (Or.inr ⟨rfl, rfl, by omega, by omega⟩) (w4.tx hx) (w4.nr hN) (by rw [e]; omega)) (fun r hr => ⟨w4.f.tr hr.1, hr.2⟩)
    · rw [iI_le (by omega) (by omega) (by omega) (by omega)] at cl
      have cL : 97 ≤ t (sk t n p) ∧ t (sk t n p) ≤ 122 := Decidable.byContradiction fun q => by
        rw [rn_no q] at cl
        omega
      have es : pSeen t n p = .inl (sk t n p) := by
        unfold pSeen
        rw [if_pos ⟨cw, by unfold fg; rw [if_neg (by omega)]⟩]
      rw [es]
      exact wp_some ⟨w1.f, rfl, b1⟩
def poCr (n c : Nat) (a : Nat → Int) (r : Bool × Mem) : Nat ⊕ (Nat × GoT × NaT) → Prop
  | .inl e => r.1 = false ∧ r.2.1 94 8 = iI (e : Int)
  | .inr x => r.1 = true ∧ r.2.1 94 6 = iI (x.1 : Int) ∧ x.1 ≤ n ∧ TXr c a x.2.1 r.2 ∧ NMr x.2.2 r.2 ∧ x.2.2.length ≤ x.1
theorem R_com {t : Nat → Int} {n m c p : Nat} {a : Nat → Int} {g : GoT} {L : NaT} {M : Mem} (hT : RTp t n M) (h6 : M.1 94 6 = iI (p : Int)) (hp : p ≤ n) (hm : m < c) (hc : c ≤ 3) (hx : TXr c a g M) (hN : NMr L M) (hl : L.length ≤ p) : wpO (F_MO_readMood_l71 (iI (m : Int)) M) (fun r => fR M r.2 ∧ poCr n c a r (pCom t n m 400 p g L)) := by
  have hn := hT.2.1
  have l44 : (44 : Int32) = iI 44 := rfl
  unfold F_MO_readMood_l71
  refine wp_bind (Ψ := fun q => match q with | .inl N => fR M N ∧ ∃ e : Nat, pCom t n m 400 p g L = .inl e ∧ N.1 94 8 = iI (e : Int) | .inr N => fR M N ∧ poCr n c a (true, N) (pCom t n m 400 p g L)) ?_ (fun q hq => ?_)
  · refine wp_iterS (P := fun k z => fR M z ∧ ∃ (p' : Nat) (g' : GoT) (L' : NaT), z.1 94 6 = iI (p' : Int) ∧ p' ≤ n ∧ k ≤ p' ∧ TXr c a g' z ∧ NMr L' z ∧ L'.length ≤ p' ∧ pCom t n m (400 - k) p' g' L' = pCom t n m 400 p g L) 400 ?_ _ _ ⟨fR.rf, p, g, L, h6, hp, Nat.zero_le p, hx, hN, hl, rfl⟩ (FUEL_big (by decide))
    rintro k N hk4 ⟨fN, p', g', L', h6', pN, kp, xN, nN, lN, eq⟩
    have TN := fN.rt hT
    have sge := sk_ge (t := t) (n := n) (p := p')
    unfold F_MO_readMood_b71
    rw [l44]
    refine wp_bind (R_sign TN h6' pN (by decide) (by decide)) (fun r4 hr4 => ?_)
    obtain ⟨w4, v4, p4⟩ := hr4
    rw [v4]
    cases cs : sgT t n 44 p' with
    | false =>
      rw [cs, if_neg (by decide)] at p4
      refine wp_ff (wp_some ⟨fN.tr w4.f, ?_⟩)
      have : pCom t n m 400 p g L = .inr (sk t n p', g', L') := by
        rw [← eq]
        cases 400 - k with
        | zero => rfl
        | succ f =>
          show (if sgT t n 44 p' = true then _ else _) = _
          rw [if_neg (by rw [cs]; decide)]
      rw [this]
      exact ⟨rfl, p4, sk_le pN, w4.tx xN, w4.nr nN, by dsimp only; omega⟩
    | true =>
      rw [cs, if_pos rfl] at p4
      have ci := sgT_in cs
      have ek : 400 - k = (400 - (k + 1)) + 1 := by omega
      rw [ek] at eq
      have eq2 : (match pSeen t n (sk t n p' + 1) with | .inl e => .inl e | .inr x => pCom t n m (400 - (k + 1)) x.2.2.2 (upG g' m x.1 x.2.1) (L' ++ [(x.2.1, x.2.2.1)])) = pCom t n m 400 p g L := by
        rw [← eq]
        show _ = (if sgT t n 44 p' = true then _ else _)
        rw [if_pos cs]
        rfl
      refine wp_tt ?_
      refine wp_bind (R_readSeen (w4.rt TN) p4 (by omega) hm hc (w4.tx xN) (w4.nr nN) (by omega)) (fun r5 hr5 => ?_)
      obtain ⟨f5, o5⟩ := hr5
      have f6 := (fN.tr w4.f).tr f5
      obtain ⟨b5, N5⟩ := r5
      cases es : pSeen t n (sk t n p' + 1) with
      | inl e =>
        rw [es] at o5 eq2
        obtain ⟨o1, o2⟩ := o5
        dsimp only at o1 o2 f6 eq2
        subst o1
        exact wp_ff (wp_some ⟨f6, e, eq2.symm, o2⟩)
      | inr x =>
        rw [es] at o5 eq2
        obtain ⟨o1, o2, o3, o4⟩ := o5
        dsimp only at o1 o2 o3 o4 f6 eq2
        subst o1
        obtain ⟨x1, x2, x3, x4, x5, x6⟩ := pSeen_b (by omega) es
        refine wp_tt (wp_some ⟨by omega, f6, x.2.2.2, upG g' m x.1 x.2.1, L' ++ [(x.2.1, x.2.2.1)], o2, x6, by omega, o3, o4, ?_, eq2⟩)
        rw [List.length_append]
        show L'.length + 1 ≤ x.2.2.2
        omega
  · rcases q with q | q
    · obtain ⟨f, e, h1, h2⟩ := hq
      refine wp_some ⟨f, ?_⟩
      rw [h1]
      exact ⟨rfl, h2⟩
    · exact wp_some hq
def poMr (n m : Nat) (r : Bool × Mem) : WayT → Prop
  | .inl e => r.1 = false ∧ r.2.1 94 8 = iI (e : Int)
  | .inr x => r.1 = true ∧ m < 3 ∧ r.2.1 94 6 = iI (x.1 : Int) ∧ x.1 ≤ n ∧ TXr (m + 1) x.2.1 x.2.2.1 r.2 ∧ NMr x.2.2.2 r.2 ∧ x.2.2.2.length ≤ x.1
theorem R_readMood {t : Nat → Int} {n m p : Nat} {a : Nat → Int} {g : GoT} {L : NaT} {M : Mem} (hT : RTp t n M) (h6 : M.1 94 6 = iI (p : Int)) (hp : p ≤ n) (hm : m ≤ 3) (hx : TXr m a g M) (hN : NMr L M) (hl : L.length ≤ p) : wpO (F_MO_readMood (iI (m : Int)) M) (fun r => fR M r.2 ∧ poMr n m r (pMood t n m p a g L)) := by
  have hn := hT.2.1
  have l3 : (3 : Int32) = iI 3 := rfl
  have l4 : (4 : Int32) = iI 4 := rfl
  have l1 : (1 : Int32) = iI 1 := rfl
  have i0 : (0 : Int32) = iI 0 := rfl
  have sl : sk t n p ≤ n := sk_le hp
  have rl : rn t n 97 122 (sk t n p) ≤ n := rn_le sl
  have s0 := sk_ge (t := t) (n := n) (p := p)
  have s1 := rn_ge (t := t) (n := n) (lo := 97) (hi := 122) (p := sk t n p)
  have s2 := sk_ge (t := t) (n := n) (p := rn t n 97 122 (sk t n p))
  have s3 := rn_ge (t := t) (n := n) (lo := 48) (hi := 57) (p := sk t n (rn t n 97 122 (sk t n p)))
  unfold F_MO_readMood
  refine wp_bind (R_letters hT h6 hp) (fun N hN1 => ?_)
  obtain ⟨w1, p1, b1⟩ := hN1
  have T1 := w1.rt hT
  rw [l3]
  refine wp_if (fun c => wp_some ?_) (fun c => ?_)
  · rw [iI_eq (by omega) (by omega) (by omega) (by omega)] at c
    have es : pMood t n m p a g L = .inl (sk t n p) := by
      unfold pMood
      rw [if_pos (Or.inl (by omega))]
    rw [es]
    exact ⟨w1.f, rfl, b1⟩
  rw [iI_eq (by omega) (by omega) (by omega) (by omega)] at c
  rw [R_isWord (by decide) T1 p1 b1 hp, bs]
  cases cw : wd t n 0 p with
  | false =>
    have es : pMood t n m p a g L = .inl (sk t n p) := by
      unfold pMood
      rw [if_pos (Or.inr cw)]
    rw [es]
    exact wp_ff (wp_some ⟨w1.f, rfl, b1⟩)
  | true =>
    refine wp_tt ?_
    refine wp_bind (R_figure T1 p1 rl) (fun r3 hr3 => ?_)
    obtain ⟨w3, v3, p3, b3⟩ := hr3
    have w4 := w1.tr w3
    have nw : ¬ (m = 3 ∨ wd t n 0 p = false) := by
      rw [cw]
      rintro (w | w)
      · omega
      · cases w
    have e1 : 1 + iI (m : Int) = iI ((1 + m : Nat) : Int) := by
      rw [l1, iI_add]
      rfl
    rw [e1]
    have i13 : inb (iI ((1 + m : Nat) : Int)) 13 := inb_iI (by omega) (by omega) (by omega)
    refine wp_t i13 (wp_t i13 ?_)
    simp only [clN (n := 1 + m) (by omega), mI_hit]
    have fb := fg_b (t := t) (n := n) (p := rn t n 97 122 (sk t n p))
    have hx3 := w4.tx hx
    have hN3 := w4.nr hN
    rw [v3, i0]
    have f5 : fR M (mSI r3.2 99 (1 + m) (iI (fg t n (rn t n 97 122 (sk t n p))))) := w4.f.tr ⟨fun k j h1 _ _ _ => mI_cell h1, rfl⟩
    by_cases cf : fg t n (rn t n 97 122 (sk t n p)) = -1
    · refine wp_f (by rw [iI_le (by omega) (by omega) (by omega) (by omega)]; omega) (wp_some ?_)
      have es : pMood t n m p a g L = .inl (sk t n (rn t n 97 122 (sk t n p))) := by
        unfold pMood
        rw [if_neg nw, if_pos cf]
      rw [es]
      exact ⟨f5, rfl, (mI_cell (by decide)).trans b3⟩
    · refine wp_t (by rw [iI_le (by omega) (by omega) (by omega) (by omega)]; omega) ?_
      have x5 : ∀ m2, m2 < m + 1 → (mSI r3.2 99 (1 + m) (iI (fg t n (rn t n 97 122 (sk t n p))))).1 99 (1 + m2) = iI (upA a m (fg t n (rn t n 97 122 (sk t n p))) m2) := fun m2 hm2 => by
        unfold upA
        by_cases q : m2 = m
        · rw [if_pos q, q, mI_hit]
        · rw [if_neg q, mI_ix (by omega)]
          exact (hx3 m2 (by omega)).1
      have y5 : ∀ m2 s, m2 < m → s < 3 → (mSI r3.2 99 (1 + m) (iI (fg t n (rn t n 97 122 (sk t n p))))).1 99 (4 + 3 * m2 + s) = iI (g m2 s) := fun m2 s hm2 hs => by
        rw [mI_ix (by omega)]
        exact (hx3 m2 hm2).2 s hs
      have n5 : NMr L (mSI r3.2 99 (1 + m) (iI (fg t n (rn t n 97 122 (sk t n p))))) := hN3
      have p5 : (mSI r3.2 99 (1 + m) (iI (fg t n (rn t n 97 122 (sk t n p))))).1 94 6 = iI ((rn t n 48 57 (sk t n (rn t n 97 122 (sk t n p))) : Nat) : Int) := (mI_cell (by decide)).trans p3
      generalize mSI r3.2 99 (1 + m) (iI (fg t n (rn t n 97 122 (sk t n p)))) = N5 at *
      unfold F_MO_readMood_l47
      refine wp_bind (Ψ := fun O => fR M O ∧ O.1 94 6 = iI ((rn t n 48 57 (sk t n (rn t n 97 122 (sk t n p))) : Nat) : Int) ∧ TXr (m + 1) (upA a m (fg t n (rn t n 97 122 (sk t n p)))) (upG g m (-1) (m : Int)) O ∧ NMr L O) ?_ (fun O hO => ?_)
      · refine wp_iterS (P := fun k z => z.1 = iI (k : Int) ∧ (∀ e i, e ≠ 99 → z.2.1 e i = N5.1 e i) ∧ z.2.2 = N5.2 ∧ (∀ i, (i < 4 + 3 * m ∨ 4 + 3 * m + 3 ≤ i) → z.2.1 99 i = N5.1 99 i) ∧ ∀ s2, s2 < k → z.2.1 99 (4 + 3 * m + s2) = iI (m : Int)) 3 ?_ _ _ ⟨rfl, fun _ _ _ => rfl, rfl, fun _ _ => rfl, fun s2 q => absurd q (Nat.not_lt_zero _)⟩ (FUEL_big (by decide))
        rintro k ⟨z1, O⟩ hk ⟨e1, o1, o2, o3, o4⟩
        dsimp only at e1 o1 o2 o3 o4
        subst e1
        unfold F_MO_readMood_b47
        dsimp only
        refine wp_if (fun cc => wp_some ?_) (fun cc => ?_)
        · rw [l3, iI_le (by omega) (by omega) (by omega) (by omega)] at cc
          refine ⟨f5.tr ⟨fun e i h1 _ _ _ => o1 e i h1, o2⟩, (o1 94 6 (by decide)).trans p5, fun m2 hm2 => ⟨?_, fun s hs => ?_⟩, (o1 94 14 (by decide)).trans n5.1, fun k2 x hkx => ⟨(o1 100 k2 (by decide)).trans (n5.2 k2 x hkx).1, (o1 101 k2 (by decide)).trans (n5.2 k2 x hkx).2⟩⟩
          · rw [o3 _ (by omega)]
            exact x5 m2 hm2
          · show O.1 99 (4 + 3 * m2 + s) = iI (upG g m (-1) (m : Int) m2 s)
            unfold upG
            by_cases q : m2 = m
            · rw [if_pos ⟨q, Or.inl rfl⟩, q]
              exact o4 s (by omega)
            · rw [if_neg (fun w => q w.1), o3 _ (by omega)]
              exact y5 m2 s (by omega) hs
        · rw [l3, iI_le (by omega) (by omega) (by omega) (by omega)] at cc
          have e4 : (4 + (iI 3 * iI (m : Int))) + iI (k : Int) = iI ((4 + 3 * m + k : Nat) : Int) := by
            rw [l4, iI_mul, iI_add, iI_add]
            rfl
          rw [l3, e4]
          refine wp_t (inb_iI (by omega) (by omega) (by omega)) (wp_some ⟨by omega, iI_succ k, fun e i he => (mI_cell he).trans (o1 e i he), o2, fun i hi => ?_, fun s2 hs2 => ?_⟩)
          · show (mSI O 99 _ _).1 99 i = _
            rw [clN (by omega), mI_ix (by omega)]
            exact o3 i hi
          · show (mSI O 99 _ _).1 99 (4 + 3 * m + s2) = _
            rw [clN (by omega)]
            by_cases q : s2 = k
            · rw [q, mI_hit]
            · rw [mI_ix (by omega)]
              exact o4 s2 (by omega)
      · obtain ⟨f6, p6, x6, n6⟩ := hO
        have rl2 : rn t n 48 57 (sk t n (rn t n 97 122 (sk t n p))) ≤ n := rn_le (sk_le rl)
        refine wp_mono (R_com (f6.rt hT) p6 rl2 (m := m) (c := m + 1) (by omega) (by omega) x6 n6 (by omega)) (fun r hr => ?_)
        obtain ⟨f7, o7⟩ := hr
        refine ⟨f6.tr f7, ?_⟩
        unfold pMood
        rw [if_neg nw, if_neg cf]
        cases ec : pCom t n m 400 (rn t n 48 57 (sk t n (rn t n 97 122 (sk t n p)))) (upG g m (-1) m) L with
        | inl e =>
          rw [ec] at o7
          exact o7
        | inr x =>
          rw [ec] at o7
          exact ⟨o7.1, by omega, o7.2.1, o7.2.2.1, o7.2.2.2.1, o7.2.2.2.2.1, o7.2.2.2.2.2⟩
def woR (r : Bool × Mem) : WayT → Prop
  | .inl e => r.1 = false ∧ r.2.1 94 8 = iI (e : Int)
  | .inr x => (stray x.2.2.2 x.1 = -1 → r.1 = true ∧ r.2.1 99 0 = iI (x.1 : Int) ∧ TXr x.1 x.2.1 x.2.2.1 r.2) ∧ (stray x.2.2.2 x.1 ≠ -1 → r.1 = false ∧ r.2.1 94 8 = iI (stray x.2.2.2 x.1))
theorem R_readWay {t : Nat → Int} {n : Nat} {M : Mem} (hT : RTp t n M) (h6 : M.1 94 6 = 0) (hb : ∀ x, pWay t n = .inr x → NMb x.2.2.2 n) : wpO (F_MO_readWay M) (fun r => woR r (pWay t n)) := by
  have hn := hT.2.1
  have l59 : (59 : Int32) = iI 59 := rfl
  unfold F_MO_readWay
  have f0 : fR M (mSI M 94 14 0) := ⟨fun k j _ _ _ q => by rw [mSI_1, if_neg (fun w => q (by omega))], rfl⟩
  have p0 : (mSI M 94 14 0).1 94 6 = iI ((0 : Nat) : Int) := (mI_ix (by decide)).trans h6
  have n0 : NMr [] (mSI M 94 14 0) := ⟨mI_hit, fun k x hx => by cases hx⟩
  generalize mSI M 94 14 0 = N0 at *
  unfold F_MO_readWay_l9
  refine wp_bind (Ψ := fun q => match q with | .inl N => ∃ e : Nat, pWay t n = .inl e ∧ N.1 94 8 = iI (e : Int) | .inr (.inl N) => ∃ e : Nat, pWay t n = .inl e ∧ N.1 94 8 = iI (e : Int) | .inr (.inr r) => ∃ (k : Nat) (a : Nat → Int) (g : GoT) (L : NaT), (1 ≤ k ∧ k ≤ 3) ∧ r.1 = iI (k : Int) ∧ TXr k a g r.2 ∧ NMr L r.2 ∧ L.length ≤ 400 ∧ pWay t n = .inr (k, a, g, L)) ?_ (fun q hq => ?_)
  · refine wp_iterS (P := fun k z => z.1 = iI (k : Int) ∧ k ≤ 3 ∧ fR M z.2.2 ∧ ((z.2.1 = true ∧ ∃ (p : Nat) (a : Nat → Int) (g : GoT) (L : NaT), z.2.2.1 94 6 = iI (p : Int) ∧ p ≤ n ∧ TXr k a g z.2.2 ∧ NMr L z.2.2 ∧ L.length ≤ p ∧ pMs t n (4 - k) k p a g L = pWay t n) ∨ (z.2.1 = false ∧ 1 ≤ k ∧ ∃ (a : Nat → Int) (g : GoT) (L : NaT), TXr k a g z.2.2 ∧ NMr L z.2.2 ∧ L.length ≤ 400 ∧ pWay t n = .inr (k, a, g, L)))) 4 ?_ _ _ ⟨rfl, by decide, f0, Or.inl ⟨rfl, 0, _, _, [], p0, Nat.zero_le n, fun m q => absurd q (Nat.not_lt_zero _), n0, Nat.zero_le _, rfl⟩⟩ (FUEL_big (by decide))
    rintro k ⟨z1, z2, N⟩ hk ⟨e1, k3, fN, hz⟩
    dsimp only at e1 fN hz
    subst e1
    have TN := fN.rt hT
    unfold F_MO_readWay_b9
    dsimp only
    rcases hz with ⟨rfl, p, a, g, L, h6', pN, xN, nN, lN, eq⟩ | ⟨rfl, k1, a, g, L, xN, nN, lN, eq⟩
    · refine wp_tt ?_
      rw [show 4 - k = (4 - (k + 1)) + 1 by omega, pMs_s] at eq
      refine wp_bind (R_readMood TN h6' pN k3 xN nN lN) (fun r1 hr1 => ?_)
      obtain ⟨f1, o1⟩ := hr1
      have f2 := fN.tr f1
      obtain ⟨b1, N1⟩ := r1
      cases es : pMood t n k p a g L with
      | inl e =>
        rw [es] at o1 eq
        obtain ⟨o1, o2⟩ := o1
        dsimp only at o1 o2 eq
        subst o1
        exact wp_ff (wp_some ⟨e, eq.symm, o2⟩)
      | inr x =>
        rw [es] at o1 eq
        obtain ⟨o1, k2, o2, o3, o4, o5, o6⟩ := o1
        dsimp only at o1 o2 o3 o4 o5 o6 f2 eq
        subst o1
        refine wp_tt ?_
        have T1 := f2.rt hT
        refine wp_bind (R_blanks T1 o2 o3) (fun N2 hN2 => ?_)
        obtain ⟨w2, p2, b2⟩ := hN2
        have T2 := w2.rt T1
        have f3 := f2.tr w2.f
        have sl : sk t n x.1 ≤ n := sk_le o3
        have sge := sk_ge (t := t) (n := n) (p := x.1)
        have x2 := w2.tx o4
        have n2 := w2.nr o5
        rw [T2.1, p2, iI_succ]
        refine wp_if (fun c => ?_) (fun c => ?_)
        · rw [iI_le (by omega) (by omega) (by omega) (by omega)] at c
          rw [if_pos (by omega)] at eq
          unfold F_MO_readWay_j46
          refine wp_ff ?_
          unfold F_MO_readWay_j64
          exact wp_ff (wp_some ⟨by omega, rfl, by omega, f3.tr sm68.rf.s6.f, Or.inr ⟨rfl, by omega, x.2.1, x.2.2.1, x.2.2.2, sm68.rf.s6.tx x2, sm68.rf.s6.nr n2, by omega, eq.symm⟩⟩)
        · rw [iI_le (by omega) (by omega) (by omega) (by omega)] at c
          rw [if_neg (by omega)] at eq
          unfold F_MO_readWay_j46
          refine wp_tt ?_
          rw [l59, R_isAt T2 p2 sl (by decide) (by decide) (by decide) (by decide), bs]
          by_cases c2 : t (sk t n x.1) = 59
          · rw [decide_eq_true ⟨by omega, by omega, by omega⟩]
            rw [if_pos c2] at eq
            refine wp_tt ?_
            unfold F_MO_readWay_j64
            refine wp_tt (wp_some ⟨by omega, rfl, by omega, f3.tr sm68.rf.s6.f, Or.inl ⟨rfl, sk t n x.1 + 1, x.2.1, x.2.2.1, x.2.2.2, ?_, by omega, sm68.rf.s6.tx x2, sm68.rf.s6.nr n2, by omega, eq⟩⟩)
            show (mSI N2 94 6 (N2.1 94 6 + 1)).1 94 6 = _
            rw [mI_hit, p2, iI_succ]
          · rw [decide_eq_false (by omega)]
            rw [if_neg c2] at eq
            exact wp_ff (wp_some ⟨sk t n x.1, eq.symm, b2⟩)
    · exact wp_ff (wp_some ⟨k, a, g, L, ⟨k1, k3⟩, rfl, xN, nN, lN, eq⟩)
  · rcases q with N | N | ⟨q1, N⟩
    · obtain ⟨e, h1, h2⟩ := hq
      refine wp_some ?_
      rw [h1]
      exact ⟨rfl, h2⟩
    · obtain ⟨e, h1, h2⟩ := hq
      refine wp_some ?_
      rw [h1]
      exact ⟨rfl, h2⟩
    · obtain ⟨k, a, g, L, ⟨k1, k3⟩, e1, xN, nN, lN, eq⟩ := hq
      dsimp only at e1 xN nN
      subst e1
      rw [eq]
      show wpO (F_MO_readWay_l87 (iI (k : Int)) 0 N) _
      unfold F_MO_readWay_l87
      refine wp_bind (Ψ := fun q => match q with | .inl r => ∃ j : Nat, r = iI (j : Int) ∧ j < 400 ∧ stray L k ≠ -1 ∧ N.1 101 j = iI (stray L k) | .inr _ => stray L k = -1) ?_ (fun q hq => ?_)
      · refine wp_iterS (P := fun j z => z = iI (j : Int) ∧ j ≤ L.length ∧ stray (L.drop j) k = stray L k) 400 ?_ _ _ ⟨rfl, Nat.zero_le _, rfl⟩ (FUEL_big (by decide))
        rintro j z hj ⟨rfl, jl, ej⟩
        unfold F_MO_readWay_b87
        rw [nN.1]
        refine wp_if (fun c => wp_some ?_) (fun c => ?_)
        · rw [iI_le (by omega) (by omega) (by omega) (by omega)] at c
          show stray L k = -1
          rw [← ej, List.drop_of_length_le (by omega)]
          rfl
        rw [iI_le (by omega) (by omega) (by omega) (by omega)] at c
        have jlt : j < L.length := by omega
        have ex : L[j]? = some L[j] := List.getElem?_eq_getElem jlt
        obtain ⟨v1, v2⟩ := nN.2 j L[j] ex
        rw [List.drop_eq_getElem_cons jlt, stray_cons] at ej
        refine wp_t (inb_iI (by omega) (by omega) (by omega)) ?_
        rw [clN (by omega), v1]
        have lb := (hb _ eq).2 L[j] (List.getElem_mem jlt)
        refine wp_if (fun c2 => wp_some ⟨by omega, iI_succ j, jlt, ?_⟩) (fun c2 => wp_some ⟨j, rfl, by omega, ?_⟩)
        · rw [iI_lt (by omega) (by omega) (by omega) (by omega)] at c2
          rw [if_neg (by omega)] at ej
          exact ej
        · rw [iI_lt (by omega) (by omega) (by omega) (by omega)] at c2
          rw [if_pos (by omega)] at ej
          rw [← ej]
          exact ⟨by omega, v2⟩
      · rcases q with r | r
        · obtain ⟨j, rfl, j4, ne, v⟩ := hq
          show wpO (F_MO_readWay_j105 (iI (j : Int)) N) _
          unfold F_MO_readWay_j105
          refine wp_t (inb_iI (by omega) (by omega) (by omega)) (wp_some ⟨fun w => absurd w ne, fun _ => ⟨rfl, ?_⟩⟩)
          show (mSI N 94 8 _).1 94 8 = _
          rw [mI_hit, clN (by omega), v]
        · show wpO (F_MO_readWay_j123 (iI (k : Int)) N) _
          unfold F_MO_readWay_j123
          refine wp_t (by decide) ?_
          rw [tn0]
          refine (wp_some ⟨fun _ => ⟨rfl, mI_hit, fun m hm => ⟨?_, fun s hs => ?_⟩⟩, fun w => absurd hq w⟩)
          · show (mSI N 99 0 _).1 99 (1 + m) = _
            rw [mI_ix (by omega)]
            exact (xN m hm).1
          · show (mSI N 99 0 _).1 99 (4 + 3 * m + s) = _
            rw [mI_ix (by omega)]
            exact (xN m hm).2 s hs
