/-! ===== the reference's reader of a text: its things ===== -/
/-- the reference's tape -/
def RTp (t : Nat → Int) (n : Nat) (M : Mem) : Prop := M.1 94 7 = iI (n : Int) ∧ n ≤ 400 ∧ ∀ j, j < n → M.1 97 j = iI (t j) ∧ -128 ≤ t j ∧ t j ≤ 127
theorem sm68.rt {t : Nat → Int} {n : Nat} {M N : Mem} (s : sm68 M N) (h : RTp t n M) : RTp t n N := by
  obtain ⟨h1, h2, h3⟩ := h
  refine ⟨(s.1 94 7 (by omega)).trans h1, h2, fun j hj => ?_⟩
  rw [s.1 97 j (by omega)]
  exact h3 j hj
theorem R_isAt {t : Nat → Int} {n p : Nat} {lo hi : Int} {M : Mem} (h : RTp t n M) (hp : M.1 94 6 = iI (p : Int)) (hpn : p ≤ n) (hlo : 0 ≤ lo) (hlo2 : lo ≤ 127) (hhi : 0 ≤ hi) (hhi2 : hi ≤ 127) : F_MO_isAt (iI lo) (iI hi) M = some (decide (p < n ∧ lo ≤ t p ∧ t p ≤ hi)) := by
  obtain ⟨h1, h2, h3⟩ := h
  unfold F_MO_isAt
  rw [h1, hp]
  by_cases c : p < n
  · obtain ⟨b, b1, b2⟩ := h3 p c
    have ib : inb (iI (p : Int)) 400 := inb_iI (by omega) (by omega) (by omega)
    rw [if_neg (by rw [iI_le (by omega) (by omega) (by omega) (by omega)]; omega), if_pos ib, if_pos ib, clN (by omega), b]
    by_cases c1 : t p < lo
    · rw [if_pos (by rw [iI_lt (by omega) (by omega) (by omega) (by omega)]; exact c1), decide_eq_false (by omega)]
    · rw [if_neg (by rw [iI_lt (by omega) (by omega) (by omega) (by omega)]; exact c1)]
      by_cases c2 : hi < t p
      · rw [if_pos (by rw [iI_lt (by omega) (by omega) (by omega) (by omega)]; exact c2), decide_eq_false (by omega)]
      · rw [if_neg (by rw [iI_lt (by omega) (by omega) (by omega) (by omega)]; exact c2), decide_eq_true ⟨c, by omega, by omega⟩]
  · rw [if_pos (by rw [iI_le (by omega) (by omega) (by omega) (by omega)]; omega), decide_eq_false (by omega)]
theorem R_run {t : Nat → Int} {n p : Nat} {lo hi : Int} {M : Mem} {body : Mem → Option (Mem ⊕ Mem)} (hb : ∀ z, body z = (F_MO_isAt (iI lo) (iI hi) z).bind fun r1 => if r1 = true then some (.inl (mSI z 94 6 ((z.1 94 6) + 1))) else some (.inr z)) (h : RTp t n M) (hp : M.1 94 6 = iI (p : Int)) (hpn : p ≤ n) (hlo : 0 ≤ lo) (hlo2 : lo ≤ 127) (hhi : 0 ≤ hi) (hhi2 : hi ≤ 127) : wpO (iter body FUEL M) (fun N => N = mSI M 94 6 (iI ((rn t n lo hi p : Nat) : Int))) := by
  refine wp_iterS (P := fun k z => z = mSI M 94 6 (iI ((p + k : Nat) : Int)) ∧ p + k ≤ n ∧ rn t n lo hi (p + k) = rn t n lo hi p) (n - p) ?_ _ _ ⟨(mSI_same hp).symm, hpn, rfl⟩ (FUEL_big (by have := h.2.1; omega))
  rintro k z hk ⟨e1, e2, e3⟩
  have hz : RTp t n z := by
    rw [e1]
    exact sm68.rf.s6.rt h
  have hq : z.1 94 6 = iI ((p + k : Nat) : Int) := by rw [e1, mI_hit]
  rw [hb z, R_isAt hz hq e2 hlo hlo2 hhi hhi2, bs]
  by_cases c : p + k < n ∧ lo ≤ t (p + k) ∧ t (p + k) ≤ hi
  · rw [decide_eq_true c]
    refine wp_tt (wp_some ⟨by omega, ?_, by omega, ?_⟩)
    · show mSI z 94 6 (z.1 94 6 + 1) = _
      rw [hq, iI_succ, e1, mSI_tw]
      rfl
    · have := rn_in (lo := lo) (hi := hi) c.1 c.2
      rw [show p + (k + 1) = p + k + 1 by omega, ← this]
      exact e3
  · rw [decide_eq_false c]
    refine wp_ff (wp_some ?_)
    show z = _
    have : rn t n lo hi (p + k) = p + k := by
      by_cases q : p + k < n
      · exact rn_no (fun w => c ⟨q, w⟩)
      · exact rn_end (by omega)
    rw [e1, ← e3, this]
theorem R_blanks {t : Nat → Int} {n p : Nat} {M : Mem} (h : RTp t n M) (hp : M.1 94 6 = iI (p : Int)) (hpn : p ≤ n) : wpO (F_MO_blanks M) (fun N => sm68 M N ∧ N.1 94 6 = iI ((sk t n p : Nat) : Int) ∧ N.1 94 8 = iI ((sk t n p : Nat) : Int)) := by
  unfold F_MO_blanks F_MO_blanks_l0
  refine wp_bind (R_run (lo := 32) (hi := 32) (fun z => rfl) h hp hpn (by decide) (by decide) (by decide) (by decide)) (fun N hN => wp_some ?_)
  have n6 : N.1 94 6 = iI ((sk t n p : Nat) : Int) := by rw [hN, mI_hit]; rfl
  refine ⟨?_, ?_, ?_⟩
  · rw [hN]
    exact sm68.rf.s6.s8
  · rw [mI_ix (by decide), n6]
  · rw [mI_hit, n6]
theorem R_letters {t : Nat → Int} {n p : Nat} {M : Mem} (h : RTp t n M) (hp : M.1 94 6 = iI (p : Int)) (hpn : p ≤ n) : wpO (F_MO_letters M) (fun N => sm68 M N ∧ N.1 94 6 = iI ((rn t n 97 122 (sk t n p) : Nat) : Int) ∧ N.1 94 8 = iI ((sk t n p : Nat) : Int)) := by
  unfold F_MO_letters
  refine wp_bind (R_blanks h hp hpn) (fun N hN => ?_)
  obtain ⟨s, n6, n8⟩ := hN
  unfold F_MO_letters_l4
  refine wp_bind (R_run (lo := 97) (hi := 122) (fun z => rfl) (s.rt h) n6 (sk_le hpn) (by decide) (by decide) (by decide) (by decide)) (fun O hO => wp_some ?_)
  refine ⟨?_, ?_, ?_⟩
  · rw [hO]
    exact s.s6
  · rw [hO, mI_hit]
  · rw [hO, mI_ix (by decide), n8]
theorem R_isWord {t : Nat → Int} {n w p : Nat} {M : Mem} (hw : w < 3) (h : RTp t n M) (h6 : M.1 94 6 = iI ((rn t n 97 122 (sk t n p) : Nat) : Int)) (h8 : M.1 94 8 = iI ((sk t n p : Nat) : Int)) (hpn : p ≤ n) : F_MO_isWord w M = some (wd t n w p) := by
  have hn := h.2.1
  have sl : sk t n p ≤ n := sk_le hpn
  have rl : rn t n 97 122 (sk t n p) ≤ n := rn_le sl
  have rg := rn_ge (t := t) (n := n) (lo := 97) (hi := 122) (p := sk t n p)
  have wlp := wl_pos hw
  have e : (M.1 94 6) - (M.1 94 8) = iI (((rn t n 97 122 (sk t n p) - sk t n p : Nat)) : Int) := by
    rw [h6, h8, iI_sub]
    congr 1
    omega
  apply wp_of
  unfold F_MO_isWord F_String_length
  rw [bs, e]
  show wpO (if iI (((rn t n 97 122 (sk t n p) - sk t n p : Nat)) : Int) = nI (wl w) then _ else _) _
  rw [nI_iI]
  refine wp_if (fun c => ?_) (fun c => ?_)
  · rw [iI_eq (by omega) (by omega) (by omega) (by omega)] at c
    have c1 : rn t n 97 122 (sk t n p) - sk t n p = wl w := by omega
    unfold F_MO_isWord_l24
    refine wp_bind (Ψ := fun r => r = wd t n w p) ?_ (fun r hr => wp_some hr)
    refine wp_iterS (P := fun k z => z.2 = iI (k : Int) ∧ (z.1 = true → ∀ i, i < k → iI (t (sk t n p + i)) = strC w i) ∧ (z.1 = false → wd t n w p = false)) (wl w) ?_ _ _ ⟨rfl, fun _ i q => absurd q (Nat.not_lt_zero _), (fun q => nomatch q)⟩ (FUEL_big (by omega))
    rintro i ⟨z1, z2⟩ hi ⟨e2, ht, hf⟩
    dsimp only at e2 ht hf
    subst e2
    unfold F_MO_isWord_b24 F_String_length F_String_charAt
    dsimp only
    cases z1 with
    | false => exact wp_ff (wp_some (hf rfl).symm)
    | true =>
      refine wp_tt ?_
      rw [bs]
      show wpO (if nI (wl w) ≤ iI (i : Int) then _ else _) _
      rw [nI_iI]
      refine wp_if (fun c2 => wp_some ?_) (fun c2 => ?_)
      · rw [iI_le (by omega) (by omega) (by omega) (by omega)] at c2
        exact (decide_eq_true ⟨c1, fun j hj => ht rfl j (by omega)⟩).symm
      rw [iI_le (by omega) (by omega) (by omega) (by omega)] at c2
      have e3 : (M.1 94 8) + iI (i : Int) = iI ((sk t n p + i : Nat) : Int) := by
        rw [h8, iI_add]
        rfl
      rw [e3]
      refine wp_t (inb_iI (by omega) (by omega) (by omega)) ?_
      have ib : inb (iI (i : Int)) (strL.getD w 0) := inb_iI (n := wl w) (by omega) (by omega) (by omega)
      rw [if_pos ib, bs, clN (by omega), clN (by omega), (h.2.2 _ (by omega)).1]
      refine wp_if (fun c3 => wp_some ⟨by omega, iI_succ i, fun _ j hj => ?_, (fun q => nomatch q)⟩) (fun c3 => wp_some ⟨by omega, iI_succ i, (fun q => nomatch q), fun _ => decide_eq_false (fun q => c3 (q.2 i (by omega)))⟩)
      by_cases q : j = i
      · rw [q]
        exact c3
      · exact ht rfl j (by omega)
  · unfold F_MO_isWord_l24
    refine wp_bind (Ψ := fun r => r = wd t n w p) ?_ (fun r hr => wp_some hr)
    have hf : wd t n w p = false := decide_eq_false (fun q => c (by rw [q.1]))
    rw [FUEL_5]
    refine ⟨false, it_r (n := 1180591620717411303419 + 4) ?_, hf.symm⟩
    unfold F_MO_isWord_b24
    exact if_neg (by decide)
theorem R_needs {t : Nat → Int} {n w p : Nat} {M : Mem} (hw : w < 3) (h : RTp t n M) (hp : M.1 94 6 = iI (p : Int)) (hpn : p ≤ n) : wpO (F_MO_needs w M) (fun r => sm68 M r.2 ∧ r.2.1 94 6 = iI ((rn t n 97 122 (sk t n p) : Nat) : Int) ∧ r.2.1 94 8 = iI ((sk t n p : Nat) : Int) ∧ r.1 = wd t n w p) := by
  unfold F_MO_needs
  refine wp_bind (R_letters h hp hpn) (fun N hN => ?_)
  obtain ⟨s, n6, n8⟩ := hN
  rw [R_isWord hw (s.rt h) n6 n8 hpn, bs]
  exact wp_some ⟨s, n6, n8, rfl⟩
theorem R_sign {t : Nat → Int} {n p : Nat} {c : Int} {M : Mem} (h : RTp t n M) (hp : M.1 94 6 = iI (p : Int)) (hpn : p ≤ n) (hc : 0 ≤ c) (hc2 : c ≤ 127) : wpO (F_MO_sign (iI c) M) (fun r => sm68 M r.2 ∧ r.1 = sgT t n c p ∧ r.2.1 94 6 = iI (((if sgT t n c p = true then sk t n p + 1 else sk t n p) : Nat) : Int)) := by
  unfold F_MO_sign
  refine wp_bind (R_blanks h hp hpn) (fun N hN => ?_)
  obtain ⟨s, n6, n8⟩ := hN
  rw [R_isAt (s.rt h) n6 (sk_le hpn) hc hc2 hc hc2, bs]
  have e : decide (sk t n p < n ∧ c ≤ t (sk t n p) ∧ t (sk t n p) ≤ c) = sgT t n c p := by
    unfold sgT
    by_cases q : sk t n p < n ∧ t (sk t n p) = c
    · rw [decide_eq_true q, decide_eq_true ⟨q.1, by omega, by omega⟩]
    · rw [decide_eq_false q, decide_eq_false (fun w => q ⟨w.1, by omega⟩)]
  rw [e]
  cases cs : sgT t n c p with
  | true => exact wp_tt (wp_some ⟨s.s6, rfl, by rw [mI_hit, n6, iI_succ, if_pos rfl]⟩)
  | false => exact wp_ff (wp_some ⟨s, rfl, by rw [n6, if_neg (by decide)]⟩)
theorem R_figure {t : Nat → Int} {n p : Nat} {M : Mem} (h : RTp t n M) (hp : M.1 94 6 = iI (p : Int)) (hpn : p ≤ n) : wpO (F_MO_figure M) (fun r => sm68 M r.2 ∧ r.1 = iI (fg t n p) ∧ r.2.1 94 6 = iI ((rn t n 48 57 (sk t n p) : Nat) : Int) ∧ r.2.1 94 8 = iI ((sk t n p : Nat) : Int)) := by
  have l48 : (48 : Int32) = iI 48 := rfl
  have l50 : (50 : Int32) = iI 50 := rfl
  have l1 : (1 : Int32) = iI 1 := rfl
  have hn := h.2.1
  have sl : sk t n p ≤ n := sk_le hpn
  have rl : rn t n 48 57 (sk t n p) ≤ n := rn_le sl
  have rg := rn_ge (t := t) (n := n) (lo := 48) (hi := 57) (p := sk t n p)
  unfold F_MO_figure
  refine wp_bind (R_blanks h hp hpn) (fun N hN => ?_)
  obtain ⟨s, n6, n8⟩ := hN
  have TN := s.rt h
  have l32 : ∀ v : Int, (sk t n p < n ∧ 48 ≤ t (sk t n p) ∧ t (sk t n p) ≤ 50 → v = t (sk t n p) - 48) → (¬ (sk t n p < n ∧ 48 ≤ t (sk t n p) ∧ t (sk t n p) ≤ 50) → v = -1) → wpO (F_MO_figure_l32 (iI v) N) (fun r => sm68 M r.2 ∧ r.1 = iI (fg t n p) ∧ r.2.1 94 6 = iI ((rn t n 48 57 (sk t n p) : Nat) : Int) ∧ r.2.1 94 8 = iI ((sk t n p : Nat) : Int)) := by
    intro v h1 h2
    unfold F_MO_figure_l32
    refine wp_bind (R_run (lo := 48) (hi := 57) (fun z => rfl) TN n6 sl (by decide) (by decide) (by decide) (by decide)) (fun O hO => ?_)
    have o6 : O.1 94 6 = iI ((rn t n 48 57 (sk t n p) : Nat) : Int) := by rw [hO, mI_hit]
    have o8 : O.1 94 8 = iI ((sk t n p : Nat) : Int) := by rw [hO, mI_ix (by decide), n8]
    have sO : sm68 M O := by
      rw [hO]
      exact s.s6
    unfold F_MO_figure_j56
    rw [o6, o8, iI_sub, l1]
    refine wp_if (fun c => wp_some ⟨sO, ?_, o6, o8⟩) (fun c => wp_some ⟨sO, ?_, o6, o8⟩)
    · rw [iI_eq (by omega) (by omega) (by omega) (by omega)] at c
      show iI v = iI (fg t n p)
      congr 1
      unfold fg
      by_cases q : sk t n p < n ∧ 48 ≤ t (sk t n p) ∧ t (sk t n p) ≤ 50
      · rw [h1 q, if_pos ⟨q.1, q.2.1, q.2.2, by omega⟩]
      · rw [h2 q, if_neg (fun w => q ⟨w.1, w.2.1, w.2.2.1⟩)]
    · rw [iI_eq (by omega) (by omega) (by omega) (by omega)] at c
      show -1 = iI (fg t n p)
      unfold fg
      rw [if_neg (fun w => c (by omega)), tm1]
  rw [l48, l50, R_isAt TN n6 sl (by decide) (by decide) (by decide) (by decide), bs]
  by_cases q : sk t n p < n ∧ 48 ≤ t (sk t n p) ∧ t (sk t n p) ≤ 50
  · rw [decide_eq_true q]
    refine wp_tt ?_
    rw [n6]
    refine wp_t (inb_iI (by omega) (by omega) (by omega)) ?_
    rw [clN (by omega), (TN.2.2 _ q.1).1, iI_sub]
    exact l32 _ (fun _ => rfl) (fun w => absurd q w)
  · rw [decide_eq_false q, tm1]
    exact wp_ff (l32 _ (fun w => absurd w q) (fun _ => rfl))
