/-! ===== way: both sides, with what they answer ===== -/
def pF : WayT → Int
  | .inl e => (e : Int)
  | .inr x => stray x.2.2.2 x.1
theorem stray_b : ∀ (L : NaT) (m n : Nat), (∀ q, q ∈ L → q.2 < n) → -1 ≤ stray L m ∧ stray L m ≤ n := by
  intro L m n
  induction L with
  | nil =>
    intro _
    show -1 ≤ (-1 : Int) ∧ (-1 : Int) ≤ n
    omega
  | cons q L ih =>
    intro h
    have h1 := h q (List.mem_cons_self ..)
    rw [stray_cons]
    by_cases c : (m : Int) ≤ q.1
    · rw [if_pos c]
      omega
    · rw [if_neg c]
      exact ih (fun x hx => h x (List.mem_cons_of_mem _ hx))
theorem woC_f {n : Nat} {r : Int32 × Mem} {w : WayT} (h : woC n r w) : r.1 = iI (pF w) ∧ -1 ≤ pF w ∧ pF w ≤ n ∧ ∀ x, w = .inr x → (1 ≤ x.1 ∧ x.1 ≤ 3) ∧ r.2.2 31 0 = lI (x.1 : Int) ∧ TXc x.2.1 x.2.2.1 r.2 ∧ AGb x.2.1 x.2.2.1 ∧ NMb x.2.2.2 n := by
  cases w with
  | inl e =>
    obtain ⟨h1, h2⟩ := h
    refine ⟨h1, ?_, ?_, fun x q => by cases q⟩
    · show -1 ≤ (e : Int)
      omega
    · show (e : Int) ≤ n
      omega
  | inr y =>
    obtain ⟨h1, h2, h3, h4, h5, h6⟩ := h
    have sb := stray_b y.2.2.2 y.1 n (fun q hq => (h6.2 q hq).1)
    refine ⟨h1, sb.1, sb.2, fun x q => ?_⟩
    cases q
    exact ⟨h2, h3, h4, h5, h6⟩
theorem woR_f {r : Bool × Mem} {w : WayT} (h : woR r w) : (pF w ≠ -1 → r.1 = false ∧ r.2.1 94 8 = iI (pF w)) ∧ (pF w = -1 → r.1 = true ∧ ∃ x, w = .inr x ∧ r.2.1 99 0 = iI (x.1 : Int) ∧ TXr x.1 x.2.1 x.2.2.1 r.2) := by
  cases w with
  | inl e =>
    refine ⟨fun _ => h, fun q => ?_⟩
    have q2 : (e : Int) = -1 := q
    omega
  | inr y => exact ⟨h.2, fun q => ⟨(h.1 q).1, y, rfl, (h.1 q).2.1, (h.1 q).2.2⟩⟩
theorem R_wayV {t : Nat → Int} {n : Nat} {N : Mem} (i : InvR N) (hT : RTp t n (useM N)) (hb : ∀ x, pWay t n = .inr x → (1 ≤ x.1 ∧ x.1 ≤ 3) ∧ NMb x.2.2.2 n) : wpO (F_MO_way N) (fun r => r.2.1 94 9 = iI (pF (pWay t n)) ∧ (pF (pWay t n) ≠ -1 → r.2.1 94 0 = 1 ∧ ∀ j, r.2.1 95 j = N.1 95 j) ∧ (pF (pWay t n) = -1 → ∃ x, pWay t n = .inr x ∧ ((N.1 95 5 = 8 ∧ r.2.1 94 0 = 2 ∧ ∀ j, r.2.1 95 j = N.1 95 j) ∨ (∃ k : Nat, N.1 95 5 = iI (k : Int) ∧ k < 8 ∧ r.2.1 94 0 = 0 ∧ r.1 = iI (k : Int) ∧ r.2.1 95 5 = iI ((k + 1 : Nat) : Int) ∧ r.2.1 95 (27 + 13 * k) = iI (x.1 : Int) ∧ (∀ m, m < x.1 → r.2.1 95 (28 + 13 * k + m) = iI (x.2.1 m) ∧ ∀ s, s < 3 → r.2.1 95 (31 + 13 * k + 3 * m + s) = iI (x.2.2.1 m s)) ∧ ∀ j : Nat, j ≠ 5 → ¬ (27 + 13 * k ≤ j ∧ j < 40 + 13 * k) → ¬ (144 ≤ j ∧ j < 152) → r.2.1 95 j = N.1 95 j)))) := by
  unfold F_MO_way
  rw [useM_f, bs]
  have hu := i.use
  have u95 : (useM N).1 95 = N.1 95 := rfl
  have u0 : (useM N).1 94 0 = 0 := by
    unfold useM
    rw [mI_ix (by decide), mI_ix (by decide), mI_ix (by decide), mI_hit]
  have u6 := useM_6 N
  generalize useM N = U at *
  refine wp_bind (wp_q (R_readWay hT u6 (fun x q => (hb x q).2)) (Q_MO_readWay U)) (fun r2 h2 => ?_)
  obtain ⟨g, f2⟩ := h2
  have hN : InvR r2.2 := hu.fr f2 (fun k j q => by first | omega | (dsimp only at q; omega))
  have n95 : ∀ j, r2.2.1 95 j = N.1 95 j := fun j => (f2 95 j (by omega)).1.trans (congrFun u95 j)
  have n0 : r2.2.1 94 0 = 0 := (f2 94 0 (by omega)).1.trans u0
  obtain ⟨gn, gp⟩ := woR_f g
  generalize pF (pWay t n) = f at *
  by_cases cf : f = -1
  · obtain ⟨g1, x, ex, x0, xT⟩ := gp cf
    obtain ⟨⟨b1, b3⟩, -⟩ := hb x ex
    rw [g1]
    refine wp_tt ?_
    unfold F_MO_way_j22
    refine wp_tt ?_
    have o9 : (mSI r2.2 94 9 (-1)).1 94 9 = -1 := mI_hit
    have o0 : (mSI r2.2 94 9 (-1)).1 94 0 = 0 := (mI_ix (by decide)).trans n0
    have o95 : ∀ j, (mSI r2.2 94 9 (-1)).1 95 j = N.1 95 j := fun j => (mI_cell (by decide)).trans (n95 j)
    have o99 : (mSI r2.2 94 9 (-1)).1 99 = r2.2.1 99 := funext fun j => mI_cell (by decide)
    have hR : RIW ((mSI r2.2 94 9 (-1)).1 95) := hN.1
    generalize mSI r2.2 94 9 (-1) = O at *
    unfold F_MO_way_j35
    refine wp_thr (fun q => nomatch q) (fun _ => thr_f (wp_t ib5 ?_))
    dsimp only
    simp only [tn5]
    have r5 := hR.ways
    refine wp_if (fun c8 => ?_) (fun c8 => ?_)
    · unfold F_MO_way_j59
      refine wp_thr (fun _ => thr_t (wp_some ⟨?_, fun w => absurd cf w, fun _ => ⟨x, ex, Or.inl ⟨?_, ?_, fun j => ?_⟩⟩⟩)) (fun q => nomatch q)
      · show (mSI O 94 0 2).1 94 9 = _
        rw [mI_ix (by decide), o9, cf, tm1]
      · rw [← o95 5]
        exact c8
      · exact mI_hit
      · exact (mI_cell (by decide)).trans (o95 j)
    · have e5 : O.1 95 5 = iI (((O.1 95 5).toInt.toNat : Nat) : Int) := iI_nat r5.1
      have n8 : (O.1 95 5).toInt.toNat < 8 := by
        have : ¬ (O.1 95 5).toInt = 8 := fun q => c8 (by rw [← iI_of (O.1 95 5), q]; rfl)
        omega
      unfold F_MO_way_j59
      refine wp_thr (fun q => nomatch q) (fun _ => thr_f (wp_t ib5 (wp_t ib5 (wp_t ib5 ?_))))
      dsimp only
      simp only [tn5]
      have eN : N.1 95 5 = iI (((O.1 95 5).toInt.toNat : Nat) : Int) := (o95 5).symm.trans e5
      rw [e5]
      generalize (O.1 95 5).toInt.toNat = k at *
      rw [iI_succ]
      unfold F_MO_way_l87
      refine wp_bind (Ψ := fun A => (∀ j : Nat, j < 13 → A.1 95 (27 + 13 * k + j) = O.1 99 j) ∧ (∀ j : Nat, ¬ (27 + 13 * k ≤ j ∧ j < 40 + 13 * k) → A.1 95 j = (mSI O 95 5 (iI ((k + 1 : Nat) : Int))).1 95 j) ∧ ∀ j, A.1 94 j = O.1 94 j) ?_ (fun A hA => ?_)
      · refine wp_iterS (P := fun u z => z.1 = iI (u : Int) ∧ u ≤ 13 ∧ (∀ j : Nat, z.2.1 99 j = O.1 99 j) ∧ (∀ j : Nat, j < u → z.2.1 95 (27 + 13 * k + j) = O.1 99 j) ∧ (∀ j : Nat, ¬ (27 + 13 * k ≤ j ∧ j < 40 + 13 * k) → z.2.1 95 j = (mSI O 95 5 (iI ((k + 1 : Nat) : Int))).1 95 j) ∧ ∀ j, z.2.1 94 j = O.1 94 j) 13 ?_ _ _ ⟨rfl, by decide, fun j => mI_cell (by decide), fun j q => absurd q (Nat.not_lt_zero _), fun _ _ => rfl, fun j => mI_cell (by decide)⟩ (FUEL_big (by decide))
        rintro u ⟨z1, A⟩ hk ⟨e1, -, o0', o1, o2, o3⟩
        dsimp only at e1 o0' o1 o2 o3
        subst e1
        unfold F_MO_way_b87
        dsimp only
        refine wp_if (fun cc => wp_some ⟨fun j hj => o1 j ?_, o2, o3⟩) (fun cc => ?_)
        · rw [l32_13, iI_le (by omega) (by omega) (by omega) (by omega)] at cc
          omega
        rw [l32_13, iI_le (by omega) (by omega) (by omega) (by omega)] at cc
        have e3 : (27 + (13 * iI (k : Int))) + iI (u : Int) = iI ((27 + 13 * k + u : Nat) : Int) := by
          rw [l32_27, l32_13, iI_mul, iI_add, iI_add]
          rfl
        rw [e3]
        refine wp_t (inb_iI (by omega) (by omega) (by omega)) (wp_t (inb_iI (by omega) (by omega) (by omega)) (wp_some ⟨by omega, iI_succ u, by omega, fun j => (mI_cell (by decide)).trans (o0' j), fun j hj => ?_, fun j hj => ?_, fun j => (mI_cell (by decide)).trans (o3 j)⟩))
        · show (mSI A 95 _ _).1 95 (27 + 13 * k + j) = _
          rw [clN (by omega), clN (by omega)]
          by_cases q : j = u
          · rw [q, mI_hit, o0']
          · rw [mI_ix (by omega)]
            exact o1 j (by omega)
        · show (mSI A 95 _ _).1 95 j = _
          rw [clN (by omega), mI_ix (by omega)]
          exact o2 j hj
      · obtain ⟨o1, o2, o3⟩ := hA
        unfold F_MO_way_j119
        rw [e144]
        refine wp_t (inb_iI (by omega) (by omega) (by omega)) (wp_some ?_)
        rw [clN (by omega)]
        have a99 : ∀ j, O.1 99 j = r2.2.1 99 j := fun j => congrFun o99 j
        refine ⟨?_, fun w => absurd cf w, fun _ => ⟨x, ex, Or.inr ⟨k, eN, n8, ?_, rfl, ?_, ?_, fun m hm => ⟨?_, fun s hs => ?_⟩, fun j j5 jw jf => ?_⟩⟩⟩
        · show (mSI A 95 (144 + k) 0).1 94 9 = _
          rw [mI_cell (by decide), o3, o9, cf, tm1]
        · show (mSI A 95 (144 + k) 0).1 94 0 = _
          rw [mI_cell (by decide), o3, o0]
        · show (mSI A 95 (144 + k) 0).1 95 5 = _
          rw [mI_ix (by omega), o2 5 (by omega), mI_hit]
        · show (mSI A 95 (144 + k) 0).1 95 (27 + 13 * k) = _
          rw [mI_ix (by omega)]
          have := o1 0 (by decide)
          rw [Nat.add_zero] at this
          rw [this, a99, x0]
        · show (mSI A 95 (144 + k) 0).1 95 (28 + 13 * k + m) = _
          rw [mI_ix (by omega), show 28 + 13 * k + m = 27 + 13 * k + (1 + m) by omega, o1 (1 + m) (by omega), a99]
          exact (xT m hm).1
        · show (mSI A 95 (144 + k) 0).1 95 (31 + 13 * k + 3 * m + s) = _
          rw [mI_ix (by omega), show 31 + 13 * k + 3 * m + s = 27 + 13 * k + (4 + 3 * m + s) by omega, o1 (4 + 3 * m + s) (by omega), a99]
          exact (xT m hm).2 s hs
        · show (mSI A 95 (144 + k) 0).1 95 j = _
          rw [mI_ix (by omega), o2 j jw, mI_ix j5, o95]
  · obtain ⟨g1, g8⟩ := gn cf
    rw [g1]
    refine wp_ff ?_
    unfold F_MO_way_j22
    refine wp_ff ?_
    unfold F_MO_way_j35
    refine wp_thr (fun _ => thr_t (wp_some ⟨?_, fun _ => ⟨mI_hit, fun j => ?_⟩, fun w => absurd w cf⟩)) (fun q => nomatch q)
    · show (mSI (mSI r2.2 94 9 (r2.2.1 94 8)) 94 0 1).1 94 9 = _
      rw [mI_ix (by decide), mI_hit, g8]
    · show (mSI (mSI r2.2 94 9 (r2.2.1 94 8)) 94 0 1).1 95 j = _
      rw [mI_cell (by decide), mI_cell (by decide), n95]
theorem C_putWay {k : Nat} {M : Mem} (hk : k < 8) : wpO (F_Well_putWay 31 13 (iI (k : Int)) M) (fun N => N.1 = M.1 ∧ (∀ b j, b ≠ 5 → N.2 b j = M.2 b j) ∧ ∀ j, N.2 5 j = if 13 * k ≤ j ∧ j < 13 * k + 13 then M.2 31 (j - 13 * k) else M.2 5 j) := by
  unfold F_Well_putWay F_Well_putWay_l2
  refine wp_bind (Ψ := fun N => N.1 = M.1 ∧ (∀ b j, b ≠ 5 → N.2 b j = M.2 b j) ∧ ∀ j, N.2 5 j = if 13 * k ≤ j ∧ j < 13 * k + 13 then M.2 31 (j - 13 * k) else M.2 5 j) ?_ (fun N hN => wp_some hN)
  refine wp_iterS (P := fun u z => z.1 = iI (u : Int) ∧ z.2.1 = M.1 ∧ (∀ b j, b ≠ 5 → z.2.2 b j = M.2 b j) ∧ ∀ j, z.2.2 5 j = if 13 * k ≤ j ∧ j < 13 * k + u then M.2 31 (j - 13 * k) else M.2 5 j) 13 ?_ _ _ ⟨rfl, rfl, fun _ _ _ => rfl, fun j => by rw [if_neg (by omega)]⟩ (FUEL_big (by decide))
  rintro u ⟨z1, N⟩ hu ⟨e1, o1, o2, o3⟩
  dsimp only at e1 o1 o2 o3
  subst e1
  unfold F_Well_putWay_b2
  dsimp only
  refine wp_if (fun c => wp_some ⟨o1, o2, fun j => ?_⟩) (fun c => ?_)
  · rw [l32_13, iI_le (by omega) (by omega) (by omega) (by omega)] at c
    rw [o3, show u = 13 by omega]
  rw [l32_13, iI_le (by omega) (by omega) (by omega) (by omega)] at c
  have e : (iI (k : Int) * 13) + iI (u : Int) = iI ((13 * k + u : Nat) : Int) := by
    rw [l32_13, iI_mul, iI_add]
    congr 1
    omega
  rw [V_Row_at (by omega) (by omega) (by decide), bs, e, V_Row_put (by omega) (by omega) (by decide), bs]
  refine wp_some ⟨by omega, iI_succ u, o1, fun b j hb => (mL_cell hb).trans (o2 b j hb), fun j => ?_⟩
  show (mSL N 5 (13 * k + u) (N.2 31 u)).2 5 j = _
  by_cases q : j = 13 * k + u
  · rw [q, mL_hit, if_pos ⟨by omega, by omega⟩, show 13 * k + u - 13 * k = u by omega, o2 31 u (by decide)]
  · rw [mL_ix q, o3]
    by_cases c2 : 13 * k ≤ j ∧ j < 13 * k + u
    · rw [if_pos c2, if_pos (by omega)]
    · rw [if_neg c2, if_neg (by omega)]
theorem C_wayV {t : Nat → Int} {n k : Nat} {M : Mem} (hT : CTp t n M) (hk : M.1 1 6 = iI (k : Int)) (hk8 : k ≤ 8) : wpO (F_LAW_way M) (fun r => (∀ x, pWay t n = .inr x → (1 ≤ x.1 ∧ x.1 ≤ 3) ∧ NMb x.2.2.2 n) ∧ r.2.1 0 4 = iI (pF (pWay t n)) ∧ (-1 ≤ pF (pWay t n) ∧ pF (pWay t n) ≤ 400) ∧ (pF (pWay t n) ≠ -1 → r.1 = 1 ∧ r.2.1 1 6 = iI (k : Int) ∧ ∀ j, r.2.2 5 j = M.2 5 j) ∧ (pF (pWay t n) = -1 → ∀ x, pWay t n = .inr x → AGb x.2.1 x.2.2.1 ∧ (k = 8 → r.1 = 2 ∧ r.2.1 1 6 = iI (k : Int) ∧ ∀ j, r.2.2 5 j = M.2 5 j) ∧ (k < 8 → r.1 = 0 ∧ r.2.1 1 6 = iI ((k + 1 : Nat) : Int) ∧ r.2.2 121 0 = lI (k : Int) ∧ r.2.2 5 (13 * k) = lI (x.1 : Int) ∧ (∀ m, m < 3 → r.2.2 5 (13 * k + 1 + 4 * m) = lI (x.2.1 m) ∧ ∀ s, s < 3 → r.2.2 5 (13 * k + 2 + 4 * m + s) = lI (x.2.2.1 m s)) ∧ ∀ j, j < 13 * k → r.2.2 5 j = M.2 5 j))) := by
  have hn := hT.2.1
  obtain ⟨r, er, fr, hw⟩ := C_readWay hT
  obtain ⟨w1, w2, w3, w4⟩ := woC_f hw
  unfold F_LAW_way F_KW_way
  rw [er, bs]
  have n04 : (mSI (mSI r.2 0 4 r.1) 27 1 0).1 0 4 = iI (pF (pWay t n)) := by rw [mI_cell (by decide), mI_hit, w1]
  have n16 : (mSI (mSI r.2 0 4 r.1) 27 1 0).1 1 6 = iI (k : Int) := by rw [mI_cell (by decide), mI_cell (by decide), fr.1 1 6 (by decide) (by decide) (by omega), hk]
  have n5 : ∀ j, (mSI (mSI r.2 0 4 r.1) 27 1 0).2 5 j = M.2 5 j := fun j => fr.2 5 j (by decide) (by decide)
  have n31 : (mSI (mSI r.2 0 4 r.1) 27 1 0).2 31 = r.2.2 31 := rfl
  generalize mSI (mSI r.2 0 4 r.1) 27 1 0 = N at *
  have base : ∀ x, pWay t n = .inr x → (1 ≤ x.1 ∧ x.1 ≤ 3) ∧ NMb x.2.2.2 n := fun x q => ⟨(w4 x q).1, (w4 x q).2.2.2.2⟩
  have fb : -1 ≤ pF (pWay t n) ∧ pF (pWay t n) ≤ 400 := by omega
  rw [n04, n16, tm1]
  by_cases cf : pF (pWay t n) = -1
  · rw [if_pos (by rw [cf])]
    have l8 : (8 : Int32) = iI 8 := rfl
    by_cases c8 : k < 8
    · rw [if_pos (by rw [l8, iI_lt (by omega) (by omega) (by omega) (by omega)]; omega)]
      obtain ⟨P, eP, p1, p2, p3⟩ := C_putWay (M := N) c8
      rw [eP, bs, hb_inr]
      have p16 : P.1 1 6 = iI (k : Int) := by rw [p1, n16]
      rw [p16, iI_succ]
      refine wp_t ib01 (wp_some ⟨base, ?_, fb, fun w => absurd cf w, fun _ x ex => ⟨(w4 x ex).2.2.2.1, fun w => absurd w (by omega), fun _ => ?_⟩⟩)
      · show (mSI P 1 6 (iI ((k + 1 : Nat) : Int))).1 0 4 = _
        rw [mI_cell (by decide), p1, n04]
      · obtain ⟨x1, x2, x3, x4, x5⟩ := w4 x ex
        have pt : ∀ j, j < 13 → P.2 5 (13 * k + j) = r.2.2 31 j := fun j hj => by rw [p3, if_pos ⟨by omega, by omega⟩, show 13 * k + j - 13 * k = j by omega, n31]
        have v : ∀ (Q : Mem) (j : Nat) (w : Int64), (mSL Q 121 0 w).2 5 j = Q.2 5 j := fun Q j w => mL_cell (by decide)
        refine ⟨rfl, ?_, ?_, ?_, fun m hm => ⟨?_, fun s hs => ?_⟩, fun j hj => ?_⟩
        · show (mSI P 1 6 (iI ((k + 1 : Nat) : Int))).1 1 6 = _
          exact mI_hit
        · show (mSL _ 121 ((0 : Int32)).toNatClampNeg _).2 121 0 = _
          rw [tn0, mL_hit, mI_hit, ← iI_succ, addsub1, iI_l (by omega) (by omega)]
        · show (mSL _ 121 ((0 : Int32)).toNatClampNeg _).2 5 (13 * k) = _
          rw [tn0, v]
          have := pt 0 (by decide)
          rw [Nat.add_zero] at this
          exact this.trans x2
        · show (mSL _ 121 ((0 : Int32)).toNatClampNeg _).2 5 (13 * k + 1 + 4 * m) = _
          rw [tn0, v]
          show P.2 5 (13 * k + 1 + 4 * m) = _
          rw [show 13 * k + 1 + 4 * m = 13 * k + (1 + 4 * m) by omega, pt _ (by omega)]
          exact x3.1 m hm
        · show (mSL _ 121 ((0 : Int32)).toNatClampNeg _).2 5 (13 * k + 2 + 4 * m + s) = _
          rw [tn0, v]
          show P.2 5 (13 * k + 2 + 4 * m + s) = _
          rw [show 13 * k + 2 + 4 * m + s = 13 * k + (2 + 4 * m + s) by omega, pt _ (by omega)]
          exact x3.2 m s hm hs
        · show (mSL _ 121 ((0 : Int32)).toNatClampNeg _).2 5 j = _
          rw [tn0, v]
          show P.2 5 j = _
          rw [p3, if_neg (by omega), n5]
    · rw [if_neg (by rw [l8, iI_lt (by omega) (by omega) (by omega) (by omega)]; omega), hb_inl]
      exact wp_f (by decide) (wp_t rfl (wp_some ⟨base, n04, fb, fun w => absurd cf w, fun _ x ex => ⟨(w4 x ex).2.2.2.1, fun _ => ⟨rfl, n16, n5⟩, fun w => absurd w c8⟩⟩))
  · rw [if_neg (by rw [iI_eq (by omega) (by omega) (by omega) (by omega)]; exact cf), hb_inl]
    exact wp_t rfl (wp_some ⟨base, n04, fb, fun _ => ⟨rfl, n16, n5⟩, fun w => absurd w cf⟩)
theorem V_way {M : Mem} (h : RY M) : wpO (F_LAW_way M) (fun r1 => wpO (F_MO_way r1.2) (fun r2 => RY r2.2 ∧ r2.2.1 94 0 = r1.1 ∧ (r1.1 = 0 → r2.2.2 121 0 = r2.1.toInt64))) := by
  refine wp2 (B := fun r1 r2 => RelY r2.2 ∧ r2.2.1 94 0 = r1.1 ∧ (r1.1 = 0 → r2.2.2 121 0 = r2.1.toInt64)) (G_way h.1) (fun r1 r2 e1 e2 => ?_) (fun r s p q => ⟨⟨p, q.1⟩, q.2⟩)
  obtain ⟨i, ra, tt⟩ := h.1
  obtain ⟨y1, y2, y3⟩ := h.2
  have r5 := i.1.ways
  obtain ⟨n, hn⟩ : ∃ n : Nat, (M.1 94 5).toInt = n := ⟨(M.1 94 5).toInt.toNat, by have := i.2.2.1; omega⟩
  have hn4 : n ≤ 400 := by have := i.2.2.2; omega
  have e5 : M.1 94 5 = iI (n : Int) := by rw [← hn, iI_of]
  obtain ⟨k, hk⟩ : ∃ k : Nat, (M.1 95 5).toInt = k := ⟨(M.1 95 5).toInt.toNat, by omega⟩
  have ek : M.1 95 5 = iI (k : Int) := by rw [← hk, iI_of]
  have e16 : M.1 1 6 = iI (k : Int) := by rw [y1.1, ek]
  have hT : CTp (fun j => (M.1 97 j).toInt) n M := ⟨by rw [tt, e5], hn4, fun j hj => y3.2 j (by omega)⟩
  have f1 := wpO_of (T_LAW_way M) e1
  obtain ⟨c0, c1, c2, c3, c4⟩ := wpO_of (C_wayV hT e16 (by omega)) e1
  obtain ⟨rk, ek1, ck1, ck2, ck3, ck4, ck5⟩ := C_way (M := M)
  have d17 : r1.2.1 1 7 = M.1 1 7 := by
    unfold F_LAW_way at e1
    rw [ek1] at e1
    obtain ⟨rq, N⟩ := rk
    cases rq with
    | inl E =>
      rw [hb_inl] at e1
      rcases ck1 E rfl with rfl | rfl
      · rw [if_pos rfl] at e1
        cases e1
        exact ck2 7 (by decide)
      · rw [if_neg (by decide), if_pos rfl] at e1
        cases e1
        exact ck2 7 (by decide)
    | inr v =>
      rw [hb_inr, if_pos ib01] at e1
      cases e1
      exact ck2 7 (by decide)
  have d95 : ∀ k j, 94 ≤ k → k ≤ 120 → r1.2.1 k j = M.1 k j := fun k j h1 h2 => (f1 k (by omega)).1 j
  have iN : InvR r1.2 := i.sm f1 (fun k q => by first | omega | (dsimp only at q; omega))
  have hRT : RTp (fun j => (M.1 97 j).toInt) n (useM r1.2) := by
    refine ⟨by rw [useM_7, d95 94 5 (by decide) (by decide), e5], hn4, fun j hj => ⟨?_, (y3.2 j (by omega)).2⟩⟩
    show r1.2.1 97 j = _
    rw [d95 97 j (by decide) (by decide), iI_of]
  obtain ⟨q9, qn, qp⟩ := wpO_of (R_wayV iN hRT c0) e2
  have f2 := Q_MO_way r1.2 r2 e2
  have k5 := (wpO_of (K_wayS iN) e2).2.2
  have z04 : r2.2.1 0 4 = r2.2.1 94 9 := by rw [(f2 0 4 (by omega)).1, c1, q9]
  have zT : RelT r2.2 := ⟨z04, fun j hj => by rw [k5, li0] at hj; omega⟩
  have z3 : r2.2.1 94 3 = M.1 94 3 := (f2 94 3 (by omega)).1.trans (d95 94 3 (by decide) (by decide))
  have zI : ¬ r2.2.1 94 3 = 0 → relY (r2.2.1 14) (r2.2.2 18) (r2.2.2 20) (r2.2.1 96) := fun q => by
    rw [z3] at q
    exact (y2 q).cg (i.2.1 q) ((f2 14 6 (by omega)).1.trans ((f1 14 (by omega)).1 6)) ((f2 14 7 (by omega)).1.trans ((f1 14 (by omega)).1 7)) (fun j _ => (f2 18 j (by omega)).2.trans ((f1 18 (by omega)).2 j)) (fun j _ => (f2 20 j (by omega)).2.trans ((f1 20 (by omega)).2 j)) (fun j _ => (f2 96 j (by omega)).1.trans (d95 96 j (by decide) (by decide)))
  have z16 : r2.2.1 1 6 = r1.2.1 1 6 := (f2 1 6 (by omega)).1
  have z17 : r2.2.1 1 7 = M.1 1 7 := (f2 1 7 (by omega)).1.trans d17
  have z5 : ∀ j, r2.2.2 5 j = r1.2.2 5 j := fun j => (f2 5 j (by omega)).2
  have z7 : ∀ j, r2.2.2 7 j = M.2 7 j := fun j => (f2 7 j (by omega)).2.trans ((f1 7 (by omega)).2 j)
  have same : r1.2.1 1 6 = iI (k : Int) → (∀ j, r1.2.2 5 j = M.2 5 j) → (∀ j, r2.2.1 95 j = r1.2.1 95 j) → RelY r2.2 := fun s1 s2 s3 =>
    ⟨y1.cg i.1 (by rw [z16, s1, e16]) z17 (fun j _ => by rw [z5, s2]) (fun j _ => z7 j) (fun j _ => by rw [s3, d95 95 j (by decide) (by decide)]), zI, zT⟩
  have n5 : r1.2.1 95 5 = iI (k : Int) := by rw [d95 95 5 (by decide) (by decide), ek]
  by_cases cf : pF (pWay (fun j => (M.1 97 j).toInt) n) = -1
  · obtain ⟨x, ex, qq⟩ := qp cf
    obtain ⟨c5, c6, c7⟩ := c4 cf x ex
    rcases qq with ⟨g1, g2, g3⟩ | ⟨k', g1, g2, g3, g4, g6, g7, g8, g9⟩
    · have hk8 : k = 8 := by
        have l8 : (8 : Int32) = iI 8 := rfl
        rw [n5, l8, iI_eq (by omega) (by omega) (by omega) (by omega)] at g1
        omega
      obtain ⟨h1, h2, h3⟩ := c6 hk8
      refine ⟨same h2 h3 g3, by rw [g2, h1], fun w => ?_⟩
      rw [h1] at w
      exact absurd w (by decide)
    · have hkk : k' = k := by
        rw [n5, iI_eq (by omega) (by omega) (by omega) (by omega)] at g1
        omega
      subst hkk
      obtain ⟨h1, h2, h3, h4, h5, h6⟩ := c7 g2
      have x13 := (c0 x ex).1
      refine ⟨⟨⟨by rw [z16, h2, g6], ?_, fun w hw => ?_, fun j hj => ?_⟩, zI, zT⟩, by rw [g3, h1], fun _ => ?_⟩
      · rw [z17, y1.2.1, g9 7 (by decide) (by omega) (by omega), d95 95 7 (by decide) (by decide)]
      · rw [g6, iI_toInt (by omega) (by omega)] at hw
        by_cases cw : w = k'
        · subst cw
          refine ⟨by rw [z5, h4, g7, iI_l (by omega) (by omega)], fun m hm => ?_⟩
          rw [g7, iI_toInt (by omega) (by omega)] at hm
          obtain ⟨h7, h8⟩ := h5 m (by omega)
          obtain ⟨g10, g11⟩ := g8 m (by omega)
          have b1 := c5.1 m
          refine ⟨by rw [z5, h7, g10, iI_l (by omega) (by omega)], fun s hs => ?_⟩
          have b2 := c5.2 m s
          rw [z5, h8 s hs, g11 s hs, iI_l (by omega) (by omega)]
        · have hw8 : w < 8 := by omega
          have hm3 := (i.1.way w (by omega)).2.1
          obtain ⟨v1, v2⟩ := y1.2.2.1 w (by omega)
          have u27 : r2.2.1 95 (27 + 13 * w) = M.1 95 (27 + 13 * w) := by rw [g9 _ (by omega) (by omega) (by omega), d95 95 _ (by decide) (by decide)]
          refine ⟨by rw [z5, h6 _ (by omega), v1, u27], fun m hm => ?_⟩
          rw [u27] at hm
          obtain ⟨v3, v4⟩ := v2 m hm
          refine ⟨by rw [z5, h6 _ (by omega), v3, g9 _ (by omega) (by omega) (by omega), d95 95 _ (by decide) (by decide)], fun s hs => ?_⟩
          rw [z5, h6 _ (by omega), v4 s hs, g9 _ (by omega) (by omega) (by omega), d95 95 _ (by decide) (by decide)]
      · have u7 : r2.2.1 95 7 = M.1 95 7 := by rw [g9 7 (by decide) (by omega) (by omega), d95 95 7 (by decide) (by decide)]
        rw [u7] at hj
        have r7 := i.1.rowN
        rw [z7, y1.2.2.2 j hj, g9 _ (by omega) (by omega) (by omega), d95 95 _ (by decide) (by decide)]
      · rw [(f2 121 0 (by omega)).2, h3, g4, iI_l (by omega) (by omega)]
  · obtain ⟨g2, g3⟩ := qn cf
    obtain ⟨h1, h2, h3⟩ := c3 cf
    refine ⟨same h2 h3 g3, by rw [g2, h1], fun w => ?_⟩
    rw [h1] at w
    exact absurd w (by decide)
theorem V_fault {M : Mem} (h : RY M) : wpO (F_KW_fault M) (fun r1 => wpO (F_MO_fault M) (fun r2 => RY r2.2 ∧ r1 = r2.1)) := by
  refine wp2 (B := fun a b => RelY b.2 ∧ a = b.1) (G_fault h.1) (fun a b e e2 => ⟨h.rd (Same.rfl' (S := fun _ => False)) (Q_MO_fault M b e2) (fun k q => q.elim) (fun k j q => by first | omega | (dsimp only at q; omega)), ?_⟩) (fun a b p q => ⟨⟨p, q.1⟩, q.2⟩)
  unfold F_KW_fault at e
  unfold F_MO_fault at e2
  cases e
  cases e2
  exact h.2.2.2.1
