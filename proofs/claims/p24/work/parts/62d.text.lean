/-! ===== the class's reader of a text: the whole ===== -/
theorem fs_hi : ∀ (L : NaT) (v : Nat), (∀ q, q ∈ L → q.1 ≤ 2) → 3 ≤ v → fs L v = -1 := by
  intro L v
  induction L with
  | nil => exact fun _ _ => rfl
  | cons q L ih =>
    intro h hv
    have := h q (List.mem_cons_self ..)
    rw [fs_cons, if_neg (by omega)]
    exact ih (fun x hx => h x (List.mem_cons_of_mem _ hx)) hv
theorem C_stray {n m : Nat} {L : NaT} {M : Mem} (hn : n ≤ 400) (hN : NMc L M) (hb : NMb L n) (hm : m ≤ 3) : wpO (F_Tape_firstStray (iI (m : Int)) M) (fun r => r = iI (stray L m)) := by
  have l3 : (3 : Int32) = iI 3 := rfl
  unfold F_Tape_firstStray F_Tape_firstStray_l4
  refine wp_bind (Ψ := fun r => r = iI (stray L m)) ?_ (fun r hr => wp_some hr)
  refine wp_iterS (P := fun k z => z.2 = iI ((m + k : Nat) : Int) ∧ m + k ≤ 3 ∧ ∃ x : Int, z.1 = iI x ∧ (-1 ≤ x ∧ x ≤ 400) ∧ (x = -1 → ∀ v : Nat, m ≤ v → v < m + k → fs L v = -1) ∧ (x ≠ -1 → ∃ v : Nat, m ≤ v ∧ v < 3 ∧ fs L v = x) ∧ ∀ v : Nat, m ≤ v → v < m + k → fs L v ≠ -1 → x ≠ -1 ∧ x ≤ fs L v) 3 ?_ _ _ ⟨rfl, hm, -1, tm1, by omega, fun _ v h1 h2 => absurd h2 (by omega), fun q => absurd rfl q, fun v h1 h2 => absurd h2 (by omega)⟩ (FUEL_big (by decide))
  rintro k ⟨z1, z2⟩ hk ⟨e2, m3, x, e1, xb, a1, a2, a3⟩
  dsimp only at e1 e2
  subst e1
  subst e2
  have hi : ∀ v : Nat, 3 ≤ v → fs L v = -1 := fun v hv => fs_hi L v (fun q hq => (hb.2 q hq).2.2) hv
  unfold F_Tape_firstStray_b4
  dsimp only
  refine wp_if (fun c => wp_some ?_) (fun c => ?_)
  · rw [l3, iI_le (by omega) (by omega) (by omega) (by omega)] at c
    show iI x = iI (stray L m)
    congr 1
    refine isSt_one (L := L) (m := m) ⟨fun q v hv => ?_, a2, fun v hv hne => ?_⟩ (stray_ok L m hb.1 (fun q hq => (hb.2 q hq).2))
    · by_cases c3 : v < 3
      · exact a1 q v hv (by omega)
      · exact hi v (by omega)
    · by_cases c3 : v < 3
      · exact a3 v hv (by omega) hne
      · exact absurd (hi v (by omega)) hne
  rw [l3, iI_le (by omega) (by omega) (by omega) (by omega)] at c
  have fb := fs_b L ((m + k : Nat) : Int) (fun q hq => by have := hb.2 q hq; omega)
  have e : (M.2 33 (((m + k : Nat) : Int)).toNat).toInt32 = iI (fs L ((m + k : Nat) : Int)) := by
    show (M.2 33 (m + k)).toInt32 = _
    rw [hN (m + k) (by omega), lI_i]
  rw [V_Row_small (by omega) (by omega) (by decide), bs, e, iI_succ]
  have keep : (fs L ((m + k : Nat) : Int) = -1 ∨ (x ≠ -1 ∧ x ≤ fs L ((m + k : Nat) : Int))) → wpO (some (.inl ((iI x, iI ((m + k + 1 : Nat) : Int)))) : Option ((Int32 × Int32) ⊕ Int32)) (sumP (fun s' => k < 3 ∧ s'.2 = iI ((m + (k + 1) : Nat) : Int) ∧ m + (k + 1) ≤ 3 ∧ ∃ x : Int, s'.1 = iI x ∧ (-1 ≤ x ∧ x ≤ 400) ∧ (x = -1 → ∀ v : Nat, m ≤ v → v < m + (k + 1) → fs L v = -1) ∧ (x ≠ -1 → ∃ v : Nat, m ≤ v ∧ v < 3 ∧ fs L v = x) ∧ ∀ v : Nat, m ≤ v → v < m + (k + 1) → fs L v ≠ -1 → x ≠ -1 ∧ x ≤ fs L v) (fun r => r = iI (stray L m))) := fun w => by
    refine wp_some ⟨by omega, rfl, by omega, x, rfl, xb, fun q v h1 h2 => ?_, a2, fun v h1 h2 h3 => ?_⟩
    · by_cases c3 : v = m + k
      · rw [c3]
        rcases w with w | w
        · exact w
        · exact absurd q w.1
      · exact a1 q v h1 (by omega)
    · by_cases c3 : v = m + k
      · rw [c3] at h3 ⊢
        rcases w with w | w
        · exact absurd w h3
        · exact w
      · exact a3 v h1 (by omega) h3
  have take : fs L ((m + k : Nat) : Int) ≠ -1 → (x = -1 ∨ fs L ((m + k : Nat) : Int) ≤ x) → wpO (some (.inl ((iI (fs L ((m + k : Nat) : Int)), iI ((m + k + 1 : Nat) : Int)))) : Option ((Int32 × Int32) ⊕ Int32)) (sumP (fun s' => k < 3 ∧ s'.2 = iI ((m + (k + 1) : Nat) : Int) ∧ m + (k + 1) ≤ 3 ∧ ∃ x : Int, s'.1 = iI x ∧ (-1 ≤ x ∧ x ≤ 400) ∧ (x = -1 → ∀ v : Nat, m ≤ v → v < m + (k + 1) → fs L v = -1) ∧ (x ≠ -1 → ∃ v : Nat, m ≤ v ∧ v < 3 ∧ fs L v = x) ∧ ∀ v : Nat, m ≤ v → v < m + (k + 1) → fs L v ≠ -1 → x ≠ -1 ∧ x ≤ fs L v) (fun r => r = iI (stray L m))) := fun w0 w => by
    refine wp_some ⟨by omega, rfl, by omega, _, rfl, fb, fun q => absurd q w0, fun _ => ⟨m + k, by omega, by omega, rfl⟩, fun v h1 h2 h3 => ⟨w0, ?_⟩⟩
    by_cases c3 : v = m + k
    · rw [c3]
      exact Int.le_refl _
    · obtain ⟨y1, y2⟩ := a3 v h1 (by omega) h3
      rcases w with w | w
      · exact absurd w y1
      · omega
  rw [tm1]
  refine wp_if (fun c2 => ?_) (fun c2 => ?_)
  · rw [iI_eq (by omega) (by omega) (by omega) (by omega)] at c2
    exact keep (Or.inl c2)
  · rw [iI_eq (by omega) (by omega) (by omega) (by omega)] at c2
    refine wp_if (fun c3 => ?_) (fun c3 => ?_)
    · rw [iI_eq (by omega) (by omega) (by omega) (by omega)] at c3
      exact take c2 (Or.inl c3)
    · rw [iI_eq (by omega) (by omega) (by omega) (by omega)] at c3
      refine wp_if (fun c4 => ?_) (fun c4 => ?_)
      · rw [iI_le (by omega) (by omega) (by omega) (by omega)] at c4
        exact keep (Or.inr ⟨c3, c4⟩)
      · rw [iI_le (by omega) (by omega) (by omega) (by omega)] at c4
        exact take c2 (Or.inr (by omega))
abbrev WayT : Type := Nat ⊕ (Nat × (Nat → Int) × GoT × NaT)
def pWay (t : Nat → Int) (n : Nat) : WayT := pMs t n 4 0 0 (fun _ => 0) (fun _ _ => 0) []
/-- the class's end of reading -/
def woC (n : Nat) (r : Int32 × Mem) : WayT → Prop
  | .inl e => r.1 = iI (e : Int) ∧ e ≤ n
  | .inr x => r.1 = iI (stray x.2.2.2 x.1) ∧ (1 ≤ x.1 ∧ x.1 ≤ 3) ∧ r.2.2 31 0 = lI (x.1 : Int) ∧ TXc x.2.1 x.2.2.1 r.2 ∧ AGb x.2.1 x.2.2.1 ∧ NMb x.2.2.2 n
theorem pMs_s {t : Nat → Int} {n f m p : Nat} {a : Nat → Int} {g : GoT} {L : NaT} : pMs t n (f + 1) m p a g L = match pMood t n m p a g L with
    | .inl e => .inl e
    | .inr x => if n ≤ sk t n x.1 then .inr (m + 1, x.2.1, x.2.2.1, x.2.2.2) else if t (sk t n x.1) = 59 then pMs t n f (m + 1) (sk t n x.1 + 1) x.2.1 x.2.2.1 x.2.2.2 else .inl (sk t n x.1) := rfl
theorem C_readWay {t : Nat → Int} {n : Nat} {M : Mem} (hT : CTp t n M) : wpO (F_Tape_readWay M) (fun r => f27 M r.2 ∧ woC n r (pWay t n)) := by
  have hn := hT.2.1
  have l3 : (3 : Int32) = iI 3 := rfl
  have l59 : (59 : Int32) = iI 59 := rfl
  have l0 : (0 : Int32) = iI ((0 : Nat) : Int) := rfl
  unfold F_Tape_readWay
  refine wp_bind (T_Row_setAllQ 31 13 0 M) (fun r1 h1 => ?_)
  obtain ⟨f1, c1⟩ := h1
  refine wp_bind (T_Row_setAllQ 33 3 (-1) r1) (fun r2 h2 => ?_)
  obtain ⟨f2, c2⟩ := h2
  have fA : f27 M (mSI r2 27 6 0) := by
    refine ⟨fun k j q31 q33 w => ?_, fun k j w w2 => ?_⟩
    · rw [mSI_1, if_neg (fun q => w (by omega)), (f2 k q33).1]
      exact (f1 k q31).1 j
    · show r2.2 k j = _
      rw [(f2 k w2).2, (f1 k w).2]
  have xA : TXc (fun _ => 0) (fun _ _ => 0) (mSI r2 27 6 0) := by
    refine ⟨fun m hm => ?_, fun m s hm hs => ?_⟩
    · show r2.2 31 (1 + 4 * m) = lI 0
      rw [(f2 31 (by decide)).2, c1 _ (by omega) (by decide)]
      rfl
    · show r2.2 31 (2 + 4 * m + s) = lI 0
      rw [(f2 31 (by decide)).2, c1 _ (by omega) (by decide)]
      rfl
  have nA : NMc [] (mSI r2 27 6 0) := fun v hv => by
    show r2.2 33 v = lI (fs [] v)
    rw [c2 v hv (by decide), fs_nil, tm1l]
  have h6 : (mSI r2 27 6 0).1 27 6 = iI ((0 : Nat) : Int) := by
    rw [mI_hit]
    rfl
  generalize mSI r2 27 6 0 = N0 at *
  refine wp_bind (C_step (fA.ct hT) h6 (Nat.zero_le n)) (fun r3 hr3 => ?_)
  obtain ⟨g3, k3⟩ := hr3
  have f3 := fA.tr g3.f
  unfold F_Tape_readWay_l31
  refine wp_bind (Ψ := fun q => match q with | .inl N => f27 M N ∧ ∃ e : Nat, pWay t n = .inl e ∧ N.1 27 5 = iI (e : Int) ∧ e ≤ n | .inr r => f27 M r.2 ∧ ∃ (k q : Nat) (a : Nat → Int) (g : GoT) (L : NaT), r.1 = iI (k : Int) ∧ (1 ≤ k ∧ k ≤ 3) ∧ TK t n q r.2 ∧ q ≤ n ∧ TXc a g r.2 ∧ NMc L r.2 ∧ NMb L n ∧ AGb a g ∧ pWay t n = if n ≤ sk t n q then .inr (k, a, g, L) else .inl (sk t n q)) ?_ (fun q hq => ?_)
  · refine wp_iterS (P := fun k z => z.1 = iI (k : Int) ∧ k ≤ 3 ∧ f27 M z.2.2 ∧ ((z.2.1 = true ∧ ∃ (p : Nat) (a : Nat → Int) (g : GoT) (L : NaT), TK t n p z.2.2 ∧ p ≤ n ∧ TXc a g z.2.2 ∧ NMc L z.2.2 ∧ NMb L n ∧ AGb a g ∧ (∀ q, q ∈ L → q.2 < p) ∧ pMs t n (4 - k) k p a g L = pWay t n) ∨ (z.2.1 = false ∧ 1 ≤ k ∧ ∃ (q : Nat) (a : Nat → Int) (g : GoT) (L : NaT), TK t n q z.2.2 ∧ q ≤ n ∧ TXc a g z.2.2 ∧ NMc L z.2.2 ∧ NMb L n ∧ AGb a g ∧ pWay t n = if n ≤ sk t n q then .inr (k, a, g, L) else .inl (sk t n q)))) 4 ?_ _ _ ?_ (FUEL_big (by decide))
    · rintro k ⟨z1, z2, N⟩ hk ⟨e1, k3, fN, hz⟩
      dsimp only at e1 fN hz
      subst e1
      have TN := fN.ct hT
      unfold F_Tape_readWay_b31
      dsimp only
      rcases hz with ⟨rfl, p, a, g, L, kN, pN, xN, nN, bN, gN, lN, eq⟩ | ⟨rfl, k1, q, a, g, L, kN, qN, xN, nN, bN, gN, eq⟩
      · refine wp_tt (wp_f (by rw [l3, iI_lt (by omega) (by omega) (by omega) (by omega)]; omega) ?_)
        rw [l3]
        refine wp_if (fun c => wp_some ?_) (fun c => ?_)
        · rw [iI_eq (by omega) (by omega) (by omega) (by omega)] at c
          have ek : k = 3 := by omega
          rw [ek] at eq
          refine ⟨fN, sk t n p, ?_, kN.1, sk_le pN⟩
          rw [← eq]
          show pMs t n (0 + 1) 3 p a g L = _
          rw [pMs_s]
          have es : pMood t n 3 p a g L = .inl (sk t n p) := by
            unfold pMood
            rw [if_pos (Or.inl rfl)]
          rw [es]
        rw [iI_eq (by omega) (by omega) (by omega) (by omega)] at c
        rw [show 4 - k = (4 - (k + 1)) + 1 by omega, pMs_s] at eq
        refine wp_bind (C_readMood TN kN pN (m := k) (by omega) xN nN bN gN lN) (fun r6 hr6 => ?_)
        obtain ⟨f6, o6⟩ := hr6
        have f7 := fN.tr f6
        obtain ⟨b6, N6⟩ := r6
        cases es : pMood t n k p a g L with
        | inl e =>
          rw [es] at o6 eq
          obtain ⟨o1, o2, o3⟩ := o6
          dsimp only at o1 o2 f7 eq
          subst o1
          exact wp_ff (wp_some ⟨f7, e, eq.symm, o2, o3⟩)
        | inr x =>
          rw [es] at o6 eq
          obtain ⟨o1, o2, o3, o4, o5, o6, o7, o8⟩ := o6
          dsimp only at o1 o2 o3 o4 o5 o6 o7 o8 f7 eq
          subst o1
          refine wp_tt ?_
          have T6 := f7.ct hT
          rw [l59]
          show wpO ((F_Tape_isSign (iI 59) N6).bind _) _
          rw [C_isSign T6 o2 (Or.inr rfl), bs]
          cases cs : sgT t n 59 x.1 with
          | false =>
            refine wp_ff (wp_some ⟨by omega, iI_succ k, by omega, f7, Or.inr ⟨rfl, by omega, x.1, x.2.1, x.2.2.1, x.2.2.2, o2, o3, o4, o5, o6, o7, ?_⟩⟩)
            rw [← eq]
            by_cases c4 : n ≤ sk t n x.1
            · rw [if_pos c4, if_pos c4]
            · rw [if_neg c4, if_neg c4, if_neg]
              intro w
              have : sgT t n 59 x.1 = true := decide_eq_true ⟨by omega, w⟩
              rw [cs] at this
              cases this
          | true =>
            have ci := sgT_in cs
            have a6 : af t n x.1 = sk t n x.1 + 1 := (k_sgn ci.1 (by omega) (by omega)).2.1
            have sge := sk_ge (t := t) (n := n) (p := x.1)
            refine wp_tt (wp_bind (C_step (p := sk t n x.1 + 1) T6 (by rw [o2.2.2.1, a6]) (by omega)) (fun r8 hr8 => ?_))
            obtain ⟨g8, k8⟩ := hr8
            rw [if_neg (by omega), if_pos ci.2] at eq
            refine wp_some ⟨by omega, iI_succ k, by omega, f7.tr g8.f, Or.inl ⟨rfl, sk t n x.1 + 1, x.2.1, x.2.2.1, x.2.2.2, k8, by omega, ⟨fun m2 h => by rw [g8.2]; exact o4.1 m2 h, fun m2 s h h2 => by rw [g8.2]; exact o4.2 m2 s h h2⟩, fun v hv => by rw [g8.2]; exact o5 v hv, o6, o7, fun q hq => by have := o8 q hq; omega, eq⟩⟩
      · exact wp_ff (wp_some ⟨fN, k, q, a, g, L, rfl, ⟨k1, k3⟩, kN, qN, xN, nN, bN, gN, eq⟩)
    · exact ⟨rfl, by decide, f3, Or.inl ⟨rfl, 0, _, _, [], k3, Nat.zero_le n, ⟨fun m h => by rw [g3.2]; exact xA.1 m h, fun m s h h2 => by rw [g3.2]; exact xA.2 m s h h2⟩, fun v hv => by rw [g3.2]; exact nA v hv, ⟨List.Pairwise.nil, fun q hq => absurd hq (List.not_mem_nil)⟩, ⟨fun _ => by omega, fun _ _ => by omega⟩, fun q hq => absurd hq (List.not_mem_nil), rfl⟩⟩
  · rcases q with N | ⟨q1, N⟩
    · obtain ⟨f, e, h1, h2, h3⟩ := hq
      show wpO (some ((N.1 27 5, N))) _
      refine wp_some ⟨f, ?_⟩
      rw [h1]
      exact ⟨h2, h3⟩
    · obtain ⟨f, k, q, a, g, L, e1, ⟨k1, k3⟩, kN, qN, xN, nN, bN, gN, eq⟩ := hq
      dsimp only at f e1 kN xN nN
      subst e1
      show wpO (F_Tape_readWay_j79 (iI (k : Int)) N) _
      unfold F_Tape_readWay_j79
      rw [l0, V_Row_put (by omega) (by omega) (by decide), bs, iI_l (by omega) (by omega)]
      have fP : f27 M (mSL N 31 0 (lI (k : Int))) := f.tr ⟨fun _ _ _ _ _ => rfl, fun b j w _ => mL_cell w⟩
      have kP : TK t n q (mSL N 31 0 (lI (k : Int))) := kN
      have xP : TXc a g (mSL N 31 0 (lI (k : Int))) := ⟨fun m h => by rw [mL_ix (by omega)]; exact xN.1 m h, fun m s h h2 => by rw [mL_ix (by omega)]; exact xN.2 m s h h2⟩
      have nP : NMc L (mSL N 31 0 (lI (k : Int))) := fun v hv => by rw [mL_cell (by decide)]; exact nN v hv
      have zP : (mSL N 31 0 (lI (k : Int))).2 31 0 = lI (k : Int) := mL_hit
      show wpO (if (mSL N 31 0 (lI (k : Int))).1 27 4 = iI ((0 : Nat) : Int) then (F_Tape_firstStray (iI (k : Int)) (mSL N 31 0 (lI (k : Int)))).bind fun r5 => some ((r5, mSL N 31 0 (lI (k : Int)))) else some (((mSL N 31 0 (lI (k : Int))).1 27 5, mSL N 31 0 (lI (k : Int))))) _
      generalize mSL N 31 0 (lI (k : Int)) = P at *
      by_cases c : n ≤ sk t n q
      · rw [if_pos c] at eq
        refine wp_t (by rw [kP.2.1, (k_end c).1]; rfl) ?_
        refine wp_bind (C_stray hn nP bN k3) (fun r5 h5 => wp_some ⟨fP, ?_⟩)
        rw [eq]
        exact ⟨h5, ⟨k1, k3⟩, zP, xP, gN, bN⟩
      · rw [if_neg c] at eq
        refine wp_f ?_ (wp_some ⟨fP, ?_⟩)
        · rw [kP.2.1]
          unfold kd
          rw [if_neg c]
          by_cases c1 : 97 ≤ t (sk t n q) ∧ t (sk t n q) ≤ 122
          · rw [if_pos c1]
            decide
          · rw [if_neg c1]
            by_cases c2 : 48 ≤ t (sk t n q) ∧ t (sk t n q) ≤ 57
            · rw [if_pos c2]
              decide
            · rw [if_neg c2]
              decide
        · rw [eq]
          exact ⟨kP.1, sk_le qN⟩
