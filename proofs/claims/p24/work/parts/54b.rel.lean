/-! ===== image, back, way, row, field, grow, all: both sides ===== -/
theorem G_image {M : Mem} (h : RS M) : wpO (F_KW_image M) (fun N => wpO (F_MO_image N) RS) := by
  obtain ⟨i, ⟨a1, a2, a3⟩, t⟩ := h
  unfold F_KW_image
  refine wp_bind (wp_q (C_take (b := 14) (o := 1) (M := M) (by omega)) (fun a ha => wpO_of (T_Well_takeFrom 14 1 M) ha)) (fun r1 h1 => wp_some ?_)
  obtain ⟨⟨k1, k2, -, -, -, k6, k7⟩, f⟩ := h1
  have c : ∀ k, ¬ (14 ≤ k ∧ k ≤ 26) → (∀ j, r1.1 k j = M.1 k j) ∧ ∀ j, r1.2 k j = M.2 k j := fun k hk => f k (fun q => hk (by omega))
  have iN : InvR (mSI r1 0 2 1) := by
    have i1 : InvR r1 := i.sm f (fun k q => by first | omega | (dsimp only at q; omega))
    exact i1
  have n95 : (mSI r1 0 2 1).1 95 = M.1 95 := (funext fun j => mI_cell (by decide)).trans (funext (c 95 (by omega)).1)
  have n5 : (mSI r1 0 2 1).1 94 5 = M.1 94 5 := (mI_cell (by decide)).trans ((c 94 (by omega)).1 5)
  have n27 : (mSI r1 0 2 1).1 27 1 = M.1 27 1 := (mI_cell (by decide)).trans ((c 27 (by omega)).1 1)
  have n1 : ∀ j, (mSI r1 0 2 1).1 1 j = M.1 1 j := fun j => (mI_cell (by decide)).trans ((c 1 (by omega)).1 j)
  have n0 : (mSI r1 0 2 1).1 0 2 = 1 := mI_hit
  have n14 : ∀ j, j < 9 → (mSI r1 0 2 1).1 14 j = M.1 1 j := fun j hj => (mI_cell (by decide)).trans (k1 j hj)
  have n3 : ∀ j, (mSI r1 0 2 1).2 3 j = M.2 3 j := (c 3 (by omega)).2
  have n11 : ∀ j, (mSI r1 0 2 1).2 11 j = M.2 11 j := (c 11 (by omega)).2
  have n13 : ∀ j, (mSI r1 0 2 1).2 13 j = M.2 13 j := (c 13 (by omega)).2
  have n16 : ∀ j, j < 18 → (mSI r1 0 2 1).2 16 j = M.2 3 j := k2
  have n24 : ∀ j, j < 6 → (mSI r1 0 2 1).2 24 j = M.2 11 j := k6
  have n26 : ∀ j, j < 6 → (mSI r1 0 2 1).2 26 j = M.2 13 j := k7
  clear k1 k2 k6 k7 f c
  generalize mSI r1 0 2 1 = N at *
  refine wp_mono (wp_q (wp_q (N_image (M := N)) (fun a ha => wpO_of (K_image iN) ha)) (Q_MO_image N)) (fun O hO => ?_)
  obtain ⟨⟨⟨m1, m2, m3, m4⟩, iO⟩, fO⟩ := hO
  have cO : ∀ k j, k ≤ 93 → O.1 k j = N.1 k j ∧ O.2 k j = N.2 k j := fun k j hk => fO k j (by omega)
  have hv := i.1.vilN.2
  refine ⟨iO, ⟨a1.cg hv (fun j _ _ _ => (cO 1 j (by omega)).1.trans (n1 j)) (fun j _ => (cO 3 j (by omega)).2.trans (n3 j)) (fun j _ => (cO 11 j (by omega)).2.trans (n11 j)) (fun j _ => (cO 13 j (by omega)).2.trans (n13 j)) (fun j _ => by rw [m2, n95]), ?_, fun _ => a1.cg hv (fun j hj _ _ => (cO 14 j (by omega)).1.trans (n14 j hj)) (fun j hj => (cO 16 j (by omega)).2.trans (n16 j hj)) (fun j hj => (cO 24 j (by omega)).2.trans (n24 j hj)) (fun j hj => (cO 26 j (by omega)).2.trans (n26 j hj)) (fun j hj => ?_)⟩, ?_⟩
  · rw [(cO 0 2 (by omega)).1, n0, m4]
  · unfold idA at hj
    rw [m1 j (by omega), n95]
  · rw [(cO 27 1 (by omega)).1, n27, m3, n5, t]
theorem G_back {M : Mem} (h : RS M) : wpO (F_KW_back M) (fun r1 => wpO (F_MO_back r1.2) (fun r2 => RS r2.2 ∧ r1.1 = r2.1)) := by
  obtain ⟨i, ⟨a1, a2, a3⟩, t⟩ := h
  unfold F_KW_back
  refine wp_if (fun c0 => wp_some ?_) (fun c0 => ?_)
  · show wpO (F_MO_back M) _
    refine wp_mono (wp_q (N_back (M := M)) (fun a ha => wpO_of (K_back i) ha)) (fun r hr => ?_)
    obtain ⟨hr, iO⟩ := hr
    rcases hr with ⟨-, rfl⟩ | ⟨q, -⟩
    · exact ⟨⟨iO, ⟨a1, a2, a3⟩, t⟩, rfl⟩
    · exact absurd (a2.symm.trans c0) q
  · have c3 : ¬ M.1 94 3 = 0 := fun q => c0 (a2.trans q)
    have hI := i.2.1 c3
    have aI := a3 c3
    refine wp_bind (wp_q (C_take (b := 1) (o := 14) (M := M) (by omega)) (fun a ha => wpO_of (T_Well_takeFrom 1 14 M) ha)) (fun r1 h1 => wp_some ?_)
    obtain ⟨⟨k1, k2, -, -, -, k6, k7⟩, f⟩ := h1
    have c : ∀ k, ¬ (1 ≤ k ∧ k ≤ 13) → (∀ j, r1.1 k j = M.1 k j) ∧ ∀ j, r1.2 k j = M.2 k j := fun k hk => f k (fun q => hk (by omega))
    have iN : InvR r1 := i.sm f (fun k q => by first | omega | (dsimp only at q; omega))
    have n94 := (c 94 (by omega)).1
    have n96 : r1.1 96 = M.1 96 := funext (c 96 (by omega)).1
    show wpO (F_MO_back r1) _
    refine wp_mono (wp_q (wp_q (N_back (M := r1)) (fun a ha => wpO_of (K_back iN) ha)) (Q_MO_back r1)) (fun r hr => ?_)
    obtain ⟨⟨hr, iO⟩, fO⟩ := hr
    rcases hr with ⟨q, -⟩ | ⟨-, q1, q2, q3, q4, q5⟩
    · rw [n94 3] at q
      exact absurd q c3
    · have cO : ∀ k j, k ≤ 93 → r.2.1 k j = r1.1 k j ∧ r.2.2 k j = r1.2 k j := fun k j hk => fO k j (by omega)
      have hv := hI.vilN.2
      refine ⟨⟨iO, ⟨aI.cg hv (fun j hj _ _ => (cO 1 j (by omega)).1.trans (k1 j hj)) (fun j hj => (cO 3 j (by omega)).2.trans (k2 j hj)) (fun j hj => (cO 11 j (by omega)).2.trans (k6 j hj)) (fun j hj => (cO 13 j (by omega)).2.trans (k7 j hj)) (fun j hj => ?_), ?_, fun _ => aI.cg hv (fun j _ _ _ => (cO 14 j (by omega)).1.trans ((c 14 (by omega)).1 j)) (fun j _ => (cO 16 j (by omega)).2.trans ((c 16 (by omega)).2 j)) (fun j _ => (cO 24 j (by omega)).2.trans ((c 24 (by omega)).2 j)) (fun j _ => (cO 26 j (by omega)).2.trans ((c 26 (by omega)).2 j)) (fun j _ => by rw [q3, n96])⟩, ?_⟩, q1.symm⟩
      · unfold idA at hj
        rw [q2 j (by omega), n96]
      · rw [(cO 0 2 (by omega)).1, (c 0 (by omega)).1 2, q5, n94 3, a2]
      · rw [(cO 27 1 (by omega)).1, (c 27 (by omega)).1 1, q4, n94 5, t]
/-! way, row: the class's fields -/
theorem C_way {M : Mem} : wpO (F_KW_way M) (fun r => (∀ E, r.1 = .inl E → E = "java/lang/IllegalArgumentException" ∨ E = "java/lang/UnsupportedOperationException") ∧ (∀ j, j ≠ 6 → r.2.1 1 j = M.1 1 j) ∧ r.2.1 0 2 = M.1 0 2 ∧ r.2.1 27 1 = 0 ∧ Same (fun k => k ≤ 1 ∨ k = 5 ∨ k = 27 ∨ (31 ≤ k ∧ k ≤ 33)) M r.2) := by
  unfold F_KW_way
  refine wp_bind (T_Tape_readWay M) (fun r1 f1 => ?_)
  have e1 : ∀ j, (mSI (mSI r1.2 0 4 r1.1) 27 1 0).1 1 j = M.1 1 j := fun j => by
    rw [mI_cell (by decide), mI_cell (by decide), (f1 1 (by omega)).1]
  have e0 : (mSI (mSI r1.2 0 4 r1.1) 27 1 0).1 0 2 = M.1 0 2 := by
    rw [mI_cell (by decide), mI_ix (by decide), (f1 0 (by omega)).1]
  have e27 : (mSI (mSI r1.2 0 4 r1.1) 27 1 0).1 27 1 = 0 := mI_hit
  have s1 : Same (fun k => k ≤ 1 ∨ k = 5 ∨ k = 27 ∨ (31 ≤ k ∧ k ≤ 33)) M (mSI (mSI r1.2 0 4 r1.1) 27 1 0) := ((f1.mono (fun k hk => by omega)).sI (by omega)).sI (by omega)
  generalize mSI (mSI r1.2 0 4 r1.1) 27 1 0 = N at *
  refine wp_if (fun _ => wp_if (fun _ => ?_) (fun _ => wp_some ⟨fun E q => by cases q; exact Or.inr rfl, fun j _ => e1 j, e0, e27, s1⟩)) (fun _ => wp_some ⟨fun E q => by cases q; exact Or.inl rfl, fun j _ => e1 j, e0, e27, s1⟩)
  refine wp_bind (T_Well_putWay 31 13 (N.1 1 6) N) (fun r2 f2 => wp_some ⟨(fun E q => nomatch q), fun j hj => ?_, ?_, ?_, (s1.trans (f2.mono (fun k hk => by omega))).sI (by omega)⟩)
  · show (mSI r2 1 6 _).1 1 j = _
    rw [mI_ix hj, (f2 1 (by omega)).1, e1]
  · show (mSI r2 1 6 _).1 0 2 = _
    rw [mI_cell (by decide), (f2 0 (by omega)).1, e0]
  · show (mSI r2 1 6 _).1 27 1 = _
    rw [mI_cell (by decide), (f2 27 (by omega)).1, e27]
theorem C_row {M : Mem} : wpO (F_KW_row M) (fun r => (∀ E, r.1 = .inl E → E = "java/lang/IllegalArgumentException") ∧ (∀ j, j ≠ 7 → r.2.1 1 j = M.1 1 j) ∧ r.2.1 27 1 = 0 ∧ Same (fun k => k = 1 ∨ k = 7 ∨ k = 27) M r.2) := by
  have j45 : ∀ (x : Bool) (N : Mem), (∀ j, j ≠ 7 → N.1 1 j = M.1 1 j) → Same (fun k => k = 1 ∨ k = 7 ∨ k = 27) M N → wpO (F_KW_row_j45 x N) (fun r => (∀ E, r.1 = .inl E → E = "java/lang/IllegalArgumentException") ∧ (∀ j, j ≠ 7 → r.2.1 1 j = M.1 1 j) ∧ r.2.1 27 1 = 0 ∧ Same (fun k => k = 1 ∨ k = 7 ∨ k = 27) M r.2) := by
    intro x N h1 s
    have e1 : ∀ j, j ≠ 7 → (mSI N 27 1 0).1 1 j = M.1 1 j := fun j hj => (mI_cell (by decide)).trans (h1 j hj)
    have s2 : Same (fun k => k = 1 ∨ k = 7 ∨ k = 27) M (mSI N 27 1 0) := s.sI (by omega)
    unfold F_KW_row_j45
    exact wp_if (fun _ => wp_some ⟨fun E q => (nomatch q), e1, mI_hit, s2⟩) (fun _ => wp_some ⟨fun E q => by cases q; rfl, e1, mI_hit, s2⟩)
  unfold F_KW_row
  refine wp_bind (T_Tape_isRowOfDays M) (fun r1 _ => ?_)
  refine wp_if (fun _ => ?_) (fun _ => j45 _ _ (fun _ _ => rfl) Same.rfl')
  refine wp_bind (T_Row_takeFrom 7 400 29 400 M) (fun r2 f2 => j45 _ _ (fun j hj => ?_) ((f2.mono (fun k hk => by omega)).sI (by omega)))
  rw [mI_ix hj, (f2 1 (by omega)).1]
/-- a call of the class that wrote what RS doesn't speak of, and the tape's length -/
theorem RS.mid {S : Nat → Prop} {M N : Mem} (h : RS M) (f : Same S M N) (e1 : ∀ j, j < 9 → j ≠ 6 → j ≠ 7 → N.1 1 j = M.1 1 j) (e0 : N.1 0 2 = M.1 0 2) (hs : ∀ k, S k → ¬ (k = 3 ∨ k = 11 ∨ k = 13 ∨ k = 14 ∨ k = 16 ∨ k = 24 ∨ k = 26 ∨ k = 94 ∨ k = 95 ∨ k = 96)) : InvR N ∧ RelA N := by
  obtain ⟨i, a, t⟩ := h
  have e94 := f 94 (fun q => hs _ q (by omega))
  refine ⟨i.sm f (fun k q => by have := hs k q; omega), a.cg i ⟨e1, e0, fun j _ => (f 3 (fun q => hs _ q (by omega))).2 j, fun j _ => (f 11 (fun q => hs _ q (by omega))).2 j, fun j _ => (f 13 (fun q => hs _ q (by omega))).2 j, (f 14 (fun q => hs _ q (by omega))).1, (f 16 (fun q => hs _ q (by omega))).2, (f 24 (fun q => hs _ q (by omega))).2, (f 26 (fun q => hs _ q (by omega))).2⟩ (fun j _ => (f 95 (fun q => hs _ q (by omega))).1 j) (f 96 (fun q => hs _ q (by omega))).1 (e94.1 3)⟩
theorem G_way {M : Mem} (h : RS M) : wpO (F_LAW_way M) (fun r1 => wpO (F_MO_way r1.2) (fun r2 => RS r2.2)) := by
  have fin : ∀ N : Mem, InvR N → RelA N → N.1 27 1 = 0 → wpO (F_MO_way N) (fun r2 => RS r2.2) := by
    intro N iN aN tN
    refine wp_mono (wp_q (K_wayS iN) (Q_MO_way N)) (fun r hr => ?_)
    obtain ⟨⟨iO, w, r5⟩, f⟩ := hr
    exact ⟨iO, aN.cg iN (f.eqS (fun k j q => by first | omega | (dsimp only at q; omega))) (fun j hj => w j hj.1 (by unfold idA at hj; omega)) (fun j => (f 96 j (by omega)).1) (f 94 3 (by omega)).1, by rw [(f 27 1 (by omega)).1, tN, r5]⟩
  obtain ⟨⟨r, N⟩, e, c1, c2, c3, c4, c5⟩ := C_way (M := M)
  dsimp only at c1 c2 c3 c4 c5
  obtain ⟨iN, aN⟩ := h.mid c5 (fun j _ j6 _ => c2 j j6) c3 (fun k q => by first | omega | (dsimp only at q; omega))
  unfold F_LAW_way
  rw [e]
  cases r with
  | inl E =>
    rw [hb_inl]
    rcases c1 E rfl with rfl | rfl
    · exact wp_t rfl (wp_some (fin N iN aN c4))
    · exact wp_f (by decide) (wp_t rfl (wp_some (fin N iN aN c4)))
  | inr v =>
    rw [hb_inr]
    refine wp_t ib01 (wp_some (fin _ iN aN c4))
theorem G_row {M : Mem} (h : RS M) : wpO (F_LAW_row M) (fun r1 => wpO (F_MO_row r1.2) (fun r2 => RS r2.2)) := by
  have fin : ∀ N : Mem, InvR N → RelA N → N.1 27 1 = 0 → wpO (F_MO_row N) (fun r2 => RS r2.2) := by
    intro N iN aN tN
    refine wp_mono (wp_q (K_rowS iN) (Q_MO_row N)) (fun r hr => ?_)
    obtain ⟨⟨iO, w, r5⟩, f⟩ := hr
    exact ⟨iO, aN.cg iN (f.eqS (fun k j q => by first | omega | (dsimp only at q; omega))) (fun j hj => w j hj.2.1 (by unfold idA at hj; omega)) (fun j => (f 96 j (by omega)).1) (f 94 3 (by omega)).1, by rw [(f 27 1 (by omega)).1, tN, r5]⟩
  obtain ⟨⟨r, N⟩, e, c1, c2, c4, c5⟩ := C_row (M := M)
  dsimp only at c1 c2 c4 c5
  obtain ⟨iN, aN⟩ := h.mid c5 (fun j _ _ j7 => c2 j j7) ((c5 0 (by omega)).1 2) (fun k q => by first | omega | (dsimp only at q; omega))
  unfold F_LAW_row
  rw [e]
  cases r with
  | inl E =>
    rw [hb_inl]
    have := c1 E rfl
    subst this
    exact wp_t rfl (wp_some (fin N iN aN c4))
  | inr v =>
    rw [hb_inr]
    refine wp_t ib01 (wp_some (fin _ iN aN c4))
theorem G_field {x y : Int32} {M : Mem} (h : RS M) : wpO (F_LAW_field x y M) (fun r1 => wpO (F_MO_field x y r1.2) RS) := by
  refine wp_mono (T_LAW_field x y M) (fun r1 f1 => ?_)
  have h1 := h.c f1 (fun k q => by first | omega | (dsimp only at q; omega))
  refine wp_mono (wp_q (K_fieldS h1.1) (Q_MO_field x y r1.2)) (fun O hO => ?_)
  obtain ⟨⟨iO, w⟩, f⟩ := hO
  exact h1.rw iO f (fun k j q => by first | omega | (dsimp only at q; omega)) (fun j hj => w j (by unfold idA at hj; omega))
theorem G_grow {x : Int32} {M : Mem} (h : RS M) : wpO (F_LAW_grow x M) (fun r1 => wpO (F_MO_grow x r1.2) (fun r2 => RS r2.2)) := by
  refine wp_mono (T_LAW_grow x M) (fun r1 f1 => ?_)
  have h1 := h.c f1 (fun k q => by first | omega | (dsimp only at q; omega))
  refine wp_mono (wp_q (wp_q (E_growS (x := x) h1.1.1) (fun a ha => wpO_of (K_grow h1.1) ha)) (Q_MO_grow x r1.2)) (fun r hr => ?_)
  obtain ⟨⟨⟨-, w⟩, iO⟩, f⟩ := hr
  exact h1.rw iO f (fun k j q => by first | omega | (dsimp only at q; omega)) (fun j hj => w j (by unfold idA at hj; omega))
theorem G_all {x y : Int32} {M : Mem} (h : RS M) : wpO (F_LAW_all x y M) (fun r1 => wpO (F_MO_all x y r1.2) (fun r2 => RS r2.2)) := by
  refine wp_mono (T_LAW_all x y M) (fun r1 f1 => ?_)
  have h1 := h.c f1 (fun k q => by first | omega | (dsimp only at q; omega))
  refine wp_mono (wp_q (wp_q (E_allS (x := x) (y := y) h1.1.1) (fun a ha => wpO_of (K_all h1.1) ha)) (Q_MO_all x y r1.2)) (fun r hr => ?_)
  obtain ⟨⟨⟨-, w⟩, iO⟩, f⟩ := hr
  exact h1.rw iO f (fun k j q => by first | omega | (dsimp only at q; omega)) (fun j hj => w j (by unfold idA at hj; omega))
theorem G_fault {M : Mem} (h : RS M) : wpO (F_KW_fault M) (fun _ => wpO (F_MO_fault M) (fun r2 => RS r2.2)) := by
  unfold F_KW_fault
  refine wp_some (wp_mono (wp_q (K_fault h.1) (Q_MO_fault M)) (fun r hr => h.r hr.1 hr.2 (fun k j q => by first | omega | (dsimp only at q; omega))))
theorem G_once {M : Mem} (h : RS M) : wpO (F_KW_once M) (fun _ => wpO (F_MO_once M) (fun r2 => RS r2.2)) := by
  refine wp_mono (T_KW_once M) (fun r1 _ => ?_)
  exact wp_mono (wp_q (K_once h.1) (Q_MO_once M)) (fun r hr => h.r hr.1 hr.2 (fun k j q => by first | omega | (dsimp only at q; omega)))
theorem G_mood {x1 x2 x3 : Int32} {M : Mem} (h : RS M) : wpO (F_LAW_mood x1 x2 x3 M) (fun r1 => wpO (F_MO_mood x1 x2 x3 r1.2) (fun r2 => RS r2.2)) := by
  refine wp_mono (T_LAW_mood x1 x2 x3 M) (fun r1 f1 => ?_)
  have h1 := h.c f1 (fun k q => by first | omega | exact q.elim | (dsimp only at q; omega))
  exact wp_mono (wp_q (K_mood h1.1) (Q_MO_mood x1 x2 x3 r1.2)) (fun r hr => h1.r hr.1 hr.2 (fun k j q => by first | omega | (dsimp only at q; omega)))
theorem G_worth {x1 x2 x3 x4 x5 x6 : Int32} {M : Mem} (h : RS M) : wpO (F_LAW_worth x1 x2 x3 x4 x5 x6 M) (fun r1 => wpO (F_MO_worth x1 x2 x3 x4 x5 x6 r1.2) (fun r2 => RS r2.2)) := by
  refine wp_mono (T_LAW_worth x1 x2 x3 x4 x5 x6 M) (fun r1 f1 => ?_)
  have h1 := h.c f1 (fun k q => by first | omega | exact q.elim | (dsimp only at q; omega))
  exact wp_mono (wp_q (K_worth h1.1) (Q_MO_worth x1 x2 x3 x4 x5 x6 r1.2)) (fun r hr => h1.r hr.1 hr.2 (fun k j q => by first | omega | (dsimp only at q; omega)))
theorem G_hold {x1 x2 : Int32} {M : Mem} (h : RS M) : wpO (F_LAW_hold x1 x2 M) (fun r1 => wpO (F_MO_hold x1 x2 r1.2) (fun r2 => RS r2.2)) := by
  refine wp_mono (T_LAW_hold x1 x2 M) (fun r1 f1 => ?_)
  have h1 := h.c f1 (fun k q => by first | omega | exact q.elim | (dsimp only at q; omega))
  exact wp_mono (wp_q (K_hold h1.1) (Q_MO_hold x1 x2 r1.2)) (fun r hr => h1.r hr.1 hr.2 (fun k j q => by first | omega | (dsimp only at q; omega)))
theorem G_first {x1 x2 : Int32} {M : Mem} (h : RS M) : wpO (F_LAW_first x1 x2 M) (fun r1 => wpO (F_MO_first x1 x2 r1.2) (fun r2 => RS r2.2)) := by
  refine wp_mono (T_LAW_first x1 x2 M) (fun r1 f1 => ?_)
  have h1 := h.c f1 (fun k q => by first | omega | exact q.elim | (dsimp only at q; omega))
  exact wp_mono (wp_q (K_first h1.1) (Q_MO_first x1 x2 r1.2)) (fun r hr => h1.r hr.1 hr.2 (fun k j q => by first | omega | (dsimp only at q; omega)))
theorem G_best {x1 x2 x3 : Int32} {M : Mem} (h : RS M) : wpO (F_LAW_best x1 x2 x3 M) (fun r1 => wpO (F_MO_best x1 x2 x3 r1.2) (fun r2 => RS r2.2)) := by
  refine wp_mono (T_LAW_best x1 x2 x3 M) (fun r1 f1 => ?_)
  have h1 := h.c f1 (fun k q => by first | omega | exact q.elim | (dsimp only at q; omega))
  exact wp_mono (wp_q (K_best h1.1) (Q_MO_best x1 x2 x3 r1.2)) (fun r hr => h1.r hr.1 hr.2 (fun k j q => by first | omega | (dsimp only at q; omega)))
theorem G_answer {x1 x2 x3 x4 : Int32} {M : Mem} (h : RS M) : wpO (F_LAW_answer x1 x2 x3 x4 M) (fun r1 => wpO (F_MO_answer x1 x2 x3 x4 r1.2) (fun r2 => RS r2.2)) := by
  refine wp_mono (T_LAW_answer x1 x2 x3 x4 M) (fun r1 f1 => ?_)
  have h1 := h.c f1 (fun k q => by first | omega | exact q.elim | (dsimp only at q; omega))
  exact wp_mono (wp_q (K_answer h1.1) (Q_MO_answer x1 x2 x3 x4 r1.2)) (fun r hr => h1.r hr.1 hr.2 (fun k j q => by first | omega | (dsimp only at q; omega)))
theorem G_least {x1 x2 : Int32} {M : Mem} (h : RS M) : wpO (F_LAW_least x1 x2 M) (fun r1 => wpO (F_MO_least x1 x2 r1.2) (fun r2 => RS r2.2)) := by
  refine wp_mono (T_LAW_least x1 x2 M) (fun r1 f1 => ?_)
  have h1 := h.c f1 (fun k q => by first | omega | exact q.elim | (dsimp only at q; omega))
  exact wp_mono (wp_q (K_least h1.1) (Q_MO_least x1 x2 r1.2)) (fun r hr => h1.r hr.1 hr.2 (fun k j q => by first | omega | (dsimp only at q; omega)))
theorem G_lots {x1 x2 : Int32} {M : Mem} (h : RS M) : wpO (F_LAW_lots x1 x2 M) (fun r1 => wpO (F_MO_lots x1 x2 r1.2) (fun r2 => RS r2.2)) := by
  refine wp_mono (T_LAW_lots x1 x2 M) (fun r1 f1 => ?_)
  have h1 := h.c f1 (fun k q => by first | omega | exact q.elim | (dsimp only at q; omega))
  exact wp_mono (wp_q (K_lots h1.1) (Q_MO_lots x1 x2 r1.2)) (fun r hr => h1.r hr.1 hr.2 (fun k j q => by first | omega | (dsimp only at q; omega)))
theorem G_corner {x1 x2 : Int32} {M : Mem} (h : RS M) : wpO (F_KW_corner x1 x2 M) (fun r1 => wpO (F_MO_corner x1 x2 r1.2) (fun r2 => RS r2.2)) := by
  refine wp_mono (T_KW_corner x1 x2 M) (fun r1 f1 => ?_)
  have h1 := h.c f1 (fun k q => by first | omega | exact q.elim | (dsimp only at q; omega))
  exact wp_mono (wp_q (K_corner h1.1) (Q_MO_corner x1 x2 r1.2)) (fun r hr => h1.r hr.1 hr.2 (fun k j q => by first | omega | (dsimp only at q; omega)))
theorem G_in {x1 x2 x3 x4 : Int32} {M : Mem} (h : RS M) : wpO (F_LAW_in x1 x2 x3 x4 M) (fun r1 => wpO (F_MO_in x1 x2 x3 x4 r1.2) (fun r2 => RS r2.2)) := by
  refine wp_mono (T_LAW_in x1 x2 x3 x4 M) (fun r1 f1 => ?_)
  have h1 := h.c f1 (fun k q => by first | omega | exact q.elim | (dsimp only at q; omega))
  exact wp_mono (wp_q (K_in h1.1) (Q_MO_in x1 x2 x3 x4 r1.2)) (fun r hr => h1.r hr.1 hr.2 (fun k j q => by first | omega | (dsimp only at q; omega)))
theorem G_mild {x1 x2 x3 x4 : Int32} {M : Mem} (h : RS M) : wpO (F_LAW_mild x1 x2 x3 x4 M) (fun r1 => wpO (F_MO_mild x1 x2 x3 x4 r1.2) (fun r2 => RS r2.2)) := by
  refine wp_mono (T_LAW_mild x1 x2 x3 x4 M) (fun r1 f1 => ?_)
  have h1 := h.c f1 (fun k q => by first | omega | exact q.elim | (dsimp only at q; omega))
  exact wp_mono (wp_q (K_mild h1.1) (Q_MO_mild x1 x2 x3 x4 r1.2)) (fun r hr => h1.r hr.1 hr.2 (fun k j q => by first | omega | (dsimp only at q; omega)))
theorem G_edge {x1 x2 x3 : Int32} {M : Mem} (h : RS M) : wpO (F_LAW_edge x1 x2 x3 M) (fun r1 => wpO (F_MO_edge x1 x2 x3 r1.2) (fun r2 => RS r2.2)) := by
  refine wp_mono (T_LAW_edge x1 x2 x3 M) (fun r1 f1 => ?_)
  have h1 := h.c f1 (fun k q => by first | omega | exact q.elim | (dsimp only at q; omega))
  exact wp_mono (wp_q (K_edge h1.1) (Q_MO_edge x1 x2 x3 r1.2)) (fun r hr => h1.r hr.1 hr.2 (fun k j q => by first | omega | (dsimp only at q; omega)))
theorem G_together {M : Mem} (h : RS M) : wpO (F_KW_together M) (fun r1 => wpO (F_MO_together r1.2) (fun r2 => RS r2.2)) := by
  refine wp_mono (T_KW_together M) (fun r1 f1 => ?_)
  have h1 := h.c f1 (fun k q => by first | omega | exact q.elim | (dsimp only at q; omega))
  exact wp_mono (wp_q (K_together h1.1) (Q_MO_together r1.2)) (fun r hr => h1.r hr.1 hr.2 (fun k j q => by first | omega | (dsimp only at q; omega)))
theorem G_doubt {x1 x2 x3 x4 x5 : Int32} {M : Mem} (h : RS M) : wpO (F_LAW_doubt x1 x2 x3 x4 x5 M) (fun r1 => wpO (F_MO_doubt x1 x2 x3 x4 x5 r1.2) (fun r2 => RS r2.2)) := by
  refine wp_mono (T_LAW_doubt x1 x2 x3 x4 x5 M) (fun r1 f1 => ?_)
  have h1 := h.c f1 (fun k q => by first | omega | exact q.elim | (dsimp only at q; omega))
  exact wp_mono (wp_q (K_doubt h1.1) (Q_MO_doubt x1 x2 x3 x4 x5 r1.2)) (fun r hr => h1.r hr.1 hr.2 (fun k j q => by first | omega | (dsimp only at q; omega)))
theorem G_judge {x1 x2 : Int32} {M : Mem} (h : RS M) : wpO (F_LAW_judge x1 x2 M) (fun r1 => wpO (F_MO_judge x1 x2 r1.2) (fun r2 => RS r2.2)) := by
  refine wp_mono (T_LAW_judge x1 x2 M) (fun r1 f1 => ?_)
  have h1 := h.c f1 (fun k q => by first | omega | exact q.elim | (dsimp only at q; omega))
  exact wp_mono (wp_q (K_judge h1.1) (Q_MO_judge x1 x2 r1.2)) (fun r hr => h1.r hr.1 hr.2 (fun k j q => by first | omega | (dsimp only at q; omega)))
theorem G_brought {x1 : Int32} {M : Mem} (h : RS M) : wpO (F_LAW_brought x1 M) (fun r1 => wpO (F_MO_brought x1 r1.2) (fun r2 => RS r2.2)) := by
  refine wp_mono (T_LAW_brought x1 M) (fun r1 f1 => ?_)
  have h1 := h.c f1 (fun k q => by first | omega | exact q.elim | (dsimp only at q; omega))
  exact wp_mono (wp_q (K_brought h1.1) (Q_MO_brought x1 r1.2)) (fun r hr => h1.r hr.1 hr.2 (fun k j q => by first | omega | (dsimp only at q; omega)))
theorem G_drawn {x1 x2 x3 x4 x5 : Int32} {M : Mem} (h : RS M) : wpO (F_LAW_drawn x1 x2 x3 x4 x5 M) (fun r1 => wpO (F_MO_drawn x1 x2 x3 x4 x5 r1.2) (fun r2 => RS r2.2)) := by
  refine wp_mono (T_LAW_drawn x1 x2 x3 x4 x5 M) (fun r1 f1 => ?_)
  have h1 := h.c f1 (fun k q => by first | omega | exact q.elim | (dsimp only at q; omega))
  exact wp_mono (wp_q (K_drawn h1.1) (Q_MO_drawn x1 x2 x3 x4 x5 r1.2)) (fun r hr => h1.r hr.1 hr.2 (fun k j q => by first | omega | (dsimp only at q; omega)))
theorem G_meet {x1 x2 : Int32} {M : Mem} (h : RS M) : wpO (F_LAW_meet x1 x2 M) (fun r1 => wpO (F_MO_meet x1 x2 r1.2) (fun r2 => RS r2.2)) := by
  refine wp_mono (T_LAW_meet x1 x2 M) (fun r1 f1 => ?_)
  have h1 := h.c f1 (fun k q => by first | omega | exact q.elim | (dsimp only at q; omega))
  exact wp_mono (wp_q (K_meet h1.1) (Q_MO_meet x1 x2 r1.2)) (fun r hr => h1.r hr.1 hr.2 (fun k j q => by first | omega | (dsimp only at q; omega)))
theorem G_beings {x1 : Int32} {M : Mem} (h : RS M) : wpO (F_LAW_beings x1 M) (fun r1 => wpO (F_MO_beings x1 r1.2) (fun r2 => RS r2.2)) := by
  refine wp_mono (T_LAW_beings x1 M) (fun r1 f1 => ?_)
  have h1 := h.c f1 (fun k q => by first | omega | exact q.elim | (dsimp only at q; omega))
  exact wp_mono (wp_q (K_beings h1.1) (Q_MO_beings x1 r1.2)) (fun r hr => h1.r hr.1 hr.2 (fun k j q => by first | omega | (dsimp only at q; omega)))
theorem G_stays {x1 : Int32} {M : Mem} (h : RS M) : wpO (F_LAW_stays x1 M) (fun r1 => wpO (F_MO_stays x1 r1.2) (fun r2 => RS r2.2)) := by
  refine wp_mono (T_LAW_stays x1 M) (fun r1 f1 => ?_)
  have h1 := h.c f1 (fun k q => by first | omega | exact q.elim | (dsimp only at q; omega))
  exact wp_mono (wp_q (K_stays h1.1) (Q_MO_stays x1 r1.2)) (fun r hr => h1.r hr.1 hr.2 (fun k j q => by first | omega | (dsimp only at q; omega)))
theorem G_begin {x1 x2 : Int32} {M : Mem} (h : RS M) : wpO (F_LAW_begin x1 x2 M) (fun r1 => wpO (F_MO_begin x1 x2 r1.2) (fun r2 => RS r2.2)) := by
  refine wp_mono (T_LAW_begin x1 x2 M) (fun r1 f1 => ?_)
  have h1 := h.c f1 (fun k q => by first | omega | exact q.elim | (dsimp only at q; omega))
  exact wp_mono (wp_q (K_begin h1.1) (Q_MO_begin x1 x2 r1.2)) (fun r hr => h1.r hr.1 hr.2 (fun k j q => by first | omega | (dsimp only at q; omega)))
theorem G_villageEdge {x1 x2 : Int32} {M : Mem} (h : RS M) : wpO (F_LAW_villageEdge x1 x2 M) (fun r1 => wpO (F_MO_villageEdge x1 x2 r1.2) (fun r2 => RS r2.2)) := by
  refine wp_mono (T_LAW_villageEdge x1 x2 M) (fun r1 f1 => ?_)
  have h1 := h.c f1 (fun k q => by first | omega | exact q.elim | (dsimp only at q; omega))
  exact wp_mono (wp_q (K_villageEdge h1.1) (Q_MO_villageEdge x1 x2 r1.2)) (fun r hr => h1.r hr.1 hr.2 (fun k j q => by first | omega | (dsimp only at q; omega)))
theorem G_village {x1 : Int32} {M : Mem} (h : RS M) : wpO (F_LAW_village x1 M) (fun r1 => wpO (F_MO_village x1 r1.2) (fun r2 => RS r2.2)) := by
  refine wp_mono (T_LAW_village x1 M) (fun r1 f1 => ?_)
  have h1 := h.c f1 (fun k q => by first | omega | exact q.elim | (dsimp only at q; omega))
  exact wp_mono (wp_q (K_village h1.1) (Q_MO_village x1 r1.2)) (fun r hr => h1.r hr.1 hr.2 (fun k j q => by first | omega | (dsimp only at q; omega)))
theorem G_count {x1 : Int32} {M : Mem} (h : RS M) : wpO (F_KW_count x1 M) (fun r1 => wpO (F_MO_count x1 r1.2) (fun r2 => RS r2.2)) := by
  refine wp_mono (T_KW_count x1 M) (fun r1 f1 => ?_)
  have h1 := h.c f1 (fun k q => by first | omega | exact q.elim | (dsimp only at q; omega))
  exact wp_mono (wp_q (K_count h1.1) (Q_MO_count x1 r1.2)) (fun r hr => h1.r hr.1 hr.2 (fun k j q => by first | omega | (dsimp only at q; omega)))
