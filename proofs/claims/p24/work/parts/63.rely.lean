/-! ===== the relation goes on: ways, the row of days, the tape's bytes, the latest fault ===== -/
def idY (j : Nat) : Prop := j = 5 ∨ j = 7 ∨ (27 ≤ j ∧ j < 131) ∨ (152 ≤ j ∧ j < 552)
def wyR (T : Nat → Int64) (W : Nat → Int32) (w : Nat) : Prop := T (13 * w) = (W (27 + 13 * w)).toInt64 ∧ ∀ m : Nat, (m : Int) < (W (27 + 13 * w)).toInt → T (13 * w + 1 + 4 * m) = (W (28 + 13 * w + m)).toInt64 ∧ ∀ s : Nat, s < 3 → T (13 * w + 2 + 4 * m + s) = (W (31 + 13 * w + 3 * m + s)).toInt64
def relY (F : Nat → Int32) (T D : Nat → Int64) (W : Nat → Int32) : Prop := F 6 = W 5 ∧ F 7 = W 7 ∧ (∀ w : Nat, (w : Int) < (W 5).toInt → wyR T W w) ∧ ∀ j : Nat, (j : Int) < 2 * (W 7).toInt → D j = (W (152 + j)).toInt64
theorem wyR.cg {T T' : Nat → Int64} {W W' : Nat → Int32} {w : Nat} (h : wyR T W w) (hw : w < 8) (hm : (W (27 + 13 * w)).toInt ≤ 3) (hT : ∀ j, j < 104 → T' j = T j) (hW : ∀ j, 27 ≤ j → j < 131 → W' j = W j) : wyR T' W' w := by
  obtain ⟨h1, h2⟩ := h
  have e := hW (27 + 13 * w) (by omega) (by omega)
  refine ⟨by rw [hT _ (by omega), e, h1], fun m hk => ?_⟩
  rw [e] at hk
  obtain ⟨h3, h4⟩ := h2 m hk
  refine ⟨by rw [hT _ (by omega), hW _ (by omega) (by omega), h3], fun s hs => ?_⟩
  rw [hT _ (by omega), hW _ (by omega) (by omega), h4 s hs]
theorem relY.cg {F F' : Nat → Int32} {T T' D D' : Nat → Int64} {W W' : Nat → Int32} (h : relY F T D W) (r : RIW W) (f6 : F' 6 = F 6) (f7 : F' 7 = F 7) (hT : ∀ j, j < 104 → T' j = T j) (hD : ∀ j, j < 400 → D' j = D j) (hW : ∀ j, idY j → W' j = W j) : relY F' T' D' W' := by
  obtain ⟨h1, h2, h3, h4⟩ := h
  have e5 := hW 5 (by unfold idY; omega)
  have e7 := hW 7 (by unfold idY; omega)
  have w5 := r.ways
  have w7 := r.rowN
  refine ⟨by rw [f6, e5, h1], by rw [f7, e7, h2], fun w hw => ?_, fun j hj => ?_⟩
  · rw [e5] at hw
    exact (h3 w hw).cg (by omega) (r.way w hw).2.1 hT (fun j a b => hW j (by unfold idY; omega))
  · rw [e7] at hj
    rw [hD j (by omega), hW _ (by unfold idY; omega), h4 j hj]
def RelT (M : Mem) : Prop := M.1 0 4 = M.1 94 9 ∧ ∀ j : Nat, (j : Int) < (M.1 94 5).toInt → M.2 29 j = lI ((M.1 97 j).toInt % 256) ∧ -128 ≤ (M.1 97 j).toInt ∧ (M.1 97 j).toInt ≤ 127
def RelY (M : Mem) : Prop := relY (M.1 1) (M.2 5) (M.2 7) (M.1 95) ∧ (¬ M.1 94 3 = 0 → relY (M.1 14) (M.2 18) (M.2 20) (M.1 96)) ∧ RelT M
def RY (M : Mem) : Prop := RS M ∧ RelY M
/-- the class's cells of this relation are the same; the reference's -/
def eqY (M N : Mem) : Prop := (N.1 1 6 = M.1 1 6 ∧ N.1 1 7 = M.1 1 7) ∧ (∀ j, j < 104 → N.2 5 j = M.2 5 j) ∧ (∀ j, j < 400 → N.2 7 j = M.2 7 j) ∧ (N.1 14 6 = M.1 14 6 ∧ N.1 14 7 = M.1 14 7) ∧ (∀ j, j < 104 → N.2 18 j = M.2 18 j) ∧ (∀ j, j < 400 → N.2 20 j = M.2 20 j) ∧ N.1 0 4 = M.1 0 4 ∧ ∀ j, N.2 29 j = M.2 29 j
def rfY (M N : Mem) : Prop := (∀ j, idY j → N.1 95 j = M.1 95 j) ∧ (∀ j, N.1 96 j = M.1 96 j) ∧ N.1 94 3 = M.1 94 3 ∧ N.1 94 5 = M.1 94 5 ∧ N.1 94 9 = M.1 94 9 ∧ ∀ j, N.1 97 j = M.1 97 j
theorem eqY.rf {M : Mem} : eqY M M := ⟨⟨rfl, rfl⟩, fun _ _ => rfl, fun _ _ => rfl, ⟨rfl, rfl⟩, fun _ _ => rfl, fun _ _ => rfl, rfl, fun _ => rfl⟩
theorem rfY.rf {M : Mem} : rfY M M := ⟨fun _ _ => rfl, fun _ => rfl, rfl, rfl, rfl, fun _ => rfl⟩
theorem RelT.cg {M N : Mem} (h : RelT M) (e4 : N.1 0 4 = M.1 0 4) (e9 : N.1 94 9 = M.1 94 9) (e5 : (N.1 94 5).toInt ≤ (M.1 94 5).toInt) (e29 : ∀ j, N.2 29 j = M.2 29 j) (e97 : ∀ j, N.1 97 j = M.1 97 j) : RelT N := by
  refine ⟨by rw [e4, e9]; exact h.1, fun j hj => ?_⟩
  rw [e29, e97]
  exact h.2 j (by omega)
theorem RelY.cg {M N : Mem} (h : RelY M) (i : InvR M) (e : eqY M N) (r : rfY M N) : RelY N := by
  obtain ⟨h1, h2, h3⟩ := h
  obtain ⟨⟨e1, e2⟩, e3, e4, ⟨e5, e6⟩, e7, e8, e9, e10⟩ := e
  obtain ⟨r1, r2, r3, r4, r5, r6⟩ := r
  refine ⟨h1.cg i.1 e1 e2 e3 e4 r1, fun q => ?_, h3.cg e9 r5 (by rw [r4]; exact Int.le_refl _) e10 r6⟩
  rw [r3] at q
  exact (h2 q).cg (i.2.1 q) e5 e6 e7 e8 (fun j _ => r2 j)
theorem Same.eqY {S : Nat → Prop} {M N : Mem} (f : Same S M N) (hs : ∀ k, S k → ¬ (k = 0 ∨ k = 1 ∨ k = 5 ∨ k = 7 ∨ k = 14 ∨ k = 18 ∨ k = 20 ∨ k = 29)) : eqY M N :=
  ⟨⟨(f 1 (fun q => hs _ q (by omega))).1 6, (f 1 (fun q => hs _ q (by omega))).1 7⟩, fun j _ => (f 5 (fun q => hs _ q (by omega))).2 j, fun j _ => (f 7 (fun q => hs _ q (by omega))).2 j, ⟨(f 14 (fun q => hs _ q (by omega))).1 6, (f 14 (fun q => hs _ q (by omega))).1 7⟩, fun j _ => (f 18 (fun q => hs _ q (by omega))).2 j, fun j _ => (f 20 (fun q => hs _ q (by omega))).2 j, (f 0 (fun q => hs _ q (by omega))).1 4, (f 29 (fun q => hs _ q (by omega))).2⟩
theorem Same.rfY {S : Nat → Prop} {M N : Mem} (f : Same S M N) (hs : ∀ k, S k → ¬ (94 ≤ k ∧ k ≤ 97)) : rfY M N :=
  ⟨fun j _ => (f 95 (fun q => hs _ q (by omega))).1 j, (f 96 (fun q => hs _ q (by omega))).1, (f 94 (fun q => hs _ q (by omega))).1 3, (f 94 (fun q => hs _ q (by omega))).1 5, (f 94 (fun q => hs _ q (by omega))).1 9, (f 97 (fun q => hs _ q (by omega))).1⟩
theorem Frm.eqY {S : Nat → Nat → Prop} {M N : Mem} (f : Frm S M N) (hs : ∀ k j, S k j → ¬ k ≤ 93) : eqY M N :=
  ⟨⟨(f 1 6 (fun q => hs _ _ q (by omega))).1, (f 1 7 (fun q => hs _ _ q (by omega))).1⟩, fun j _ => (f 5 j (fun q => hs _ _ q (by omega))).2, fun j _ => (f 7 j (fun q => hs _ _ q (by omega))).2, ⟨(f 14 6 (fun q => hs _ _ q (by omega))).1, (f 14 7 (fun q => hs _ _ q (by omega))).1⟩, fun j _ => (f 18 j (fun q => hs _ _ q (by omega))).2, fun j _ => (f 20 j (fun q => hs _ _ q (by omega))).2, (f 0 4 (fun q => hs _ _ q (by omega))).1, fun j => (f 29 j (fun q => hs _ _ q (by omega))).2⟩
theorem Frm.rfY {S : Nat → Nat → Prop} {M N : Mem} (f : Frm S M N) (hs : ∀ k j, S k j → ¬ (k = 96 ∨ k = 97 ∨ (k = 94 ∧ (j = 3 ∨ j = 5 ∨ j = 9)))) (hW : ∀ j, idY j → N.1 95 j = M.1 95 j) : rfY M N :=
  ⟨hW, fun j => (f 96 j (fun q => hs _ _ q (by omega))).1, (f 94 3 (fun q => hs _ _ q (by omega))).1, (f 94 5 (fun q => hs _ _ q (by omega))).1, (f 94 9 (fun q => hs _ _ q (by omega))).1, fun j => (f 97 j (fun q => hs _ _ q (by omega))).1⟩
/-- a call that tells nothing, on both sides -/
theorem RY.rd {S : Nat → Prop} {S' : Nat → Nat → Prop} {M N O : Mem} (h : RY M) (f : Same S M N) (g : Frm S' N O) (hs : ∀ k, S k → ¬ (k = 0 ∨ k = 1 ∨ k = 5 ∨ k = 7 ∨ k = 14 ∨ k = 18 ∨ k = 20 ∨ k = 29 ∨ (94 ≤ k ∧ k ≤ 97))) (hs' : ∀ k j, S' k j → ¬ (k ≤ 93 ∨ k = 95 ∨ k = 96 ∨ k = 97 ∨ (k = 94 ∧ (j = 3 ∨ j = 5 ∨ j = 9)))) : RelY O := by
  have iN : InvR N := h.1.1.sm f (fun k q => by have := hs k q; omega)
  refine (h.2.cg h.1.1 (f.eqY (fun k q => by have := hs k q; omega)) (f.rfY (fun k q => by have := hs k q; omega))).cg iN (g.eqY (fun k j q => by have := hs' k j q; omega)) (g.rfY (fun k j q => by have := hs' k j q; omega) (fun j _ => (g 95 j (fun q => by have := hs' _ _ q; omega)).1))
theorem wp2 {α β : Type} {X : Option α} {Y : α → Option β} {A B C : α → β → Prop} (h : wpO X (fun a => wpO (Y a) (A a))) (h2 : ∀ a b, X = some a → Y a = some b → B a b) (hm : ∀ a b, A a b → B a b → C a b) : wpO X (fun a => wpO (Y a) (C a)) := by
  obtain ⟨a, e, b, e2, hA⟩ := h
  exact ⟨a, e, b, e2, hm a b hA (h2 a b e e2)⟩
/-! the calls that tell something -/
theorem Y_acts {n : Int32} {M : Mem} (h : RY M) : wpO (F_LAW_acts n M) (fun r1 => wpO (F_MO_acts n r1.2) (fun O => RY O ∧ O.1 94 0 = r1.1)) := by
  refine wp2 (B := fun _ O => RelY O) (G_acts h.1) (fun a b e e2 => ?_) (fun a b p q => ⟨⟨p.1, q⟩, p.2⟩)
  rcases P_acts n M with ⟨h1, -, h3⟩ | ⟨h1, h3⟩
  · rw [h1] at e
    cases e
    rw [h3] at e2
    cases e2
    refine h.2.cg h.1.1 ⟨⟨mI_ix (by decide), mI_ix (by decide)⟩, fun _ _ => rfl, fun _ _ => rfl, ⟨rfl, rfl⟩, fun _ _ => rfl, fun _ _ => rfl, rfl, fun _ => rfl⟩ ⟨fun j hj => mI_ix (by unfold idY at hj; omega), fun _ => rfl, rfl, rfl, rfl, fun _ => rfl⟩
  · rw [h1] at e
    cases e
    rw [h3] at e2
    cases e2
    exact h.2.cg h.1.1 eqY.rf rfY.rf
theorem Y_rounds {n : Int32} {M : Mem} (h : RY M) : wpO (F_LAW_rounds n M) (fun r1 => wpO (F_MO_rounds n r1.2) (fun O => RY O ∧ O.1 94 0 = r1.1)) := by
  refine wp2 (B := fun _ O => RelY O) (G_rounds h.1) (fun a b e e2 => ?_) (fun a b p q => ⟨⟨p.1, q⟩, p.2⟩)
  rcases P_rounds n M with ⟨h1, -, h3⟩ | ⟨h1, h3⟩
  · rw [h1] at e
    cases e
    rw [h3] at e2
    cases e2
    refine h.2.cg h.1.1 ⟨⟨show (mSI M 1 5 n).1 1 6 = M.1 1 6 from mI_ix (by decide), show (mSI M 1 5 n).1 1 7 = M.1 1 7 from mI_ix (by decide)⟩, fun _ _ => rfl, fun _ _ => rfl, ⟨rfl, rfl⟩, fun _ _ => rfl, fun _ _ => rfl, rfl, fun _ => rfl⟩ ⟨fun j hj => mI_ix (by unfold idY at hj; omega), fun _ => rfl, rfl, rfl, rfl, fun _ => rfl⟩
  · rw [h1] at e
    cases e
    rw [h3] at e2
    cases e2
    exact h.2.cg h.1.1 eqY.rf rfY.rf
theorem Y_tomorrow {a q : Int32} {M : Mem} (h : RY M) : wpO (F_LAW_tomorrow a q M) (fun r1 => wpO (F_MO_tomorrow a q r1.2) (fun O => RY O ∧ O.1 94 0 = r1.1)) := by
  refine wp2 (B := fun _ O => RelY O) (G_tomorrow h.1) (fun r s e e2 => ?_) (fun r s p q => ⟨⟨p.1, q⟩, p.2⟩)
  rcases P_tomorrow a q M with ⟨h1, -, h3⟩ | ⟨h1, h3⟩
  · rw [h1] at e
    cases e
    rw [h3] at e2
    cases e2
    refine h.2.cg h.1.1 ⟨⟨(mI_ix (by decide)).trans (mI_ix (by decide)), (mI_ix (by decide)).trans (mI_ix (by decide))⟩, fun _ _ => rfl, fun _ _ => rfl, ⟨rfl, rfl⟩, fun _ _ => rfl, fun _ _ => rfl, rfl, fun _ => rfl⟩ ⟨fun j hj => (mI_ix (by unfold idY at hj; omega)).trans (mI_ix (by unfold idY at hj; omega)), fun _ => rfl, rfl, rfl, rfl, fun _ => rfl⟩
  · rw [h1] at e
    cases e
    rw [h3] at e2
    cases e2
    exact h.2.cg h.1.1 eqY.rf rfY.rf
theorem Y_mistakes {a q : Int32} {M : Mem} (h : RY M) : wpO (F_LAW_mistakes a q M) (fun r1 => wpO (F_MO_mistakes a q r1.2) (fun O => RY O ∧ O.1 94 0 = r1.1)) := by
  refine wp2 (B := fun _ O => RelY O) (G_mistakes h.1) (fun r s e e2 => ?_) (fun r s p q => ⟨⟨p.1, q⟩, p.2⟩)
  rcases P_mistakes a q M with ⟨h1, -, h3⟩ | ⟨h1, h3⟩
  · rw [h1] at e
    cases e
    rw [h3] at e2
    cases e2
    refine h.2.cg h.1.1 ⟨⟨(mI_ix (by decide)).trans (mI_ix (by decide)), (mI_ix (by decide)).trans (mI_ix (by decide))⟩, fun _ _ => rfl, fun _ _ => rfl, ⟨rfl, rfl⟩, fun _ _ => rfl, fun _ _ => rfl, rfl, fun _ => rfl⟩ ⟨fun j hj => (mI_ix (by unfold idY at hj; omega)).trans (mI_ix (by unfold idY at hj; omega)), fun _ => rfl, rfl, rfl, rfl, fun _ => rfl⟩
  · rw [h1] at e
    cases e
    rw [h3] at e2
    cases e2
    exact h.2.cg h.1.1 eqY.rf rfY.rf
theorem Y_bring {a b f g : Int32} {M : Mem} (h : RY M) : wpO (F_LAW_bring a b f g M) (fun r1 => wpO (F_MO_bring a b f g r1.2) (fun O => RY O ∧ O.1 94 0 = r1.1)) := by
  refine wp2 (B := fun _ O => RelY O) (G_bring h.1) (fun r s e e2 => ?_) (fun r s p q => ⟨⟨p.1, q⟩, p.2⟩)
  obtain ⟨i, ⟨⟨b0, -⟩, -⟩, t⟩ := h.1
  have hA := i.1.acts
  rcases P_bring a b f g M (by rw [b0, le_i, le_i, li0, li3]; omega) with ⟨h1, ⟨h4, h5, -⟩, h3⟩ | ⟨k, h1, h3⟩
  · rw [h1] at e
    cases e
    rw [h3 (mSL (mSL M 3 (bI a b) f.toInt64) 3 (bI a b + 1) g.toInt64) b0.symm] at e2
    cases e2
    have hB : bI a b ≤ 16 := by
      rw [le_i, lt_i, li0, b0] at h4 h5
      unfold bI
      omega
    have cL : ∀ k j, k ≠ 3 → (mSL (mSL M 3 (bI a b) f.toInt64) 3 (bI a b + 1) g.toInt64).2 k j = M.2 k j := fun k j q => (mL_cell q).trans (mL_cell q)
    refine h.2.cg h.1.1 ⟨⟨rfl, rfl⟩, fun j _ => cL 5 j (by decide), fun j _ => cL 7 j (by decide), ⟨rfl, rfl⟩, fun j _ => cL 18 j (by decide), fun j _ => cL 20 j (by decide), rfl, fun j => cL 29 j (by decide)⟩ ⟨fun j hj => (mI_ix (by unfold idY at hj; omega)).trans (mI_ix (by unfold idY at hj; omega)), fun _ => rfl, rfl, rfl, rfl, fun _ => rfl⟩
  · rw [h1] at e
    cases e
    rw [h3 _ b0.symm] at e2
    cases e2
    exact h.2.cg h.1.1 eqY.rf rfY.rf
theorem Y_villager {c g : Int32} {M : Mem} (h : RY M) : wpO (F_LAW_villager c g M) (fun r1 => wpO (F_MO_villager c g r1.2) (fun r2 => RY r2.2 ∧ r2.2.1 94 0 = r1.1 ∧ (r1.1 = 0 → r2.2.2 121 0 = r2.1.toInt64))) := by
  refine wp2 (B := fun _ O => RelY O.2) (G_villager h.1) (fun r s e e2 => ?_) (fun r s p q => ⟨⟨p.1, q⟩, p.2⟩)
  obtain ⟨i, ⟨⟨-, -, -, -, -, -, b8, -⟩, -⟩, t⟩ := h.1
  have hv := i.1.vilN
  rcases P_villager c g M (by rw [b8, le_i, le_i, li0, li6]; omega) with ⟨h1, ⟨-, -, h4⟩, h3⟩ | ⟨k, hk, h1, h3⟩
  · rw [h1] at e
    cases e
    rw [h3 (vilC c g (M.1 1 8) M) b8.symm] at e2
    cases e2
    rw [lt_i, li6, b8] at h4
    have hvI : vI (M.1 1 8) = (M.1 95 8).toInt.toNat := by
      unfold vI
      rw [b8]
    have cL : ∀ k j, k ≠ 11 → k ≠ 13 → k ≠ 121 → (vilC c g (M.1 1 8) M).2 k j = M.2 k j := fun k j q1 q2 q3 => by
      unfold vilC
      rw [mL_cell q3]
      exact (mL_cell q2).trans (mL_cell q1)
    have cI : ∀ k j, ¬ (k = 1 ∧ j = 8) → (vilC c g (M.1 1 8) M).1 k j = M.1 k j := fun k j q => by
      unfold vilC
      show (mSI _ 1 8 _).1 k j = _
      rw [mSI_1, if_neg q]
      rfl
    have wI : ∀ k j, ¬ (k = 94 ∧ j = 0) → ¬ (k = 95 ∧ (j = 8 ∨ 552 ≤ j)) → (vilM c g (M.1 1 8) (vilC c g (M.1 1 8) M)).1 k j = (vilC c g (M.1 1 8) M).1 k j := fun k j q1 q2 => by
      unfold vilM vI
      rw [mSI_1, if_neg (fun w => q2 (by omega)), mSI_1, if_neg (fun w => q2 (by omega)), mSI_1, if_neg (fun w => q2 (by omega)), mSI_1, if_neg q1]
    have wL : (vilM c g (M.1 1 8) (vilC c g (M.1 1 8) M)).2 = (vilC c g (M.1 1 8) M).2 := rfl
    have cc : ∀ k j, ¬ (k = 94 ∧ j = 0) → ¬ (k = 95 ∧ (j = 8 ∨ 552 ≤ j)) → ¬ (k = 1 ∧ j = 8) → (vilM c g (M.1 1 8) (vilC c g (M.1 1 8) M)).1 k j = M.1 k j := fun k j q1 q2 q3 => (wI k j q1 q2).trans (cI k j q3)
    have cw : ∀ k j, k ≠ 11 → k ≠ 13 → k ≠ 121 → (vilM c g (M.1 1 8) (vilC c g (M.1 1 8) M)).2 k j = M.2 k j := fun k j q1 q2 q3 => (congrFun (congrFun wL k) j).trans (cL k j q1 q2 q3)
    exact h.2.cg h.1.1 ⟨⟨cc _ _ (by decide) (by decide) (by decide), cc _ _ (by decide) (by decide) (by decide)⟩, fun j _ => cw _ _ (by decide) (by decide) (by decide), fun j _ => cw _ _ (by decide) (by decide) (by decide), ⟨cc _ _ (by decide) (by decide) (by decide), cc _ _ (by decide) (by decide) (by decide)⟩, fun j _ => cw _ _ (by decide) (by decide) (by decide), fun j _ => cw _ _ (by decide) (by decide) (by decide), cc _ _ (by decide) (by decide) (by decide), fun j => cw _ _ (by decide) (by decide) (by decide)⟩ ⟨fun j hj => cc _ _ (by omega) (by unfold idY at hj; omega) (by omega), fun j => cc _ _ (by omega) (by omega) (by omega), cc _ _ (by decide) (by decide) (by decide), cc _ _ (by decide) (by decide) (by decide), cc _ _ (by decide) (by decide) (by decide), fun j => cc _ _ (by omega) (by omega) (by omega)⟩
  · rw [h1] at e
    cases e
    rw [h3 _ b8.symm] at e2
    cases e2
    exact h.2.cg h.1.1 eqY.rf rfY.rf
theorem Y_end {n : Int32} {M : Mem} (h : RY M) : wpO (F_KW_end n M) (fun r1 => wpO (F_MO_end n r1.2) (fun r2 => RY r2.2 ∧ r1.1 = r2.1)) := by
  refine wp2 (B := fun _ O => RelY O.2) (G_end h.1) (fun r s e e2 => ?_) (fun r s p q => ⟨⟨p.1, q⟩, p.2⟩)
  obtain ⟨y1, y2, y3⟩ := h.2
  have t := h.1.2.2
  rcases P_end n M with ⟨h1, h2, h3⟩ | ⟨h1, h3⟩
  · rw [h1] at e
    cases e
    rw [h3 (mSI M 27 1 n) t.symm] at e2
    cases e2
    refine ⟨y1, y2, y3.cg rfl rfl ?_ (fun _ => rfl) (fun _ => rfl)⟩
    show ((mSI (mSI (mSI M 27 1 n) 94 0 0) 94 5 n).1 94 5).toInt ≤ _
    rw [mI_hit, ← t]
    exact le_i.mp h2.2
  · rw [h1] at e
    cases e
    rw [h3 _ t.symm] at e2
    cases e2
    exact ⟨y1, y2, y3⟩
theorem Y_field {x y : Int32} {M : Mem} (h : RY M) : wpO (F_LAW_field x y M) (fun r1 => wpO (F_MO_field x y r1.2) RY) := by
  refine wp2 (B := fun _ O => RelY O) (G_field h.1) (fun r s e e2 => ?_) (fun r s p q => ⟨p, q⟩)
  have f1 := wpO_of (T_LAW_field x y M) e
  have iN : InvR r.2 := h.1.1.sm f1 (fun k q => by first | omega | (dsimp only at q; omega))
  have w := (wpO_of (K_fieldS iN) e2).2
  have f := Q_MO_field x y r.2 s e2
  exact (h.2.cg h.1.1 (f1.eqY (fun k q => by first | omega | (dsimp only at q; omega))) (f1.rfY (fun k q => by first | omega | (dsimp only at q; omega)))).cg iN (f.eqY (fun k j q => by first | omega | (dsimp only at q; omega))) (f.rfY (fun k j q => by first | omega | (dsimp only at q; omega)) (fun j hj => w j (by unfold idY at hj; omega)))
theorem Y_grow {x : Int32} {M : Mem} (h : RY M) : wpO (F_LAW_grow x M) (fun r1 => wpO (F_MO_grow x r1.2) (fun r2 => RY r2.2)) := by
  refine wp2 (B := fun _ O => RelY O.2) (G_grow h.1) (fun r s e e2 => ?_) (fun r s p q => ⟨p, q⟩)
  have f1 := wpO_of (T_LAW_grow x M) e
  have iN : InvR r.2 := h.1.1.sm f1 (fun k q => by first | omega | (dsimp only at q; omega))
  have w := (wpO_of (E_growS (x := x) iN.1) e2).2
  have f := Q_MO_grow x r.2 s e2
  exact (h.2.cg h.1.1 (f1.eqY (fun k q => by first | omega | (dsimp only at q; omega))) (f1.rfY (fun k q => by first | omega | (dsimp only at q; omega)))).cg iN (f.eqY (fun k j q => by first | omega | (dsimp only at q; omega))) (f.rfY (fun k j q => by first | omega | (dsimp only at q; omega)) (fun j hj => w j (by unfold idY at hj; omega)))
