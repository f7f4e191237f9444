/-! ===== the class's state beside the reference's: what is told (but for ways, rows, beings), the image, the tape's length ===== -/
theorem InvR.sm {S : Nat → Prop} {M N : Mem} (h : InvR M) (f : Same S M N) (hs : ∀ k, S k → k ≠ 94 ∧ k ≠ 95 ∧ k ≠ 96) : InvR N := by
  have e94 := f 94 (fun q => (hs _ q).1 rfl)
  exact h.of (by rw [show N.1 95 = M.1 95 from funext (f 95 (fun q => (hs _ q).2.1 rfl)).1]; exact h.1) (funext (f 96 (fun q => (hs _ q).2.2 rfl)).1) (e94.1 3) (e94.1 5)
def idA (j : Nat) : Prop := j ≠ 5 ∧ j ≠ 7 ∧ (j < 27 ∨ (552 ≤ j ∧ j < 564))
def relW (F : Nat → Int32) (B C G : Nat → Int64) (W : Nat → Int32) : Prop :=
  F 0 = W 0 ∧ F 1 = W 1 ∧ F 2 = W 2 ∧ F 3 = W 3 ∧ F 4 = W 4 ∧ F 5 = W 6 ∧ F 8 = W 8 ∧ (∀ j : Nat, j < 18 → B j = (W (9 + j)).toInt64) ∧ ∀ k : Nat, (k : Int) < (W 8).toInt → C k = (W (552 + 2 * k)).toInt64 ∧ G k = (W (553 + 2 * k)).toInt64
theorem relW.cg {F F' : Nat → Int32} {B B' C C' G G' : Nat → Int64} {W W' : Nat → Int32} (h : relW F B C G W) (hv : (W 8).toInt ≤ 6) (hF : ∀ j, j < 9 → j ≠ 6 → j ≠ 7 → F' j = F j) (hB : ∀ j, j < 18 → B' j = B j) (hC : ∀ j, j < 6 → C' j = C j) (hG : ∀ j, j < 6 → G' j = G j) (hW : ∀ j, idA j → W' j = W j) : relW F' B' C' G' W' := by
  obtain ⟨h0, h1, h2, h3, h4, h5, h8, hb, hc⟩ := h
  have w8 : W' 8 = W 8 := hW 8 (by unfold idA; omega)
  refine ⟨?_, ?_, ?_, ?_, ?_, ?_, ?_, fun j hj => ?_, fun k hk => ?_⟩
  · rw [hF 0 (by decide) (by decide) (by decide), hW 0 (by unfold idA; omega), h0]
  · rw [hF 1 (by decide) (by decide) (by decide), hW 1 (by unfold idA; omega), h1]
  · rw [hF 2 (by decide) (by decide) (by decide), hW 2 (by unfold idA; omega), h2]
  · rw [hF 3 (by decide) (by decide) (by decide), hW 3 (by unfold idA; omega), h3]
  · rw [hF 4 (by decide) (by decide) (by decide), hW 4 (by unfold idA; omega), h4]
  · rw [hF 5 (by decide) (by decide) (by decide), hW 6 (by unfold idA; omega), h5]
  · rw [hF 8 (by decide) (by decide) (by decide), w8, h8]
  · rw [hB j hj, hW (9 + j) (by unfold idA; omega), hb j hj]
  · rw [w8] at hk
    rw [hC k (by omega), hG k (by omega), hW (552 + 2 * k) (by unfold idA; omega), hW (553 + 2 * k) (by unfold idA; omega)]
    exact hc k hk
def RelA (M : Mem) : Prop := relW (M.1 1) (M.2 3) (M.2 11) (M.2 13) (M.1 95) ∧ M.1 0 2 = M.1 94 3 ∧ (¬ M.1 94 3 = 0 → relW (M.1 14) (M.2 16) (M.2 24) (M.2 26) (M.1 96))
def RS (M : Mem) : Prop := InvR M ∧ RelA M ∧ M.1 27 1 = M.1 94 5
/-- a memory whose cells of state are those of another -/
def eqS (M N : Mem) : Prop := (∀ j, j < 9 → j ≠ 6 → j ≠ 7 → N.1 1 j = M.1 1 j) ∧ N.1 0 2 = M.1 0 2 ∧ (∀ j, j < 18 → N.2 3 j = M.2 3 j) ∧ (∀ j, j < 6 → N.2 11 j = M.2 11 j) ∧ (∀ j, j < 6 → N.2 13 j = M.2 13 j) ∧ (∀ j, N.1 14 j = M.1 14 j) ∧ (∀ j, N.2 16 j = M.2 16 j) ∧ (∀ j, N.2 24 j = M.2 24 j) ∧ ∀ j, N.2 26 j = M.2 26 j
theorem RelA.cg {M N : Mem} (h : RelA M) (i : InvR M) (e : eqS M N) (hW : ∀ j, idA j → N.1 95 j = M.1 95 j) (h6 : ∀ j, N.1 96 j = M.1 96 j) (h3 : N.1 94 3 = M.1 94 3) : RelA N := by
  obtain ⟨a1, a2, a3⟩ := h
  obtain ⟨e1, e0, e3, e11, e13, e14, e16, e24, e26⟩ := e
  refine ⟨a1.cg i.1.vilN.2 e1 e3 e11 e13 hW, by rw [e0, h3, a2], fun q => ?_⟩
  rw [h3] at q
  exact (a3 q).cg (i.2.1 q).vilN.2 (fun j _ _ _ => e14 j) (fun j _ => e16 j) (fun j _ => e24 j) (fun j _ => e26 j) (fun j _ => h6 j)
theorem Same.eqS {S : Nat → Prop} {M N : Mem} (f : Same S M N) (hs : ∀ k, S k → ¬ (k = 0 ∨ k = 1 ∨ k = 3 ∨ k = 11 ∨ k = 13 ∨ k = 14 ∨ k = 16 ∨ k = 24 ∨ k = 26)) : eqS M N :=
  ⟨fun j _ _ _ => (f 1 (fun q => hs _ q (by omega))).1 j, (f 0 (fun q => hs _ q (by omega))).1 2, fun j _ => (f 3 (fun q => hs _ q (by omega))).2 j, fun j _ => (f 11 (fun q => hs _ q (by omega))).2 j, fun j _ => (f 13 (fun q => hs _ q (by omega))).2 j, (f 14 (fun q => hs _ q (by omega))).1, (f 16 (fun q => hs _ q (by omega))).2, (f 24 (fun q => hs _ q (by omega))).2, (f 26 (fun q => hs _ q (by omega))).2⟩
theorem Frm.eqS {S : Nat → Nat → Prop} {M N : Mem} (f : Frm S M N) (hs : ∀ k j, S k j → ¬ k ≤ 93) : eqS M N :=
  ⟨fun j _ _ _ => (f 1 j (fun q => hs _ _ q (by omega))).1, (f 0 2 (fun q => hs _ _ q (by omega))).1, fun j _ => (f 3 j (fun q => hs _ _ q (by omega))).2, fun j _ => (f 11 j (fun q => hs _ _ q (by omega))).2, fun j _ => (f 13 j (fun q => hs _ _ q (by omega))).2, fun j => (f 14 j (fun q => hs _ _ q (by omega))).1, fun j => (f 16 j (fun q => hs _ _ q (by omega))).2, fun j => (f 24 j (fun q => hs _ _ q (by omega))).2, fun j => (f 26 j (fun q => hs _ _ q (by omega))).2⟩
/-- a call of the class that tells nothing -/
theorem RS.c {S : Nat → Prop} {M N : Mem} (h : RS M) (f : Same S M N) (hs : ∀ k, S k → ¬ (k = 0 ∨ k = 1 ∨ k = 3 ∨ k = 11 ∨ k = 13 ∨ k = 14 ∨ k = 16 ∨ k = 24 ∨ k = 26 ∨ k = 27 ∨ k = 94 ∨ k = 95 ∨ k = 96)) : RS N := by
  obtain ⟨i, a, t⟩ := h
  have e95 := f 95 (fun q => hs _ q (by omega))
  have e94 := f 94 (fun q => hs _ q (by omega))
  have e96 := f 96 (fun q => hs _ q (by omega))
  refine ⟨i.sm f (fun k q => ?_), a.cg i (f.eqS (fun k q => ?_)) (fun j _ => e95.1 j) e96.1 (e94.1 3), ?_⟩
  · have := hs k q
    omega
  · have := hs k q
    omega
  · rw [(f 27 (fun q => hs _ q (by omega))).1 1, e94.1 5, t]
/-- a call of the reference that tells nothing -/
theorem RS.r {S : Nat → Nat → Prop} {M N : Mem} (h : RS M) (i2 : InvR N) (f : Frm S M N) (hs : ∀ k j, S k j → ¬ (k ≤ 93 ∨ k = 95 ∨ k = 96 ∨ (k = 94 ∧ (j = 3 ∨ j = 5)))) : RS N := by
  obtain ⟨i, a, t⟩ := h
  refine ⟨i2, a.cg i (f.eqS (fun k j q => ?_)) (fun j _ => (f 95 j (fun q => hs _ _ q (by omega))).1) (fun j => (f 96 j (fun q => hs _ _ q (by omega))).1) (f 94 3 (fun q => hs _ _ q (by omega))).1, ?_⟩
  · have := hs k j q
    omega
  · rw [(f 27 1 (fun q => hs _ _ q (by omega))).1, (f 94 5 (fun q => hs _ _ q (by omega))).1, t]
/-- the reference's world changed where nothing of this stands -/
theorem RS.rw {S : Nat → Nat → Prop} {M N : Mem} (h : RS M) (i2 : InvR N) (f : Frm S M N) (hs : ∀ k j, S k j → ¬ (k ≤ 93 ∨ k = 96 ∨ (k = 94 ∧ (j = 3 ∨ j = 5)))) (hW : ∀ j, idA j → N.1 95 j = M.1 95 j) : RS N := by
  obtain ⟨i, a, t⟩ := h
  refine ⟨i2, a.cg i (f.eqS (fun k j q => ?_)) hW (fun j => (f 96 j (fun q => hs _ _ q (by omega))).1) (f 94 3 (fun q => hs _ _ q (by omega))).1, ?_⟩
  · have := hs k j q
    omega
  · rw [(f 27 1 (fun q => hs _ _ q (by omega))).1, (f 94 5 (fun q => hs _ _ q (by omega))).1, t]
theorem bc_cg {B C G : Nat → Int64} {W W' : Nat → Int32} (h8 : W' 8 = W 8) (h9 : ∀ j, 9 ≤ j → W' j = W j) (b9 : ∀ j : Nat, j < 18 → B j = (W (9 + j)).toInt64) (b10 : ∀ k : Nat, (k : Int) < (W 8).toInt → C k = (W (552 + 2 * k)).toInt64 ∧ G k = (W (553 + 2 * k)).toInt64) : (∀ j : Nat, j < 18 → B j = (W' (9 + j)).toInt64) ∧ ∀ k : Nat, (k : Int) < (W' 8).toInt → C k = (W' (552 + 2 * k)).toInt64 ∧ G k = (W' (553 + 2 * k)).toInt64 := by
  refine ⟨fun j hj => ?_, fun k hk => ?_⟩
  · rw [h9 _ (by omega)]
    exact b9 j hj
  · rw [h8] at hk
    rw [h9 _ (by omega), h9 _ (by omega)]
    exact b10 k hk
/-! the calls that tell something: both sides -/
theorem wpO_of {α : Type} {X : Option α} {Φ : α → Prop} (h : wpO X Φ) {a : α} (e : X = some a) : Φ a := by
  obtain ⟨b, h1, h2⟩ := h
  rw [h1] at e
  cases e
  exact h2
theorem G_acts {n : Int32} {M : Mem} (h : RS M) : wpO (F_LAW_acts n M) (fun r1 => wpO (F_MO_acts n r1.2) (fun O => RS O ∧ O.1 94 0 = r1.1)) := by
  obtain ⟨i, ⟨a1, a2, a3⟩, t⟩ := h
  rcases P_acts n M with ⟨h1, h2, h3⟩ | ⟨h1, h3⟩
  · rw [h1]
    refine wp_some ?_
    have hN : InvR (mSI M 1 0 n) := i
    obtain ⟨O, e, iO⟩ := K_acts (n := n) hN
    rw [h3] at e
    cases e
    refine ⟨_, h3 _, ⟨iO, ⟨?_, a2, a3⟩, t⟩, rfl⟩
    obtain ⟨b0, b1, b2, b3, b4, b5, b8, b9, b10⟩ := a1
    obtain ⟨d9, d10⟩ := bc_cg (W := M.1 95) (W' := (mSI (mSI (mSI M 1 0 n) 94 0 0) 95 0 n).1 95) rfl (fun j hj => mI_ix (by omega)) b9 b10
    exact ⟨by show (mSI M 1 0 n).1 1 0 = n; rw [mI_hit], b1, b2, b3, b4, b5, b8, d9, d10⟩
  · rw [h1]
    exact wp_some ⟨_, h3 _, ⟨i, ⟨a1, a2, a3⟩, t⟩, rfl⟩
theorem G_rounds {n : Int32} {M : Mem} (h : RS M) : wpO (F_LAW_rounds n M) (fun r1 => wpO (F_MO_rounds n r1.2) (fun O => RS O ∧ O.1 94 0 = r1.1)) := by
  obtain ⟨i, ⟨a1, a2, a3⟩, t⟩ := h
  rcases P_rounds n M with ⟨h1, h2, h3⟩ | ⟨h1, h3⟩
  · rw [h1]
    refine wp_some ?_
    have hN : InvR (mSI M 1 5 n) := i
    obtain ⟨O, e, iO⟩ := K_rounds (n := n) hN
    rw [h3] at e
    cases e
    refine ⟨_, h3 _, ⟨iO, ⟨?_, a2, a3⟩, t⟩, rfl⟩
    obtain ⟨b0, b1, b2, b3, b4, b5, b8, b9, b10⟩ := a1
    obtain ⟨d9, d10⟩ := bc_cg (W := M.1 95) (W' := (mSI (mSI (mSI M 1 5 n) 94 0 0) 95 6 n).1 95) rfl (fun j hj => mI_ix (by omega)) b9 b10
    exact ⟨b0, b1, b2, b3, b4, by show (mSI M 1 5 n).1 1 5 = n; rw [mI_hit], b8, d9, d10⟩
  · rw [h1]
    exact wp_some ⟨_, h3 _, ⟨i, ⟨a1, a2, a3⟩, t⟩, rfl⟩
theorem G_tomorrow {a q : Int32} {M : Mem} (h : RS M) : wpO (F_LAW_tomorrow a q M) (fun r1 => wpO (F_MO_tomorrow a q r1.2) (fun O => RS O ∧ O.1 94 0 = r1.1)) := by
  obtain ⟨i, ⟨a1, a2, a3⟩, t⟩ := h
  rcases P_tomorrow a q M with ⟨h1, h2, h3⟩ | ⟨h1, h3⟩
  · rw [h1]
    refine wp_some ?_
    have hN : InvR (mSI (mSI M 1 1 a) 1 2 q) := i
    obtain ⟨O, e, iO⟩ := K_tomorrow (a := a) (q := q) hN
    rw [h3] at e
    cases e
    refine ⟨_, h3 _, ⟨iO, ⟨?_, a2, a3⟩, t⟩, rfl⟩
    obtain ⟨b0, b1, b2, b3, b4, b5, b8, b9, b10⟩ := a1
    obtain ⟨d9, d10⟩ := bc_cg (W := M.1 95) (W' := (mSI (mSI (mSI (mSI (mSI M 1 1 a) 1 2 q) 94 0 0) 95 1 a) 95 2 q).1 95) rfl (fun j hj => (mI_ix (by omega)).trans (mI_ix (by omega))) b9 b10
    exact ⟨b0, by show (mSI (mSI M 1 1 a) 1 2 q).1 1 1 = a; rw [mI_ix (by decide), mI_hit], by show (mSI (mSI M 1 1 a) 1 2 q).1 1 2 = q; rw [mI_hit], b3, b4, b5, b8, d9, d10⟩
  · rw [h1]
    exact wp_some ⟨_, h3 _, ⟨i, ⟨a1, a2, a3⟩, t⟩, rfl⟩
theorem G_mistakes {a q : Int32} {M : Mem} (h : RS M) : wpO (F_LAW_mistakes a q M) (fun r1 => wpO (F_MO_mistakes a q r1.2) (fun O => RS O ∧ O.1 94 0 = r1.1)) := by
  obtain ⟨i, ⟨a1, a2, a3⟩, t⟩ := h
  rcases P_mistakes a q M with ⟨h1, h2, h3⟩ | ⟨h1, h3⟩
  · rw [h1]
    refine wp_some ?_
    have hN : InvR (mSI (mSI M 1 3 a) 1 4 q) := i
    obtain ⟨O, e, iO⟩ := K_mistakes (a := a) (q := q) hN
    rw [h3] at e
    cases e
    refine ⟨_, h3 _, ⟨iO, ⟨?_, a2, a3⟩, t⟩, rfl⟩
    obtain ⟨b0, b1, b2, b3, b4, b5, b8, b9, b10⟩ := a1
    obtain ⟨d9, d10⟩ := bc_cg (W := M.1 95) (W' := (mSI (mSI (mSI (mSI (mSI M 1 3 a) 1 4 q) 94 0 0) 95 3 a) 95 4 q).1 95) rfl (fun j hj => (mI_ix (by omega)).trans (mI_ix (by omega))) b9 b10
    exact ⟨b0, b1, b2, by show (mSI (mSI M 1 3 a) 1 4 q).1 1 3 = a; rw [mI_ix (by decide), mI_hit], by show (mSI (mSI M 1 3 a) 1 4 q).1 1 4 = q; rw [mI_hit], b5, b8, d9, d10⟩
  · rw [h1]
    exact wp_some ⟨_, h3 _, ⟨i, ⟨a1, a2, a3⟩, t⟩, rfl⟩
theorem G_bring {a b f g : Int32} {M : Mem} (h : RS M) : wpO (F_LAW_bring a b f g M) (fun r1 => wpO (F_MO_bring a b f g r1.2) (fun O => RS O ∧ O.1 94 0 = r1.1)) := by
  obtain ⟨i, ⟨a1, a2, a3⟩, t⟩ := h
  have hac := i.1.acts
  obtain ⟨b0, b1, b2, b3, b4, b5, b8, b9, b10⟩ := a1
  rcases P_bring a b f g M (by rw [b0, le_i, le_i, li0, li3]; omega) with ⟨h1, ⟨h4, h5, -, -⟩, h3⟩ | ⟨k, h1, h3⟩
  · rw [h1]
    refine wp_some ?_
    have hN : InvR (mSL (mSL M 3 (bI a b) f.toInt64) 3 (bI a b + 1) g.toInt64) := i
    obtain ⟨O, e, iO⟩ := K_bring (a := a) (b := b) (f := f) (t := g) hN
    have e3 := h3 (mSL (mSL M 3 (bI a b) f.toInt64) 3 (bI a b + 1) g.toInt64) b0.symm
    rw [e3] at e
    cases e
    have hB : bI a b ≤ 16 := by
      rw [le_i, lt_i, li0, b0] at h4 h5
      unfold bI
      omega
    have w : ∀ i, i < 9 ∨ 27 ≤ i → (mSI (mSI (mSI (mSL (mSL M 3 (bI a b) f.toInt64) 3 (bI a b + 1) g.toInt64) 94 0 0) 95 (9 + bI a b) f) 95 (10 + bI a b) g).1 95 i = M.1 95 i := fun i hi => (mI_ix (by omega)).trans ((mI_ix (by omega)).trans rfl)
    have w10 : ∀ k : Nat, (k : Int) < ((mSI (mSI (mSI (mSL (mSL M 3 (bI a b) f.toInt64) 3 (bI a b + 1) g.toInt64) 94 0 0) 95 (9 + bI a b) f) 95 (10 + bI a b) g).1 95 8).toInt → M.2 11 k = ((mSI (mSI (mSI (mSL (mSL M 3 (bI a b) f.toInt64) 3 (bI a b + 1) g.toInt64) 94 0 0) 95 (9 + bI a b) f) 95 (10 + bI a b) g).1 95 (552 + 2 * k)).toInt64 ∧ M.2 13 k = ((mSI (mSI (mSI (mSL (mSL M 3 (bI a b) f.toInt64) 3 (bI a b + 1) g.toInt64) 94 0 0) 95 (9 + bI a b) f) 95 (10 + bI a b) g).1 95 (553 + 2 * k)).toInt64 := by
      intro k hk
      rw [w 8 (by omega)] at hk
      rw [w _ (by omega), w _ (by omega)]
      exact b10 k hk
    refine ⟨_, e3, ⟨iO, ⟨⟨b0.trans (w 0 (by omega)).symm, b1.trans (w 1 (by omega)).symm, b2.trans (w 2 (by omega)).symm, b3.trans (w 3 (by omega)).symm, b4.trans (w 4 (by omega)).symm, b5.trans (w 6 (by omega)).symm, b8.trans (w 8 (by omega)).symm, fun j hj => ?_, w10⟩, a2, a3⟩, t⟩, rfl⟩
    show (mSL (mSL M 3 (bI a b) f.toInt64) 3 (bI a b + 1) g.toInt64).2 3 j = ((mSI (mSI (mSI (mSL (mSL M 3 (bI a b) f.toInt64) 3 (bI a b + 1) g.toInt64) 94 0 0) 95 (9 + bI a b) f) 95 (10 + bI a b) g).1 95 (9 + j)).toInt64
    by_cases q1 : j = bI a b + 1
    · rw [q1, mL_hit, show 9 + (bI a b + 1) = 10 + bI a b by omega, mI_hit]
    · rw [mL_ix q1, mI_ix (by omega)]
      by_cases q2 : j = bI a b
      · rw [q2, mL_hit, mI_hit]
      · rw [mL_ix q2, mI_ix (by omega)]
        exact b9 j hj
  · rw [h1]
    exact wp_some ⟨_, h3 _ b0.symm, ⟨i, ⟨⟨b0, b1, b2, b3, b4, b5, b8, b9, b10⟩, a2, a3⟩, t⟩, rfl⟩
theorem G_villager {c g : Int32} {M : Mem} (h : RS M) : wpO (F_LAW_villager c g M) (fun r1 => wpO (F_MO_villager c g r1.2) (fun r2 => RS r2.2 ∧ r2.2.1 94 0 = r1.1 ∧ (r1.1 = 0 → r2.2.2 121 0 = r2.1.toInt64))) := by
  obtain ⟨i, ⟨a1, a2, a3⟩, t⟩ := h
  have hv := i.1.vilN
  obtain ⟨b0, b1, b2, b3, b4, b5, b8, b9, b10⟩ := a1
  rcases P_villager c g M (by rw [b8, le_i, le_i, li0, li6]; omega) with ⟨h1, ⟨-, -, h4⟩, h3⟩ | ⟨k, hk, h1, h3⟩
  · rw [h1]
    refine wp_some ?_
    have hN : InvR (vilC c g (M.1 1 8) M) := i
    have e3 := h3 (vilC c g (M.1 1 8) M) b8.symm
    obtain ⟨r, e, iO⟩ := K_villager (c := c) (g := g) hN
    rw [e3] at e
    cases e
    rw [lt_i, li6, b8] at h4
    have hvI0 : vI (M.1 1 8) = (M.1 95 8).toInt.toNat := by
      unfold vI
      rw [b8]
    have w : ∀ i, i < 8 → (vilM c g (M.1 1 8) (vilC c g (M.1 1 8) M)).1 95 i = M.1 95 i := by
      intro i hi
      unfold vilM
      rw [mI_ix (by omega), mI_ix (by omega), mI_ix (by omega)]
      rfl
    refine ⟨_, e3, ⟨iO, ⟨⟨b0.trans (w 0 (by omega)).symm, b1.trans (w 1 (by omega)).symm, b2.trans (w 2 (by omega)).symm, b3.trans (w 3 (by omega)).symm, b4.trans (w 4 (by omega)).symm, b5.trans (w 6 (by omega)).symm, ?_, fun j hj => ?_, fun k hk => ?_⟩, a2, a3⟩, t⟩, rfl, fun _ => ?_⟩
    · show (vilC c g (M.1 1 8) M).1 1 8 = (vilM c g (M.1 1 8) (vilC c g (M.1 1 8) M)).1 95 8
      unfold vilM vilC
      rw [mI_hit]
      show (mSI (mSL (mSL M 11 (vI (M.1 1 8)) c.toInt64) 13 (vI (M.1 1 8)) g.toInt64) 1 8 (M.1 1 8 + 1)).1 1 8 = _
      rw [mI_hit]
    · show M.2 3 j = ((vilM c g (M.1 1 8) (vilC c g (M.1 1 8) M)).1 95 (9 + j)).toInt64
      unfold vilM vI
      rw [mI_ix (by omega), mI_ix (by omega), mI_ix (by omega)]
      exact b9 j hj
    · have hk2 : (k : Int) < (M.1 95 8).toInt + 1 := by
        have e8 : ((vilM c g (M.1 1 8) (vilC c g (M.1 1 8) M)).1 95 8).toInt = (M.1 95 8).toInt + 1 := by
          unfold vilM
          rw [mI_hit, b8, a32] <;> rw [li1] <;> omega
        have hk3 : (k : Int) < ((vilM c g (M.1 1 8) (vilC c g (M.1 1 8) M)).1 95 8).toInt := hk
        omega
      show (vilC c g (M.1 1 8) M).2 11 k = ((vilM c g (M.1 1 8) (vilC c g (M.1 1 8) M)).1 95 (552 + 2 * k)).toInt64 ∧ (vilC c g (M.1 1 8) M).2 13 k = ((vilM c g (M.1 1 8) (vilC c g (M.1 1 8) M)).1 95 (553 + 2 * k)).toInt64
      have c11 : (vilC c g (M.1 1 8) M).2 11 k = (mSL M 11 (vI (M.1 1 8)) c.toInt64).2 11 k := by
        unfold vilC
        rw [mL_cell (by decide)]
        show (mSL (mSL M 11 (vI (M.1 1 8)) c.toInt64) 13 (vI (M.1 1 8)) g.toInt64).2 11 k = _
        rw [mL_cell (by decide)]
      have c13 : (vilC c g (M.1 1 8) M).2 13 k = (mSL (mSL M 11 (vI (M.1 1 8)) c.toInt64) 13 (vI (M.1 1 8)) g.toInt64).2 13 k := by
        unfold vilC
        rw [mL_cell (by decide)]
        rfl
      have hvI : vI (M.1 1 8) = (M.1 95 8).toInt.toNat := by
        unfold vI
        rw [b8]
      by_cases q : k = vI (M.1 1 8)
      · have w1 : (vilM c g (M.1 1 8) (vilC c g (M.1 1 8) M)).1 95 (552 + 2 * k) = c := by
          unfold vilM
          rw [mI_ix (by omega), mI_ix (by omega), q, mI_hit]
        have w2 : (vilM c g (M.1 1 8) (vilC c g (M.1 1 8) M)).1 95 (553 + 2 * k) = g := by
          unfold vilM
          rw [mI_ix (by omega), q, mI_hit]
        rw [c11, c13, w1, w2, q, mL_hit, mL_hit]
        exact ⟨rfl, rfl⟩
      · have w1 : (vilM c g (M.1 1 8) (vilC c g (M.1 1 8) M)).1 95 (552 + 2 * k) = M.1 95 (552 + 2 * k) := by
          unfold vilM
          rw [mI_ix (by omega), mI_ix (by omega), mI_ix (by omega)]
          rfl
        have w2 : (vilM c g (M.1 1 8) (vilC c g (M.1 1 8) M)).1 95 (553 + 2 * k) = M.1 95 (553 + 2 * k) := by
          unfold vilM
          rw [mI_ix (by omega), mI_ix (by omega), mI_ix (by omega)]
          rfl
        rw [c11, c13, w1, w2, mL_ix q, mL_ix q, mL_cell (by decide)]
        exact b10 k (by omega)
    · show (vilC c g (M.1 1 8) M).2 121 0 = (M.1 1 8).toInt64
      unfold vilC
      rw [mL_hit]
  · rw [h1]
    exact wp_some ⟨_, h3 _ b8.symm, ⟨i, ⟨⟨b0, b1, b2, b3, b4, b5, b8, b9, b10⟩, a2, a3⟩, t⟩, rfl, fun q => absurd q hk⟩

/-! feed, end: the tape's length -/
theorem G_end {n : Int32} {M : Mem} (h : RS M) : wpO (F_KW_end n M) (fun r1 => wpO (F_MO_end n r1.2) (fun r2 => RS r2.2 ∧ r1.1 = r2.1)) := by
  obtain ⟨i, a, t⟩ := h
  rcases P_end n M with ⟨h1, h2, h3⟩ | ⟨h1, h3⟩
  · rw [h1]
    refine wp_some ?_
    have hN : InvR (mSI M 27 1 n) := i
    have e3 := h3 (mSI M 27 1 n) t.symm
    obtain ⟨r, e, iO⟩ := K_end (n := n) hN
    rw [e3] at e
    cases e
    refine ⟨_, e3, ⟨iO, a, ?_⟩, rfl⟩
    show (mSI (mSI (mSI M 27 1 n) 94 0 0) 94 5 n).1 27 1 = (mSI (mSI (mSI M 27 1 n) 94 0 0) 94 5 n).1 94 5
    rw [mI_hit, mI_cell (by decide), mI_cell (by decide), mI_hit]
  · rw [h1]
    exact wp_some ⟨_, h3 _ t.symm, ⟨i, a, t⟩, rfl⟩
theorem G_feed {a b c d e : Int32} {M : Mem} (h : RS M) : wpO (F_KW_feed a b c d e M) (fun r1 => wpO (F_MO_feed a b c d e r1.2) (fun r2 => RS r2.2 ∧ r1.1 = r2.1)) := by
  obtain ⟨i, ra, t⟩ := h
  have h3 := i.2.2.1
  have h4 := i.2.2.2
  rcases Int.lt_or_le 380 (M.1 94 5).toInt with q | q
  · rw [S_feed_no a b c d e M (by rw [t]; exact q) (by rw [t]; exact h4)]
    exact wp_some ⟨_, S_mfeed_no a b c d e M q h4, ⟨i, ra, t⟩, rfl⟩
  · obtain ⟨s1, s2⟩ := S_feed a b c d e M (by rw [t]; exact h3) (by rw [t]; exact q)
    have fr := T_KW_feed a b c d e M
    rw [s1] at fr ⊢
    have f2 := wpO_some fr
    dsimp only at f2
    generalize hN : ap4 e (ap4 d (ap4 c (ap4 b (ap4 a M)))) = N at *
    have iN : InvR N := i.sm f2 (fun k q => by first | omega | (dsimp only at q; omega))
    have n5 : N.1 94 5 = M.1 94 5 := (f2 94 (by omega)).1 5
    refine wp_some ?_
    show wpO (F_MO_feed a b c d e N) _
    refine wp_mono (wp_q (wp_q (S_mfeed a b c d e N (M.1 94 5).toInt.toNat (by rw [n5]; omega) (by omega)) (fun r hr => wpO_of (K_feed iN) hr)) (Q_MO_feed _ _ _ _ _ _)) (fun r hr => ?_)
    obtain ⟨⟨⟨r1, r2, -, r4, -⟩, iO⟩, fO⟩ := hr
    have e1 : N.1 27 1 = r.2.1 94 5 := by
      rw [r2, n5, ← Int32.toInt_inj, s2, t, a32] <;> rw [li20] <;> omega
    refine ⟨⟨iO, (ra.cg i (f2.eqS (fun k q => by first | omega | (dsimp only at q; omega))) (fun j _ => (f2 95 (by omega)).1 j) (f2 96 (by omega)).1 ((f2 94 (by omega)).1 3)).cg iN (fO.eqS (fun k j q => by first | omega | (dsimp only at q; omega))) (fun j _ => (fO 95 j (by omega)).1) (fun j => (fO 96 j (by omega)).1) (fO 94 3 (by omega)).1, ?_⟩, ?_⟩
    · rw [(fO 27 1 (by omega)).1, e1]
    · show N.1 27 1 = r.1
      rw [e1, r1, r2]
/-! the image -/
theorem N_image {M : Mem} : wpO (F_MO_image M) (fun N => (∀ j, j < 564 → N.1 96 j = M.1 95 j) ∧ N.1 95 = M.1 95 ∧ N.1 94 5 = M.1 94 5 ∧ N.1 94 3 = 1) := by
  have l564 : (564 : Int32) = iI 564 := rfl
  unfold F_MO_image F_MO_image_l7
  refine wp_bind (Ψ := fun N => (∀ j, j < 564 → N.1 96 j = M.1 95 j) ∧ N.1 95 = M.1 95 ∧ N.1 94 5 = M.1 94 5) ?_ (fun N hN => ?_)
  · refine wp_iterS (P := fun k z => z.1 = iI (k : Int) ∧ (∀ j, j < k → z.2.1 96 j = M.1 95 j) ∧ z.2.1 95 = M.1 95 ∧ z.2.1 94 5 = M.1 94 5) 564 ?_ _ _ ⟨rfl, fun j q => absurd q (Nat.not_lt_zero _), rfl, rfl⟩ (FUEL_big (by decide))
    rintro k ⟨z1, N⟩ hk ⟨e1, m1, m2, m3⟩
    dsimp only at e1 m1 m2 m3
    subst e1
    unfold F_MO_image_b7
    dsimp only
    refine wp_if (fun c => wp_some ⟨fun j hj => m1 j ?_, m2, m3⟩) (fun c => ?_)
    · rw [l564, iI_le (by omega) (by omega) (by omega) (by omega)] at c
      omega
    rw [l564, iI_le (by omega) (by omega) (by omega) (by omega)] at c
    have ib : inb (iI (k : Int)) 564 := inb_iI (by omega) (by omega) (by omega)
    refine wp_t ib (wp_t ib (wp_some ⟨by omega, iI_succ k, fun j hj => ?_, ?_, ?_⟩))
    · show (mSI N 96 _ _).1 96 j = _
      rw [clN (by omega)]
      by_cases q : j = k
      · rw [q, mI_hit, m2]
      · rw [mI_ix q]
        exact m1 j (by omega)
    · exact (funext fun j => mI_cell (by decide)).trans m2
    · exact (mI_cell (by decide)).trans m3
  · obtain ⟨m1, m2, m3⟩ := hN
    exact wp_some ⟨fun j hj => (mI_cell (by decide)).trans (m1 j hj), (funext fun j => mI_cell (by decide)).trans m2, (mI_ix (by decide)).trans m3, mI_hit⟩
theorem N_back {M : Mem} : wpO (F_MO_back M) (fun r => (M.1 94 3 = 0 ∧ r = (false, mSI M 94 0 0)) ∨ (¬ M.1 94 3 = 0 ∧ r.1 = true ∧ (∀ j, j < 564 → r.2.1 95 j = M.1 96 j) ∧ r.2.1 96 = M.1 96 ∧ r.2.1 94 5 = M.1 94 5 ∧ r.2.1 94 3 = M.1 94 3)) := by
  have l564 : (564 : Int32) = iI 564 := rfl
  unfold F_MO_back
  refine wp_if (fun c => wp_some (Or.inl ⟨c, rfl⟩)) (fun c => ?_)
  unfold F_MO_back_l16
  refine wp_bind (Ψ := fun N => (∀ j, j < 564 → N.1 95 j = M.1 96 j) ∧ N.1 96 = M.1 96 ∧ N.1 94 5 = M.1 94 5 ∧ N.1 94 3 = M.1 94 3) ?_ (fun N hN => wp_some (Or.inr ⟨c, rfl, hN⟩))
  refine wp_iterS (P := fun k z => z.1 = iI (k : Int) ∧ (∀ j, j < k → z.2.1 95 j = M.1 96 j) ∧ z.2.1 96 = M.1 96 ∧ z.2.1 94 5 = M.1 94 5 ∧ z.2.1 94 3 = M.1 94 3) 564 ?_ _ _ ⟨rfl, fun j q => absurd q (Nat.not_lt_zero _), rfl, rfl, rfl⟩ (FUEL_big (by decide))
  rintro k ⟨z1, N⟩ hk ⟨e1, m1, m2, m3, m4⟩
  dsimp only at e1 m1 m2 m3 m4
  subst e1
  unfold F_MO_back_b16
  dsimp only
  refine wp_if (fun c => wp_some ⟨fun j hj => m1 j ?_, m2, m3, m4⟩) (fun c => ?_)
  · rw [l564, iI_le (by omega) (by omega) (by omega) (by omega)] at c
    omega
  rw [l564, iI_le (by omega) (by omega) (by omega) (by omega)] at c
  have ib : inb (iI (k : Int)) 564 := inb_iI (by omega) (by omega) (by omega)
  refine wp_t ib (wp_t ib (wp_some ⟨by omega, iI_succ k, fun j hj => ?_, ?_, ?_, ?_⟩))
  · show (mSI N 95 _ _).1 95 j = _
    rw [clN (by omega)]
    by_cases q : j = k
    · rw [q, mI_hit, m2]
    · rw [mI_ix q]
      exact m1 j (by omega)
  · exact (funext fun j => mI_cell (by decide)).trans m2
  · exact (mI_cell (by decide)).trans m3
  · exact (mI_cell (by decide)).trans m4
/-- the class's well taken from another one -/
def tookW (b o : Nat) (M N : Mem) : Prop := (∀ j, j < 9 → N.1 b j = M.1 o j) ∧ (∀ j, j < 18 → N.2 (b + 2) j = M.2 (o + 2) j) ∧ (∀ j, j < 117 → N.2 (b + 4) j = M.2 (o + 4) j) ∧ (∀ j, j < 400 → N.2 (b + 6) j = M.2 (o + 6) j) ∧ (∀ j, j < 8 → N.2 (b + 8) j = M.2 (o + 8) j) ∧ (∀ j, j < 6 → N.2 (b + 10) j = M.2 (o + 10) j) ∧ ∀ j, j < 6 → N.2 (b + 12) j = M.2 (o + 12) j
theorem C_take {b o : Nat} {M : Mem} (hd : b + 12 < o ∨ o + 12 < b) : wpO (F_Well_takeFrom b o M) (fun N => tookW b o M N) := by
  have hN : ∃ N0 : Mem, F_Well_takeFrom b o M = ((F_Row_takeFrom (b + 2) 18 (o + 2) 18 N0).bind fun r1 => (F_Row_takeFrom (b + 4) 117 (o + 4) 117 r1).bind fun r2 => (F_Row_takeFrom (b + 6) 400 (o + 6) 400 r2).bind fun r3 => (F_Row_takeFrom (b + 8) 8 (o + 8) 8 r3).bind fun r4 => (F_Row_takeFrom (b + 10) 6 (o + 10) 6 r4).bind fun r5 => (F_Row_takeFrom (b + 12) 6 (o + 12) 6 r5).bind fun r6 => some r6) ∧ (∀ j, j < 9 → N0.1 b j = M.1 o j) ∧ N0.2 = M.2 := by
    refine ⟨_, rfl, fun j hj => ?_, rfl⟩
    have ne : ¬ o = b := by omega
    have hj9 : j = 0 ∨ j = 1 ∨ j = 2 ∨ j = 3 ∨ j = 4 ∨ j = 5 ∨ j = 6 ∨ j = 7 ∨ j = 8 := by omega
    rcases hj9 with rfl | rfl | rfl | rfl | rfl | rfl | rfl | rfl | rfl <;> simp [mSI_1, ne]
  obtain ⟨N0, e, n1, n2⟩ := hN
  rw [e]
  refine wp_bind (T_Row_takeFromQ (b + 2) 18 (o + 2) 18 N0 (by omega)) (fun r1 h1 => ?_)
  refine wp_bind (T_Row_takeFromQ (b + 4) 117 (o + 4) 117 r1 (by omega)) (fun r2 h2 => ?_)
  refine wp_bind (T_Row_takeFromQ (b + 6) 400 (o + 6) 400 r2 (by omega)) (fun r3 h3 => ?_)
  refine wp_bind (T_Row_takeFromQ (b + 8) 8 (o + 8) 8 r3 (by omega)) (fun r4 h4 => ?_)
  refine wp_bind (T_Row_takeFromQ (b + 10) 6 (o + 10) 6 r4 (by omega)) (fun r5 h5 => ?_)
  refine wp_bind (T_Row_takeFromQ (b + 12) 6 (o + 12) 6 r5 (by omega)) (fun r6 h6 => wp_some ?_)
  obtain ⟨f1, c1⟩ := h1
  obtain ⟨f2, c2⟩ := h2
  obtain ⟨f3, c3⟩ := h3
  obtain ⟨f4, c4⟩ := h4
  obtain ⟨f5, c5⟩ := h5
  obtain ⟨f6, c6⟩ := h6
  refine ⟨fun j hj => ?_, fun j hj => ?_, fun j hj => ?_, fun j hj => ?_, fun j hj => ?_, fun j hj => ?_, fun j hj => ?_⟩
  · rw [(f6 b (by omega)).1, (f5 b (by omega)).1, (f4 b (by omega)).1, (f3 b (by omega)).1, (f2 b (by omega)).1, (f1 b (by omega)).1, n1 j hj]
  · rw [(f6 (b + 2) (by omega)).2, (f5 (b + 2) (by omega)).2, (f4 (b + 2) (by omega)).2, (f3 (b + 2) (by omega)).2, (f2 (b + 2) (by omega)).2, c1 j hj (by decide) rfl, n2]
  · rw [(f6 (b + 4) (by omega)).2, (f5 (b + 4) (by omega)).2, (f4 (b + 4) (by omega)).2, (f3 (b + 4) (by omega)).2, c2 j hj (by decide) rfl, (f1 (o + 4) (by omega)).2, n2]
  · rw [(f6 (b + 6) (by omega)).2, (f5 (b + 6) (by omega)).2, (f4 (b + 6) (by omega)).2, c3 j hj (by decide) rfl, (f2 (o + 6) (by omega)).2, (f1 (o + 6) (by omega)).2, n2]
  · rw [(f6 (b + 8) (by omega)).2, (f5 (b + 8) (by omega)).2, c4 j hj (by decide) rfl, (f3 (o + 8) (by omega)).2, (f2 (o + 8) (by omega)).2, (f1 (o + 8) (by omega)).2, n2]
  · rw [(f6 (b + 10) (by omega)).2, c5 j hj (by decide) rfl, (f4 (o + 10) (by omega)).2, (f3 (o + 10) (by omega)).2, (f2 (o + 10) (by omega)).2, (f1 (o + 10) (by omega)).2, n2]
  · rw [c6 j hj (by decide) rfl, (f5 (o + 12) (by omega)).2, (f4 (o + 12) (by omega)).2, (f3 (o + 12) (by omega)).2, (f2 (o + 12) (by omega)).2, (f1 (o + 12) (by omega)).2, n2]
