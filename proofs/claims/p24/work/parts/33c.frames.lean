/-! ===== frames of the reference's functions, by program: what one leaves as it was, if it ends ===== -/
def wlO {α : Type} (X : Option α) (Φ : α → Prop) : Prop := ∀ a, X = some a → Φ a
theorem wl_some {α : Type} {a : α} {Φ : α → Prop} (h : Φ a) : wlO (some a) Φ := fun b hb => by cases hb; exact h
theorem wl_none {α : Type} {Φ : α → Prop} : wlO (none : Option α) Φ := fun _ hb => nomatch hb
theorem wl_bind {α β : Type} {X : Option α} {k : α → Option β} {Ψ : α → Prop} {Φ : β → Prop} (h : wlO X Ψ) (hk : ∀ a, Ψ a → wlO (k a) Φ) : wlO (X.bind k) Φ := by
  intro b hb
  cases X with
  | none => exact nomatch hb
  | some a => exact hk a (h a rfl) b hb
theorem wl_any {α β : Type} {X : Option α} {k : α → Option β} {Φ : β → Prop} (hk : ∀ a, wlO (k a) Φ) : wlO (X.bind k) Φ := wl_bind (Ψ := fun _ => True) (fun _ _ => trivial) (fun a _ => hk a)
theorem wl_mono {α : Type} {X : Option α} {Ψ Φ : α → Prop} (h : wlO X Ψ) (hk : ∀ a, Ψ a → Φ a) : wlO X Φ := fun a ha => hk a (h a ha)
theorem wl_if {α : Type} {c : Prop} [Decidable c] {X Y : Option α} {Φ : α → Prop} (ht : c → wlO X Φ) (hf : ¬ c → wlO Y Φ) : wlO (if c then X else Y) Φ := by
  by_cases hc : c
  · rw [if_pos hc]; exact ht hc
  · rw [if_neg hc]; exact hf hc
theorem wl_iter {σ ρ : Type} {body : σ → Option (σ ⊕ ρ)} {P : σ → Prop} {Φ : ρ → Prop} (hs : ∀ s, P s → wlO (body s) (fun x => match x with | .inl s' => P s' | .inr r => Φ r)) : ∀ (N : Nat) (s : σ), P s → wlO (iter body N s) Φ := by
  intro N
  induction N with
  | zero => intro s _; exact wl_none
  | succ N ih =>
    intro s hp
    show wlO ((body s).bind _) Φ
    refine wl_bind (hs s hp) (fun x hx => ?_)
    cases x with
    | inl s' => exact ih s' hx
    | inr r => exact wl_some hx
theorem wp_q {α : Type} {X : Option α} {Φ Ψ : α → Prop} (h : wpO X Φ) (q : wlO X Ψ) : wpO X (fun r => Φ r ∧ Ψ r) := by
  obtain ⟨a, h1, h2⟩ := h
  exact ⟨a, h1, h2, q a h1⟩
/-- M' is M but for the places of S -/
def Frm (S : Nat → Nat → Prop) (M M' : Mem) : Prop := ∀ k j, ¬ S k j → M'.1 k j = M.1 k j ∧ M'.2 k j = M.2 k j
theorem Frm.rf {S : Nat → Nat → Prop} {M : Mem} : Frm S M M := fun _ _ _ => ⟨rfl, rfl⟩
theorem Frm.tr {S : Nat → Nat → Prop} {M M1 M2 : Mem} (h1 : Frm S M M1) (h2 : Frm S M1 M2) : Frm S M M2 := fun k j hk => ⟨(h2 k j hk).1.trans (h1 k j hk).1, (h2 k j hk).2.trans (h1 k j hk).2⟩
theorem Frm.mono {S T : Nat → Nat → Prop} {M M' : Mem} (h : Frm S M M') (hs : ∀ k j, S k j → T k j) : Frm T M M' := fun k j hk => h k j (fun q => hk (hs k j q))
theorem Frm.sI {S : Nat → Nat → Prop} {M M' : Mem} {k j : Nat} {v : Int32} (h : Frm S M M') (hk : S k j) : Frm S M (mSI M' k j v) := by
  refine h.tr (fun a b ha => ⟨?_, rfl⟩)
  rw [mSI_1, if_neg (fun q => ha (by rw [q.1, q.2]; exact hk))]
theorem Frm.sL {S : Nat → Nat → Prop} {M M' : Mem} {k j : Nat} {v : Int64} (h : Frm S M M') (hk : S k j) : Frm S M (mSL M' k j v) := by
  refine h.tr (fun a b ha => ⟨rfl, ?_⟩)
  rw [mSL_2, if_neg (fun q => ha (by rw [q.1, q.2]; exact hk))]
theorem Q_MO_throwsIf (x1 : Int32) (x2 : Int32) (M : Mem) : wlO (F_MO_throwsIf x1 x2 M) (fun r => Frm (fun k j => (k = 94 ∧ j = 0)) M r.2) := by
  unfold F_MO_throwsIf
  refine wl_if (fun _ => ?_) (fun _ => ?_)
  · refine wl_any (fun r1 => ?_)
    exact wl_some Frm.rf
  · refine wl_any (fun r2 => ?_)
    exact wl_some ((Frm.rf).sI (by first | omega | (dsimp only; omega)))
theorem Q_MO_image_b7 (z : Int32 × Mem) : wlO (F_MO_image_b7 z) (fun r => (match r with | .inl s => Frm (fun k j => k = 96) z.2 s.2 | .inr r => Frm (fun k j => k = 96) z.2 r)) := by
  unfold F_MO_image_b7
  refine wl_if (fun _ => ?_) (fun _ => ?_)
  · exact wl_some Frm.rf
  · refine wl_if (fun _ => ?_) (fun _ => wl_none)
    refine wl_if (fun _ => ?_) (fun _ => wl_none)
    exact wl_some ((Frm.rf).sI (by first | omega | (dsimp only; omega)))
theorem Q_MO_image_l7 (x1 : Int32) (M : Mem) : wlO (F_MO_image_l7 x1 M) (fun r => Frm (fun k j => (k = 94 ∧ j = 3) ∨ k = 96) M r) := by
  unfold F_MO_image_l7
  refine wl_bind (Ψ := fun r => Frm (fun k j => (k = 94 ∧ j = 3) ∨ k = 96) M r) (wl_iter (P := fun w9 => Frm (fun k j => (k = 94 ∧ j = 3) ∨ k = 96) M w9.2) (fun w9 hz => wl_mono (Q_MO_image_b7  w9) (fun x hx => ?_)) FUEL (x1, M) (Frm.rf)) (fun r hr => ?_)
  · rcases x with x | x
    · exact hz.tr (Frm.mono hx (fun k j hk => by first | omega | exact hk.elim | (dsimp only at hk ⊢; omega)))
    · exact (hz).tr (Frm.mono hx (fun k j hk => by first | omega | exact hk.elim | (dsimp only at hk ⊢; omega)))
  exact wl_some ((hr).sI (by first | omega | (dsimp only; omega)))
theorem Q_MO_image (M : Mem) : wlO (F_MO_image M) (fun r => Frm (fun k j => (k = 94 ∧ (j = 0 ∨ j = 3)) ∨ k = 96) M r) := by
  unfold F_MO_image
  refine wl_mono (Q_MO_image_l7 0 (mSI M 94 0 0)) (fun ro ho => ?_)
  exact (((Frm.rf).sI (by first | omega | (dsimp only; omega)))).tr (Frm.mono ho (fun k j hk => by first | omega | exact hk.elim | (dsimp only at hk ⊢; omega)))
theorem Q_MO_back_b16 (z : Int32 × Mem) : wlO (F_MO_back_b16 z) (fun r => (match r with | .inl s => Frm (fun k j => k = 95) z.2 s.2 | .inr r => Frm (fun k j => k = 95) z.2 r)) := by
  unfold F_MO_back_b16
  refine wl_if (fun _ => ?_) (fun _ => ?_)
  · exact wl_some Frm.rf
  · refine wl_if (fun _ => ?_) (fun _ => wl_none)
    refine wl_if (fun _ => ?_) (fun _ => wl_none)
    exact wl_some ((Frm.rf).sI (by first | omega | (dsimp only; omega)))
theorem Q_MO_back_l16 (x1 : Int32) (M : Mem) : wlO (F_MO_back_l16 x1 M) (fun r => Frm (fun k j => k = 95) M r.2) := by
  unfold F_MO_back_l16
  refine wl_bind (Ψ := fun r => Frm (fun k j => k = 95) M r) (wl_iter (P := fun w9 => Frm (fun k j => k = 95) M w9.2) (fun w9 hz => wl_mono (Q_MO_back_b16  w9) (fun x hx => ?_)) FUEL (x1, M) (Frm.rf)) (fun r hr => ?_)
  · rcases x with x | x
    · exact hz.tr (Frm.mono hx (fun k j hk => by first | omega | exact hk.elim | (dsimp only at hk ⊢; omega)))
    · exact (hz).tr (Frm.mono hx (fun k j hk => by first | omega | exact hk.elim | (dsimp only at hk ⊢; omega)))
  exact wl_some hr
theorem Q_MO_back (M : Mem) : wlO (F_MO_back M) (fun r => Frm (fun k j => (k = 94 ∧ j = 0) ∨ k = 95) M r.2) := by
  unfold F_MO_back
  refine wl_if (fun _ => ?_) (fun _ => ?_)
  · exact wl_some ((Frm.rf).sI (by first | omega | (dsimp only; omega)))
  · refine wl_mono (Q_MO_back_l16 0 (mSI M 94 0 0)) (fun ro ho => ?_)
    exact (((Frm.rf).sI (by first | omega | (dsimp only; omega)))).tr (Frm.mono ho (fun k j hk => by first | omega | exact hk.elim | (dsimp only at hk ⊢; omega)))
theorem Q_MO_acts_j20 (x1 : Int32) (s1 : Bool) (M : Mem) : wlO (F_MO_acts_j20 x1 s1 M) (fun r => Frm (fun k j => (k = 94 ∧ j = 0) ∨ k = 95) M r) := by
  unfold F_MO_acts_j20
  refine wl_bind (Q_MO_throwsIf ((b2i s1)) 1 M) (fun r2 hr2 => ?_)
  have mr2 : Frm (fun k j => (k = 94 ∧ j = 0) ∨ k = 95) M r2.2 := (Frm.rf).tr (Frm.mono hr2 (fun k j hk => by first | omega | exact hk.elim | (dsimp only at hk ⊢; omega)))
  refine wl_if (fun _ => ?_) (fun _ => ?_)
  · exact wl_some mr2
  · refine wl_if (fun _ => ?_) (fun _ => wl_none)
    exact wl_some ((mr2).sI (by first | omega | (dsimp only; omega)))
theorem Q_MO_acts (x1 : Int32) (M : Mem) : wlO (F_MO_acts x1 M) (fun r => Frm (fun k j => (k = 94 ∧ j = 0) ∨ k = 95) M r) := by
  unfold F_MO_acts
  refine wl_any (fun r1 => ?_)
  refine wl_if (fun _ => ?_) (fun _ => ?_)
  · refine wl_mono (Q_MO_acts_j20 x1 false (mSI M 94 0 0)) (fun ro ho => ?_)
    exact (((Frm.rf).sI (by first | omega | (dsimp only; omega)))).tr (Frm.mono ho (fun k j hk => by first | omega | exact hk.elim | (dsimp only at hk ⊢; omega)))
  · refine wl_mono (Q_MO_acts_j20 x1 true (mSI M 94 0 0)) (fun ro ho => ?_)
    exact (((Frm.rf).sI (by first | omega | (dsimp only; omega)))).tr (Frm.mono ho (fun k j hk => by first | omega | exact hk.elim | (dsimp only at hk ⊢; omega)))
theorem Q_MO_bring_j63 (x1 : Int32) (x2 : Int32) (x3 : Int32) (x4 : Int32) (s1 : Bool) (M : Mem) : wlO (F_MO_bring_j63 x1 x2 x3 x4 s1 M) (fun r => Frm (fun k j => (k = 94 ∧ j = 0) ∨ k = 95) M r) := by
  unfold F_MO_bring_j63
  refine wl_bind (Q_MO_throwsIf ((b2i s1)) 2 M) (fun r4 hr4 => ?_)
  have mr4 : Frm (fun k j => (k = 94 ∧ j = 0) ∨ k = 95) M r4.2 := (Frm.rf).tr (Frm.mono hr4 (fun k j hk => by first | omega | exact hk.elim | (dsimp only at hk ⊢; omega)))
  refine wl_if (fun _ => ?_) (fun _ => ?_)
  · exact wl_some mr4
  · refine wl_if (fun _ => ?_) (fun _ => wl_none)
    refine wl_if (fun _ => ?_) (fun _ => wl_none)
    exact wl_some ((((mr4).sI (by first | omega | (dsimp only; omega)))).sI (by first | omega | (dsimp only; omega)))
theorem Q_MO_bring_j27 (x1 : Int32) (x2 : Int32) (x3 : Int32) (x4 : Int32) (s1 : Bool) (M : Mem) : wlO (F_MO_bring_j27 x1 x2 x3 x4 s1 M) (fun r => Frm (fun k j => (k = 94 ∧ j = 0) ∨ k = 95) M r) := by
  unfold F_MO_bring_j27
  refine wl_bind (Q_MO_throwsIf ((b2i s1)) 1 M) (fun r2 hr2 => ?_)
  have mr2 : Frm (fun k j => (k = 94 ∧ j = 0) ∨ k = 95) M r2.2 := (Frm.rf).tr (Frm.mono hr2 (fun k j hk => by first | omega | exact hk.elim | (dsimp only at hk ⊢; omega)))
  refine wl_if (fun _ => ?_) (fun _ => ?_)
  · exact wl_some mr2
  · refine wl_any (fun r3 => ?_)
    refine wl_if (fun _ => ?_) (fun _ => ?_)
    · refine wl_any (fun r5 => ?_)
      refine wl_if (fun _ => ?_) (fun _ => ?_)
      · refine wl_mono (Q_MO_bring_j63 x1 x2 x3 x4 false r2.2) (fun ro ho => ?_)
        exact (mr2).tr (Frm.mono ho (fun k j hk => by first | omega | exact hk.elim | (dsimp only at hk ⊢; omega)))
      · refine wl_mono (Q_MO_bring_j63 x1 x2 x3 x4 true r2.2) (fun ro ho => ?_)
        exact (mr2).tr (Frm.mono ho (fun k j hk => by first | omega | exact hk.elim | (dsimp only at hk ⊢; omega)))
    · refine wl_mono (Q_MO_bring_j63 x1 x2 x3 x4 true r2.2) (fun ro ho => ?_)
      exact (mr2).tr (Frm.mono ho (fun k j hk => by first | omega | exact hk.elim | (dsimp only at hk ⊢; omega)))
theorem Q_MO_bring (x1 : Int32) (x2 : Int32) (x3 : Int32) (x4 : Int32) (M : Mem) : wlO (F_MO_bring x1 x2 x3 x4 M) (fun r => Frm (fun k j => (k = 94 ∧ j = 0) ∨ k = 95) M r) := by
  unfold F_MO_bring
  refine wl_any (fun r1 => ?_)
  refine wl_if (fun _ => ?_) (fun _ => ?_)
  · refine wl_mono (Q_MO_bring_j27 x1 x2 x3 x4 true (mSI M 94 0 0)) (fun ro ho => ?_)
    exact (((Frm.rf).sI (by first | omega | (dsimp only; omega)))).tr (Frm.mono ho (fun k j hk => by first | omega | exact hk.elim | (dsimp only at hk ⊢; omega)))
  · refine wl_any (fun r6 => ?_)
    refine wl_if (fun _ => ?_) (fun _ => ?_)
    · refine wl_mono (Q_MO_bring_j27 x1 x2 x3 x4 true (mSI M 94 0 0)) (fun ro ho => ?_)
      exact (((Frm.rf).sI (by first | omega | (dsimp only; omega)))).tr (Frm.mono ho (fun k j hk => by first | omega | exact hk.elim | (dsimp only at hk ⊢; omega)))
    · refine wl_mono (Q_MO_bring_j27 x1 x2 x3 x4 false (mSI M 94 0 0)) (fun ro ho => ?_)
      exact (((Frm.rf).sI (by first | omega | (dsimp only; omega)))).tr (Frm.mono ho (fun k j hk => by first | omega | exact hk.elim | (dsimp only at hk ⊢; omega)))
theorem Q_MO_tomorrow_j32 (x1 : Int32) (x2 : Int32) (s1 : Bool) (M : Mem) : wlO (F_MO_tomorrow_j32 x1 x2 s1 M) (fun r => Frm (fun k j => (k = 94 ∧ j = 0) ∨ k = 95) M r) := by
  unfold F_MO_tomorrow_j32
  refine wl_bind (Q_MO_throwsIf ((b2i s1)) 1 M) (fun r2 hr2 => ?_)
  have mr2 : Frm (fun k j => (k = 94 ∧ j = 0) ∨ k = 95) M r2.2 := (Frm.rf).tr (Frm.mono hr2 (fun k j hk => by first | omega | exact hk.elim | (dsimp only at hk ⊢; omega)))
  refine wl_if (fun _ => ?_) (fun _ => ?_)
  · exact wl_some mr2
  · refine wl_if (fun _ => ?_) (fun _ => wl_none)
    refine wl_if (fun _ => ?_) (fun _ => wl_none)
    exact wl_some ((((mr2).sI (by first | omega | (dsimp only; omega)))).sI (by first | omega | (dsimp only; omega)))
theorem Q_MO_tomorrow (x1 : Int32) (x2 : Int32) (M : Mem) : wlO (F_MO_tomorrow x1 x2 M) (fun r => Frm (fun k j => (k = 94 ∧ j = 0) ∨ k = 95) M r) := by
  unfold F_MO_tomorrow
  refine wl_any (fun r1 => ?_)
  refine wl_if (fun _ => ?_) (fun _ => ?_)
  · refine wl_any (fun r3 => ?_)
    refine wl_if (fun _ => ?_) (fun _ => ?_)
    · refine wl_mono (Q_MO_tomorrow_j32 x1 x2 false (mSI M 94 0 0)) (fun ro ho => ?_)
      exact (((Frm.rf).sI (by first | omega | (dsimp only; omega)))).tr (Frm.mono ho (fun k j hk => by first | omega | exact hk.elim | (dsimp only at hk ⊢; omega)))
    · refine wl_mono (Q_MO_tomorrow_j32 x1 x2 true (mSI M 94 0 0)) (fun ro ho => ?_)
      exact (((Frm.rf).sI (by first | omega | (dsimp only; omega)))).tr (Frm.mono ho (fun k j hk => by first | omega | exact hk.elim | (dsimp only at hk ⊢; omega)))
  · refine wl_mono (Q_MO_tomorrow_j32 x1 x2 true (mSI M 94 0 0)) (fun ro ho => ?_)
    exact (((Frm.rf).sI (by first | omega | (dsimp only; omega)))).tr (Frm.mono ho (fun k j hk => by first | omega | exact hk.elim | (dsimp only at hk ⊢; omega)))
theorem Q_MO_feed_j106 (M : Mem) : wlO (F_MO_feed_j106 M) (fun r => Frm (fun k j => (k = 94 ∧ j = 5)) M r.2) := by
  unfold F_MO_feed_j106
  exact wl_some ((Frm.rf).sI (by first | omega | (dsimp only; omega)))
theorem Q_MO_feed_b60 (z : Int32 × Mem) : wlO (F_MO_feed_b60 z) (fun r => (match r with | .inl s => Frm (fun k j => k = 97) z.2 s.2 | .inr r => Frm (fun k j => k = 97) z.2 r)) := by
  unfold F_MO_feed_b60
  refine wl_if (fun _ => ?_) (fun _ => ?_)
  · exact wl_some Frm.rf
  · refine wl_if (fun _ => ?_) (fun _ => wl_none)
    refine wl_if (fun _ => ?_) (fun _ => wl_none)
    exact wl_some ((Frm.rf).sI (by first | omega | (dsimp only; omega)))
theorem Q_MO_feed_l60 (x6 : Int32) (M : Mem) : wlO (F_MO_feed_l60 x6 M) (fun r => Frm (fun k j => (k = 94 ∧ j = 5) ∨ k = 97) M r.2) := by
  unfold F_MO_feed_l60
  refine wl_bind (Ψ := fun r => Frm (fun k j => (k = 94 ∧ j = 5) ∨ k = 97) M r) (wl_iter (P := fun w9 => Frm (fun k j => (k = 94 ∧ j = 5) ∨ k = 97) M w9.2) (fun w9 hz => wl_mono (Q_MO_feed_b60  w9) (fun x hx => ?_)) FUEL (x6, M) (Frm.rf)) (fun r hr => ?_)
  · rcases x with x | x
    · exact hz.tr (Frm.mono hx (fun k j hk => by first | omega | exact hk.elim | (dsimp only at hk ⊢; omega)))
    · exact (hz).tr (Frm.mono hx (fun k j hk => by first | omega | exact hk.elim | (dsimp only at hk ⊢; omega)))
  refine wl_mono (Q_MO_feed_j106 r) (fun ro ho => ?_)
  exact (hr).tr (Frm.mono ho (fun k j hk => by first | omega | exact hk.elim | (dsimp only at hk ⊢; omega)))
theorem Q_MO_feed (x1 : Int32) (x2 : Int32) (x3 : Int32) (x4 : Int32) (x5 : Int32) (M : Mem) : wlO (F_MO_feed x1 x2 x3 x4 x5 M) (fun r => Frm (fun k j => (k = 94 ∧ (j = 0 ∨ j = 5)) ∨ k = 97 ∨ k = 98) M r.2) := by
  unfold F_MO_feed
  refine wl_if (fun _ => ?_) (fun _ => ?_)
  · refine wl_if (fun _ => ?_) (fun _ => wl_none)
    refine wl_if (fun _ => ?_) (fun _ => wl_none)
    refine wl_if (fun _ => ?_) (fun _ => wl_none)
    refine wl_if (fun _ => ?_) (fun _ => wl_none)
    refine wl_if (fun _ => ?_) (fun _ => wl_none)
    refine wl_mono (Q_MO_feed_l60 0 (mSI (mSI (mSI (mSI (mSI (mSI M 94 0 0) 98 ((0 : Int32)).toNatClampNeg x1) 98 ((1 : Int32)).toNatClampNeg x2) 98 ((2 : Int32)).toNatClampNeg x3) 98 ((3 : Int32)).toNatClampNeg x4) 98 ((4 : Int32)).toNatClampNeg x5)) (fun ro ho => ?_)
    exact (((((((((((((Frm.rf).sI (by first | omega | (dsimp only; omega)))).sI (by first | omega | (dsimp only; omega)))).sI (by first | omega | (dsimp only; omega)))).sI (by first | omega | (dsimp only; omega)))).sI (by first | omega | (dsimp only; omega)))).sI (by first | omega | (dsimp only; omega)))).tr (Frm.mono ho (fun k j hk => by first | omega | exact hk.elim | (dsimp only at hk ⊢; omega)))
  · exact wl_some ((Frm.rf).sI (by first | omega | (dsimp only; omega)))
theorem Q_MO_end (x1 : Int32) (M : Mem) : wlO (F_MO_end x1 M) (fun r => Frm (fun k j => (k = 94 ∧ (j = 0 ∨ j = 5))) M r.2) := by
  unfold F_MO_end
  refine wl_if (fun _ => ?_) (fun _ => ?_)
  · exact wl_some ((Frm.rf).sI (by first | omega | (dsimp only; omega)))
  · refine wl_if (fun _ => ?_) (fun _ => ?_)
    · exact wl_some ((((Frm.rf).sI (by first | omega | (dsimp only; omega)))).sI (by first | omega | (dsimp only; omega)))
    · exact wl_some ((Frm.rf).sI (by first | omega | (dsimp only; omega)))
theorem Q_MO_uses (M : Mem) : wlO (F_MO_uses M) (fun r => Frm (fun k j => (k = 94 ∧ (j = 0 ∨ j = 5 ∨ j = 6 ∨ j = 7))) M r) := by
  unfold F_MO_uses
  exact wl_some ((((((((Frm.rf).sI (by first | omega | (dsimp only; omega)))).sI (by first | omega | (dsimp only; omega)))).sI (by first | omega | (dsimp only; omega)))).sI (by first | omega | (dsimp only; omega)))
theorem Q_MO_blanks_b0 (z : Mem) : wlO (F_MO_blanks_b0 z) (fun r => (match r with | .inl s => Frm (fun k j => (k = 94 ∧ j = 6)) z s | .inr r => Frm (fun k j => (k = 94 ∧ j = 6)) z r)) := by
  unfold F_MO_blanks_b0
  refine wl_any (fun r1 => ?_)
  refine wl_if (fun _ => ?_) (fun _ => ?_)
  · exact wl_some ((Frm.rf).sI (by first | omega | (dsimp only; omega)))
  · exact wl_some Frm.rf
theorem Q_MO_blanks_l0 (M : Mem) : wlO (F_MO_blanks_l0 M) (fun r => Frm (fun k j => (k = 94 ∧ (j = 6 ∨ j = 8))) M r) := by
  unfold F_MO_blanks_l0
  refine wl_bind (Ψ := fun r => Frm (fun k j => (k = 94 ∧ (j = 6 ∨ j = 8))) M r) (wl_iter (P := fun w9 => Frm (fun k j => (k = 94 ∧ (j = 6 ∨ j = 8))) M w9) (fun w9 hz => wl_mono (Q_MO_blanks_b0  w9) (fun x hx => ?_)) FUEL M (Frm.rf)) (fun r hr => ?_)
  · rcases x with x | x
    · exact hz.tr (Frm.mono hx (fun k j hk => by first | omega | exact hk.elim | (dsimp only at hk ⊢; omega)))
    · exact (hz).tr (Frm.mono hx (fun k j hk => by first | omega | exact hk.elim | (dsimp only at hk ⊢; omega)))
  exact wl_some ((hr).sI (by first | omega | (dsimp only; omega)))
theorem Q_MO_blanks (M : Mem) : wlO (F_MO_blanks M) (fun r => Frm (fun k j => (k = 94 ∧ (j = 6 ∨ j = 8))) M r) := by
  unfold F_MO_blanks
  refine wl_mono (Q_MO_blanks_l0 M) (fun ro ho => ?_)
  exact (Frm.rf).tr (Frm.mono ho (fun k j hk => by first | omega | exact hk.elim | (dsimp only at hk ⊢; omega)))
theorem Q_MO_letters_b4 (z : Mem) : wlO (F_MO_letters_b4 z) (fun r => (match r with | .inl s => Frm (fun k j => (k = 94 ∧ j = 6)) z s | .inr r => Frm (fun k j => (k = 94 ∧ j = 6)) z r)) := by
  unfold F_MO_letters_b4
  refine wl_any (fun r2 => ?_)
  refine wl_if (fun _ => ?_) (fun _ => ?_)
  · exact wl_some ((Frm.rf).sI (by first | omega | (dsimp only; omega)))
  · exact wl_some Frm.rf
theorem Q_MO_letters_l4 (M : Mem) : wlO (F_MO_letters_l4 M) (fun r => Frm (fun k j => (k = 94 ∧ j = 6)) M r) := by
  unfold F_MO_letters_l4
  refine wl_bind (Ψ := fun r => Frm (fun k j => (k = 94 ∧ j = 6)) M r) (wl_iter (P := fun w9 => Frm (fun k j => (k = 94 ∧ j = 6)) M w9) (fun w9 hz => wl_mono (Q_MO_letters_b4  w9) (fun x hx => ?_)) FUEL M (Frm.rf)) (fun r hr => ?_)
  · rcases x with x | x
    · exact hz.tr (Frm.mono hx (fun k j hk => by first | omega | exact hk.elim | (dsimp only at hk ⊢; omega)))
    · exact (hz).tr (Frm.mono hx (fun k j hk => by first | omega | exact hk.elim | (dsimp only at hk ⊢; omega)))
  exact wl_some hr
theorem Q_MO_letters (M : Mem) : wlO (F_MO_letters M) (fun r => Frm (fun k j => (k = 94 ∧ (j = 6 ∨ j = 8))) M r) := by
  unfold F_MO_letters
  refine wl_bind (Q_MO_blanks M) (fun r1 hr1 => ?_)
  have mr1 : Frm (fun k j => (k = 94 ∧ (j = 6 ∨ j = 8))) M r1 := (Frm.rf).tr (Frm.mono hr1 (fun k j hk => by first | omega | exact hk.elim | (dsimp only at hk ⊢; omega)))
  refine wl_mono (Q_MO_letters_l4 r1) (fun ro ho => ?_)
  exact (mr1).tr (Frm.mono ho (fun k j hk => by first | omega | exact hk.elim | (dsimp only at hk ⊢; omega)))
theorem Q_MO_needs (o1w : Nat) (M : Mem) : wlO (F_MO_needs o1w M) (fun r => Frm (fun k j => (k = 94 ∧ (j = 6 ∨ j = 8))) M r.2) := by
  unfold F_MO_needs
  refine wl_bind (Q_MO_letters M) (fun r1 hr1 => ?_)
  have mr1 : Frm (fun k j => (k = 94 ∧ (j = 6 ∨ j = 8))) M r1 := (Frm.rf).tr (Frm.mono hr1 (fun k j hk => by first | omega | exact hk.elim | (dsimp only at hk ⊢; omega)))
  refine wl_any (fun r2 => ?_)
  exact wl_some mr1
theorem Q_MO_sign (x1 : Int32) (M : Mem) : wlO (F_MO_sign x1 M) (fun r => Frm (fun k j => (k = 94 ∧ (j = 6 ∨ j = 8))) M r.2) := by
  unfold F_MO_sign
  refine wl_bind (Q_MO_blanks M) (fun r1 hr1 => ?_)
  have mr1 : Frm (fun k j => (k = 94 ∧ (j = 6 ∨ j = 8))) M r1 := (Frm.rf).tr (Frm.mono hr1 (fun k j hk => by first | omega | exact hk.elim | (dsimp only at hk ⊢; omega)))
  refine wl_any (fun r2 => ?_)
  refine wl_if (fun _ => ?_) (fun _ => ?_)
  · exact wl_some ((mr1).sI (by first | omega | (dsimp only; omega)))
  · exact wl_some mr1
theorem Q_MO_figure_j56 (x1 : Int32) (M : Mem) : wlO (F_MO_figure_j56 x1 M) (fun r => Frm (fun k j => False) M r.2) := by
  unfold F_MO_figure_j56
  refine wl_if (fun _ => ?_) (fun _ => ?_)
  · exact wl_some Frm.rf
  · exact wl_some Frm.rf
theorem Q_MO_figure_b32 (x1 : Int32) (z : Mem) : wlO (F_MO_figure_b32 x1 z) (fun r => (match r with | .inl s => Frm (fun k j => (k = 94 ∧ j = 6)) z s | .inr r => Frm (fun k j => (k = 94 ∧ j = 6)) z r)) := by
  unfold F_MO_figure_b32
  refine wl_any (fun r3 => ?_)
  refine wl_if (fun _ => ?_) (fun _ => ?_)
  · exact wl_some ((Frm.rf).sI (by first | omega | (dsimp only; omega)))
  · exact wl_some Frm.rf
theorem Q_MO_figure_l32 (x1 : Int32) (M : Mem) : wlO (F_MO_figure_l32 x1 M) (fun r => Frm (fun k j => (k = 94 ∧ j = 6)) M r.2) := by
  unfold F_MO_figure_l32
  refine wl_bind (Ψ := fun r => Frm (fun k j => (k = 94 ∧ j = 6)) M r) (wl_iter (P := fun w9 => Frm (fun k j => (k = 94 ∧ j = 6)) M w9) (fun w9 hz => wl_mono (Q_MO_figure_b32 x1 w9) (fun x hx => ?_)) FUEL M (Frm.rf)) (fun r hr => ?_)
  · rcases x with x | x
    · exact hz.tr (Frm.mono hx (fun k j hk => by first | omega | exact hk.elim | (dsimp only at hk ⊢; omega)))
    · exact (hz).tr (Frm.mono hx (fun k j hk => by first | omega | exact hk.elim | (dsimp only at hk ⊢; omega)))
  refine wl_mono (Q_MO_figure_j56 x1 r) (fun ro ho => ?_)
  exact (hr).tr (Frm.mono ho (fun k j hk => by first | omega | exact hk.elim | (dsimp only at hk ⊢; omega)))
theorem Q_MO_figure (M : Mem) : wlO (F_MO_figure M) (fun r => Frm (fun k j => (k = 94 ∧ (j = 6 ∨ j = 8))) M r.2) := by
  unfold F_MO_figure
  refine wl_bind (Q_MO_blanks M) (fun r1 hr1 => ?_)
  have mr1 : Frm (fun k j => (k = 94 ∧ (j = 6 ∨ j = 8))) M r1 := (Frm.rf).tr (Frm.mono hr1 (fun k j hk => by first | omega | exact hk.elim | (dsimp only at hk ⊢; omega)))
  refine wl_any (fun r2 => ?_)
  refine wl_if (fun _ => ?_) (fun _ => ?_)
  · refine wl_if (fun _ => ?_) (fun _ => wl_none)
    refine wl_mono (Q_MO_figure_l32 ((r1.1 97 (r1.1 94 6).toNatClampNeg) - 48) r1) (fun ro ho => ?_)
    exact (mr1).tr (Frm.mono ho (fun k j hk => by first | omega | exact hk.elim | (dsimp only at hk ⊢; omega)))
  · refine wl_mono (Q_MO_figure_l32 ((-1)) r1) (fun ro ho => ?_)
    exact (mr1).tr (Frm.mono ho (fun k j hk => by first | omega | exact hk.elim | (dsimp only at hk ⊢; omega)))
theorem Q_MO_fault (M : Mem) : wlO (F_MO_fault M) (fun r => Frm (fun k j => (k = 94 ∧ j = 0)) M r.2) := by
  unfold F_MO_fault
  exact wl_some ((Frm.rf).sI (by first | omega | (dsimp only; omega)))
theorem Q_MO_readSeen_j126 (x1 : Int32) (x2 : Bool) (x3 : Int32) (x4 : Int32) (x5 : Int32) (M : Mem) : wlO (F_MO_readSeen_j126 x1 x2 x3 x4 x5 M) (fun r => (match r with | .inl s => Frm (fun k j => k = 99) M s.2 | .inr r => Frm (fun k j => k = 99) M r)) := by
  unfold F_MO_readSeen_j126
  refine wl_if (fun _ => ?_) (fun _ => wl_none)
  exact wl_some ((Frm.rf).sI (by first | omega | (dsimp only; omega)))
theorem Q_MO_readSeen_b110 (x1 : Int32) (x2 : Bool) (x3 : Int32) (x4 : Int32) (z : Int32 × Mem) : wlO (F_MO_readSeen_b110 x1 x2 x3 x4 z) (fun r => (match r with | .inl s => Frm (fun k j => k = 99) z.2 s.2 | .inr r => Frm (fun k j => k = 99) z.2 r)) := by
  unfold F_MO_readSeen_b110
  refine wl_if (fun _ => ?_) (fun _ => ?_)
  · exact wl_some Frm.rf
  · refine wl_if (fun _ => ?_) (fun _ => ?_)
    · refine wl_mono (Q_MO_readSeen_j126 x1 x2 x3 x4 z.1 z.2) (fun ro ho => ?_)
      rcases ro with s1 | s1
      · exact (Frm.rf).tr (Frm.mono ho (fun k j hk => by first | omega | exact hk.elim | (dsimp only at hk ⊢; omega)))
      · exact (Frm.rf).tr (Frm.mono ho (fun k j hk => by first | omega | exact hk.elim | (dsimp only at hk ⊢; omega)))
    · refine wl_if (fun _ => ?_) (fun _ => ?_)
      · refine wl_mono (Q_MO_readSeen_j126 x1 x2 x3 x4 z.1 z.2) (fun ro ho => ?_)
        rcases ro with s2 | s2
        · exact (Frm.rf).tr (Frm.mono ho (fun k j hk => by first | omega | exact hk.elim | (dsimp only at hk ⊢; omega)))
        · exact (Frm.rf).tr (Frm.mono ho (fun k j hk => by first | omega | exact hk.elim | (dsimp only at hk ⊢; omega)))
      · exact wl_some Frm.rf
theorem Q_MO_readSeen_l110 (x1 : Int32) (x2 : Bool) (x3 : Int32) (x4 : Int32) (x5 : Int32) (M : Mem) : wlO (F_MO_readSeen_l110 x1 x2 x3 x4 x5 M) (fun r => Frm (fun k j => k = 99) M r.2) := by
  unfold F_MO_readSeen_l110
  refine wl_bind (Ψ := fun r => Frm (fun k j => k = 99) M r) (wl_iter (P := fun w9 => Frm (fun k j => k = 99) M w9.2) (fun w9 hz => wl_mono (Q_MO_readSeen_b110 x1 x2 x3 x4 w9) (fun x hx => ?_)) FUEL (x5, M) (Frm.rf)) (fun r hr => ?_)
  · rcases x with x | x
    · exact hz.tr (Frm.mono hx (fun k j hk => by first | omega | exact hk.elim | (dsimp only at hk ⊢; omega)))
    · exact (hz).tr (Frm.mono hx (fun k j hk => by first | omega | exact hk.elim | (dsimp only at hk ⊢; omega)))
  exact wl_some hr
theorem Q_MO_readSeen_j49 (x1 : Int32) (x2 : Bool) (x3 : Int32) (M : Mem) : wlO (F_MO_readSeen_j49 x1 x2 x3 M) (fun r => Frm (fun k j => (k = 94 ∧ (j = 6 ∨ j = 8 ∨ j = 14)) ∨ k = 99 ∨ k = 100 ∨ k = 101) M r.2) := by
  unfold F_MO_readSeen_j49
  refine wl_bind (Q_MO_needs 2 M) (fun r4 hr4 => ?_)
  have mr4 : Frm (fun k j => (k = 94 ∧ (j = 6 ∨ j = 8 ∨ j = 14)) ∨ k = 99 ∨ k = 100 ∨ k = 101) M r4.2 := (Frm.rf).tr (Frm.mono hr4 (fun k j hk => by first | omega | exact hk.elim | (dsimp only at hk ⊢; omega)))
  refine wl_if (fun _ => ?_) (fun _ => ?_)
  · refine wl_bind (Q_MO_figure r4.2) (fun r5 hr5 => ?_)
    have mr5 : Frm (fun k j => (k = 94 ∧ (j = 6 ∨ j = 8 ∨ j = 14)) ∨ k = 99 ∨ k = 100 ∨ k = 101) M r5.2 := (mr4).tr (Frm.mono hr5 (fun k j hk => by first | omega | exact hk.elim | (dsimp only at hk ⊢; omega)))
    refine wl_if (fun _ => ?_) (fun _ => ?_)
    · refine wl_if (fun _ => ?_) (fun _ => wl_none)
      refine wl_if (fun _ => ?_) (fun _ => wl_none)
      refine wl_mono (Q_MO_readSeen_l110 x1 x2 x3 r5.1 0 (mSI (mSI (mSI r5.2 100 (r5.2.1 94 14).toNatClampNeg r5.1) 101 ((mSI r5.2 100 (r5.2.1 94 14).toNatClampNeg r5.1).1 94 14).toNatClampNeg ((mSI r5.2 100 (r5.2.1 94 14).toNatClampNeg r5.1).1 94 8)) 94 14 (((mSI (mSI r5.2 100 (r5.2.1 94 14).toNatClampNeg r5.1) 101 ((mSI r5.2 100 (r5.2.1 94 14).toNatClampNeg r5.1).1 94 14).toNatClampNeg ((mSI r5.2 100 (r5.2.1 94 14).toNatClampNeg r5.1).1 94 8)).1 94 14) + 1))) (fun ro ho => ?_)
      exact (((((((mr5).sI (by first | omega | (dsimp only; omega)))).sI (by first | omega | (dsimp only; omega)))).sI (by first | omega | (dsimp only; omega)))).tr (Frm.mono ho (fun k j hk => by first | omega | exact hk.elim | (dsimp only at hk ⊢; omega)))
    · exact wl_some mr5
  · exact wl_some mr4
theorem Q_MO_readSeen_j40 (x1 : Int32) (x2 : Bool) (s0 : Int32) (M : Mem) : wlO (F_MO_readSeen_j40 x1 x2 s0 M) (fun r => Frm (fun k j => (k = 94 ∧ (j = 6 ∨ j = 8 ∨ j = 14)) ∨ k = 99 ∨ k = 100 ∨ k = 101) M r.2) := by
  unfold F_MO_readSeen_j40
  refine wl_if (fun _ => ?_) (fun _ => ?_)
  · refine wl_mono (Q_MO_readSeen_j49 x1 x2 s0 M) (fun ro ho => ?_)
    exact (Frm.rf).tr (Frm.mono ho (fun k j hk => by first | omega | exact hk.elim | (dsimp only at hk ⊢; omega)))
  · refine wl_if (fun _ => ?_) (fun _ => ?_)
    · exact wl_some Frm.rf
    · refine wl_mono (Q_MO_readSeen_j49 x1 x2 s0 M) (fun ro ho => ?_)
      exact (Frm.rf).tr (Frm.mono ho (fun k j hk => by first | omega | exact hk.elim | (dsimp only at hk ⊢; omega)))
theorem Q_MO_readSeen_j28 (x1 : Int32) (x2 : Bool) (M : Mem) : wlO (F_MO_readSeen_j28 x1 x2 M) (fun r => Frm (fun k j => (k = 94 ∧ (j = 6 ∨ j = 8 ∨ j = 14)) ∨ k = 99 ∨ k = 100 ∨ k = 101) M r.2) := by
  unfold F_MO_readSeen_j28
  refine wl_if (fun _ => ?_) (fun _ => ?_)
  · refine wl_mono (Q_MO_readSeen_j40 x1 x2 ((-1)) M) (fun ro ho => ?_)
    exact (Frm.rf).tr (Frm.mono ho (fun k j hk => by first | omega | exact hk.elim | (dsimp only at hk ⊢; omega)))
  · refine wl_bind (Q_MO_figure M) (fun r3 hr3 => ?_)
    have mr3 : Frm (fun k j => (k = 94 ∧ (j = 6 ∨ j = 8 ∨ j = 14)) ∨ k = 99 ∨ k = 100 ∨ k = 101) M r3.2 := (Frm.rf).tr (Frm.mono hr3 (fun k j hk => by first | omega | exact hk.elim | (dsimp only at hk ⊢; omega)))
    refine wl_mono (Q_MO_readSeen_j40 x1 x2 r3.1 r3.2) (fun ro ho => ?_)
    exact (mr3).tr (Frm.mono ho (fun k j hk => by first | omega | exact hk.elim | (dsimp only at hk ⊢; omega)))
theorem Q_MO_readSeen (x1 : Int32) (M : Mem) : wlO (F_MO_readSeen x1 M) (fun r => Frm (fun k j => (k = 94 ∧ (j = 6 ∨ j = 8 ∨ j = 14)) ∨ k = 99 ∨ k = 100 ∨ k = 101) M r.2) := by
  unfold F_MO_readSeen
  refine wl_bind (Q_MO_letters M) (fun r1 hr1 => ?_)
  have mr1 : Frm (fun k j => (k = 94 ∧ (j = 6 ∨ j = 8 ∨ j = 14)) ∨ k = 99 ∨ k = 100 ∨ k = 101) M r1 := (Frm.rf).tr (Frm.mono hr1 (fun k j hk => by first | omega | exact hk.elim | (dsimp only at hk ⊢; omega)))
  refine wl_any (fun r2 => ?_)
  refine wl_if (fun _ => ?_) (fun _ => ?_)
  · refine wl_mono (Q_MO_readSeen_j28 x1 r2 r1) (fun ro ho => ?_)
    exact (mr1).tr (Frm.mono ho (fun k j hk => by first | omega | exact hk.elim | (dsimp only at hk ⊢; omega)))
  · refine wl_if (fun _ => ?_) (fun _ => ?_)
    · refine wl_mono (Q_MO_readSeen_j28 x1 r2 r1) (fun ro ho => ?_)
      exact (mr1).tr (Frm.mono ho (fun k j hk => by first | omega | exact hk.elim | (dsimp only at hk ⊢; omega)))
    · exact wl_some mr1
theorem Q_MO_readMood_b71 (x1 : Int32) (z : Mem) : wlO (F_MO_readMood_b71 x1 z) (fun r => (match r with | .inl s => Frm (fun k j => (k = 94 ∧ (j = 6 ∨ j = 8 ∨ j = 14)) ∨ k = 99 ∨ k = 100 ∨ k = 101) z s | .inr r => (match r with | .inl s => Frm (fun k j => (k = 94 ∧ (j = 6 ∨ j = 8 ∨ j = 14)) ∨ k = 99 ∨ k = 100 ∨ k = 101) z s | .inr r => Frm (fun k j => (k = 94 ∧ (j = 6 ∨ j = 8 ∨ j = 14)) ∨ k = 99 ∨ k = 100 ∨ k = 101) z r))) := by
  unfold F_MO_readMood_b71
  refine wl_bind (Q_MO_sign 44 z) (fun r4 hr4 => ?_)
  have mr4 : Frm (fun k j => (k = 94 ∧ (j = 6 ∨ j = 8 ∨ j = 14)) ∨ k = 99 ∨ k = 100 ∨ k = 101) z r4.2 := (Frm.rf).tr (Frm.mono hr4 (fun k j hk => by first | omega | exact hk.elim | (dsimp only at hk ⊢; omega)))
  refine wl_if (fun _ => ?_) (fun _ => ?_)
  · refine wl_bind (Q_MO_readSeen x1 r4.2) (fun r5 hr5 => ?_)
    have mr5 : Frm (fun k j => (k = 94 ∧ (j = 6 ∨ j = 8 ∨ j = 14)) ∨ k = 99 ∨ k = 100 ∨ k = 101) z r5.2 := (mr4).tr (Frm.mono hr5 (fun k j hk => by first | omega | exact hk.elim | (dsimp only at hk ⊢; omega)))
    refine wl_if (fun _ => ?_) (fun _ => ?_)
    · exact wl_some mr5
    · exact wl_some mr5
  · exact wl_some mr4
theorem Q_MO_readMood_l71 (x1 : Int32) (M : Mem) : wlO (F_MO_readMood_l71 x1 M) (fun r => Frm (fun k j => (k = 94 ∧ (j = 6 ∨ j = 8 ∨ j = 14)) ∨ k = 99 ∨ k = 100 ∨ k = 101) M r.2) := by
  unfold F_MO_readMood_l71
  refine wl_bind (Ψ := fun q => (match q with | .inl s => Frm (fun k j => (k = 94 ∧ (j = 6 ∨ j = 8 ∨ j = 14)) ∨ k = 99 ∨ k = 100 ∨ k = 101) M s | .inr r => Frm (fun k j => (k = 94 ∧ (j = 6 ∨ j = 8 ∨ j = 14)) ∨ k = 99 ∨ k = 100 ∨ k = 101) M r)) (wl_iter (P := fun w9 => Frm (fun k j => (k = 94 ∧ (j = 6 ∨ j = 8 ∨ j = 14)) ∨ k = 99 ∨ k = 100 ∨ k = 101) M w9) (fun w9 hz => wl_mono (Q_MO_readMood_b71 x1 w9) (fun x hx => ?_)) FUEL M (Frm.rf)) (fun q hq => ?_)
  · rcases x with x | x
    · exact hz.tr (Frm.mono hx (fun k j hk => by first | omega | exact hk.elim | (dsimp only at hk ⊢; omega)))
    · rcases x with s1 | s1
      · exact (hz).tr (Frm.mono hx (fun k j hk => by first | omega | exact hk.elim | (dsimp only at hk ⊢; omega)))
      · exact (hz).tr (Frm.mono hx (fun k j hk => by first | omega | exact hk.elim | (dsimp only at hk ⊢; omega)))
  rcases q with y2 | y2
  · exact wl_some hq
  · exact wl_some hq
theorem Q_MO_readMood_b47 (x1 : Int32) (z : Int32 × Mem) : wlO (F_MO_readMood_b47 x1 z) (fun r => (match r with | .inl s => Frm (fun k j => k = 99) z.2 s.2 | .inr r => Frm (fun k j => k = 99) z.2 r)) := by
  unfold F_MO_readMood_b47
  refine wl_if (fun _ => ?_) (fun _ => ?_)
  · exact wl_some Frm.rf
  · refine wl_if (fun _ => ?_) (fun _ => wl_none)
    exact wl_some ((Frm.rf).sI (by first | omega | (dsimp only; omega)))
theorem Q_MO_readMood_l47 (x1 : Int32) (x2 : Int32) (M : Mem) : wlO (F_MO_readMood_l47 x1 x2 M) (fun r => Frm (fun k j => (k = 94 ∧ (j = 6 ∨ j = 8 ∨ j = 14)) ∨ k = 99 ∨ k = 100 ∨ k = 101) M r.2) := by
  unfold F_MO_readMood_l47
  refine wl_bind (Ψ := fun r => Frm (fun k j => (k = 94 ∧ (j = 6 ∨ j = 8 ∨ j = 14)) ∨ k = 99 ∨ k = 100 ∨ k = 101) M r) (wl_iter (P := fun w9 => Frm (fun k j => (k = 94 ∧ (j = 6 ∨ j = 8 ∨ j = 14)) ∨ k = 99 ∨ k = 100 ∨ k = 101) M w9.2) (fun w9 hz => wl_mono (Q_MO_readMood_b47 x1 w9) (fun x hx => ?_)) FUEL (x2, M) (Frm.rf)) (fun r hr => ?_)
  · rcases x with x | x
    · exact hz.tr (Frm.mono hx (fun k j hk => by first | omega | exact hk.elim | (dsimp only at hk ⊢; omega)))
    · exact (hz).tr (Frm.mono hx (fun k j hk => by first | omega | exact hk.elim | (dsimp only at hk ⊢; omega)))
  refine wl_mono (Q_MO_readMood_l71 x1 r) (fun ro ho => ?_)
  exact (hr).tr (Frm.mono ho (fun k j hk => by first | omega | exact hk.elim | (dsimp only at hk ⊢; omega)))
theorem Q_MO_readMood (x1 : Int32) (M : Mem) : wlO (F_MO_readMood x1 M) (fun r => Frm (fun k j => (k = 94 ∧ (j = 6 ∨ j = 8 ∨ j = 14)) ∨ k = 99 ∨ k = 100 ∨ k = 101) M r.2) := by
  unfold F_MO_readMood
  refine wl_bind (Q_MO_letters M) (fun r1 hr1 => ?_)
  have mr1 : Frm (fun k j => (k = 94 ∧ (j = 6 ∨ j = 8 ∨ j = 14)) ∨ k = 99 ∨ k = 100 ∨ k = 101) M r1 := (Frm.rf).tr (Frm.mono hr1 (fun k j hk => by first | omega | exact hk.elim | (dsimp only at hk ⊢; omega)))
  refine wl_if (fun _ => ?_) (fun _ => ?_)
  · exact wl_some mr1
  · refine wl_any (fun r2 => ?_)
    refine wl_if (fun _ => ?_) (fun _ => ?_)
    · refine wl_bind (Q_MO_figure r1) (fun r3 hr3 => ?_)
      have mr3 : Frm (fun k j => (k = 94 ∧ (j = 6 ∨ j = 8 ∨ j = 14)) ∨ k = 99 ∨ k = 100 ∨ k = 101) M r3.2 := (mr1).tr (Frm.mono hr3 (fun k j hk => by first | omega | exact hk.elim | (dsimp only at hk ⊢; omega)))
      refine wl_if (fun _ => ?_) (fun _ => wl_none)
      refine wl_if (fun _ => ?_) (fun _ => wl_none)
      refine wl_if (fun _ => ?_) (fun _ => ?_)
      · refine wl_mono (Q_MO_readMood_l47 x1 0 (mSI r3.2 99 (1 + x1).toNatClampNeg r3.1)) (fun ro ho => ?_)
        exact (((mr3).sI (by first | omega | (dsimp only; omega)))).tr (Frm.mono ho (fun k j hk => by first | omega | exact hk.elim | (dsimp only at hk ⊢; omega)))
      · exact wl_some ((mr3).sI (by first | omega | (dsimp only; omega)))
    · exact wl_some mr1
theorem Q_MO_readWay_j123 (x1 : Int32) (M : Mem) : wlO (F_MO_readWay_j123 x1 M) (fun r => Frm (fun k j => k = 99) M r.2) := by
  unfold F_MO_readWay_j123
  refine wl_if (fun _ => ?_) (fun _ => wl_none)
  exact wl_some ((Frm.rf).sI (by first | omega | (dsimp only; omega)))
theorem Q_MO_readWay_j105 (x3 : Int32) (M : Mem) : wlO (F_MO_readWay_j105 x3 M) (fun r => Frm (fun k j => (k = 94 ∧ j = 8)) M r.2) := by
  unfold F_MO_readWay_j105
  refine wl_if (fun _ => ?_) (fun _ => wl_none)
  exact wl_some ((Frm.rf).sI (by first | omega | (dsimp only; omega)))
theorem Q_MO_readWay_l87 (x1 : Int32) (x3 : Int32) (M : Mem) : wlO (F_MO_readWay_l87 x1 x3 M) (fun r => Frm (fun k j => (k = 94 ∧ j = 8) ∨ k = 99) M r.2) := by
  unfold F_MO_readWay_l87
  refine wl_any (fun q => ?_)
  rcases q with y1 | y1
  · refine wl_mono (Q_MO_readWay_j105 y1 M) (fun ro ho => ?_)
    exact (Frm.rf).tr (Frm.mono ho (fun k j hk => by first | omega | exact hk.elim | (dsimp only at hk ⊢; omega)))
  · refine wl_mono (Q_MO_readWay_j123 x1 M) (fun ro ho => ?_)
    exact (Frm.rf).tr (Frm.mono ho (fun k j hk => by first | omega | exact hk.elim | (dsimp only at hk ⊢; omega)))
theorem Q_MO_readWay_j64 (x1 : Int32) (x2 : Bool) (M : Mem) : wlO (F_MO_readWay_j64 x1 x2 M) (fun r => (match r with | .inl s => Frm (fun k j => (k = 94 ∧ j = 6)) M s.2.2 | .inr r => (match r with | .inl s => Frm (fun k j => (k = 94 ∧ j = 6)) M s | .inr r => (match r with | .inl s => Frm (fun k j => (k = 94 ∧ j = 6)) M s | .inr r => Frm (fun k j => (k = 94 ∧ j = 6)) M r.2)))) := by
  unfold F_MO_readWay_j64
  refine wl_if (fun _ => ?_) (fun _ => ?_)
  · exact wl_some ((Frm.rf).sI (by first | omega | (dsimp only; omega)))
  · exact wl_some ((Frm.rf).sI (by first | omega | (dsimp only; omega)))
theorem Q_MO_readWay_j46 (x1 : Int32) (s0 : Bool) (M : Mem) : wlO (F_MO_readWay_j46 x1 s0 M) (fun r => (match r with | .inl s => Frm (fun k j => (k = 94 ∧ j = 6)) M s.2.2 | .inr r => (match r with | .inl s => Frm (fun k j => (k = 94 ∧ j = 6)) M s | .inr r => (match r with | .inl s => Frm (fun k j => (k = 94 ∧ j = 6)) M s | .inr r => Frm (fun k j => (k = 94 ∧ j = 6)) M r.2)))) := by
  unfold F_MO_readWay_j46
  refine wl_if (fun _ => ?_) (fun _ => ?_)
  · refine wl_any (fun r3 => ?_)
    refine wl_if (fun _ => ?_) (fun _ => ?_)
    · refine wl_mono (Q_MO_readWay_j64 x1 s0 M) (fun ro ho => ?_)
      rcases ro with s1 | s1
      · exact (Frm.rf).tr (Frm.mono ho (fun k j hk => by first | omega | exact hk.elim | (dsimp only at hk ⊢; omega)))
      · rcases s1 with s2 | s2
        · exact (Frm.rf).tr (Frm.mono ho (fun k j hk => by first | omega | exact hk.elim | (dsimp only at hk ⊢; omega)))
        · rcases s2 with s3 | s3
          · exact (Frm.rf).tr (Frm.mono ho (fun k j hk => by first | omega | exact hk.elim | (dsimp only at hk ⊢; omega)))
          · exact (Frm.rf).tr (Frm.mono ho (fun k j hk => by first | omega | exact hk.elim | (dsimp only at hk ⊢; omega)))
    · exact wl_some Frm.rf
  · refine wl_mono (Q_MO_readWay_j64 x1 s0 M) (fun ro ho => ?_)
    rcases ro with s4 | s4
    · exact (Frm.rf).tr (Frm.mono ho (fun k j hk => by first | omega | exact hk.elim | (dsimp only at hk ⊢; omega)))
    · rcases s4 with s5 | s5
      · exact (Frm.rf).tr (Frm.mono ho (fun k j hk => by first | omega | exact hk.elim | (dsimp only at hk ⊢; omega)))
      · rcases s5 with s6 | s6
        · exact (Frm.rf).tr (Frm.mono ho (fun k j hk => by first | omega | exact hk.elim | (dsimp only at hk ⊢; omega)))
        · exact (Frm.rf).tr (Frm.mono ho (fun k j hk => by first | omega | exact hk.elim | (dsimp only at hk ⊢; omega)))
theorem Q_MO_readWay_b9 (z : Int32 × Bool × Mem) : wlO (F_MO_readWay_b9 z) (fun r => (match r with | .inl s => Frm (fun k j => (k = 94 ∧ (j = 6 ∨ j = 8 ∨ j = 14)) ∨ k = 99 ∨ k = 100 ∨ k = 101) z.2.2 s.2.2 | .inr r => (match r with | .inl s => Frm (fun k j => (k = 94 ∧ (j = 6 ∨ j = 8 ∨ j = 14)) ∨ k = 99 ∨ k = 100 ∨ k = 101) z.2.2 s | .inr r => (match r with | .inl s => Frm (fun k j => (k = 94 ∧ (j = 6 ∨ j = 8 ∨ j = 14)) ∨ k = 99 ∨ k = 100 ∨ k = 101) z.2.2 s | .inr r => Frm (fun k j => (k = 94 ∧ (j = 6 ∨ j = 8 ∨ j = 14)) ∨ k = 99 ∨ k = 100 ∨ k = 101) z.2.2 r.2)))) := by
  unfold F_MO_readWay_b9
  refine wl_if (fun _ => ?_) (fun _ => ?_)
  · refine wl_bind (Q_MO_readMood z.1 z.2.2) (fun r1 hr1 => ?_)
    have mr1 : Frm (fun k j => (k = 94 ∧ (j = 6 ∨ j = 8 ∨ j = 14)) ∨ k = 99 ∨ k = 100 ∨ k = 101) z.2.2 r1.2 := (Frm.rf).tr (Frm.mono hr1 (fun k j hk => by first | omega | exact hk.elim | (dsimp only at hk ⊢; omega)))
    refine wl_if (fun _ => ?_) (fun _ => ?_)
    · refine wl_bind (Q_MO_blanks r1.2) (fun r2 hr2 => ?_)
      have mr2 : Frm (fun k j => (k = 94 ∧ (j = 6 ∨ j = 8 ∨ j = 14)) ∨ k = 99 ∨ k = 100 ∨ k = 101) z.2.2 r2 := (mr1).tr (Frm.mono hr2 (fun k j hk => by first | omega | exact hk.elim | (dsimp only at hk ⊢; omega)))
      refine wl_if (fun _ => ?_) (fun _ => ?_)
      · refine wl_mono (Q_MO_readWay_j46 (z.1 + 1) false r2) (fun ro ho => ?_)
        rcases ro with s1 | s1
        · exact (mr2).tr (Frm.mono ho (fun k j hk => by first | omega | exact hk.elim | (dsimp only at hk ⊢; omega)))
        · rcases s1 with s2 | s2
          · exact (mr2).tr (Frm.mono ho (fun k j hk => by first | omega | exact hk.elim | (dsimp only at hk ⊢; omega)))
          · rcases s2 with s3 | s3
            · exact (mr2).tr (Frm.mono ho (fun k j hk => by first | omega | exact hk.elim | (dsimp only at hk ⊢; omega)))
            · exact (mr2).tr (Frm.mono ho (fun k j hk => by first | omega | exact hk.elim | (dsimp only at hk ⊢; omega)))
      · refine wl_mono (Q_MO_readWay_j46 (z.1 + 1) true r2) (fun ro ho => ?_)
        rcases ro with s4 | s4
        · exact (mr2).tr (Frm.mono ho (fun k j hk => by first | omega | exact hk.elim | (dsimp only at hk ⊢; omega)))
        · rcases s4 with s5 | s5
          · exact (mr2).tr (Frm.mono ho (fun k j hk => by first | omega | exact hk.elim | (dsimp only at hk ⊢; omega)))
          · rcases s5 with s6 | s6
            · exact (mr2).tr (Frm.mono ho (fun k j hk => by first | omega | exact hk.elim | (dsimp only at hk ⊢; omega)))
            · exact (mr2).tr (Frm.mono ho (fun k j hk => by first | omega | exact hk.elim | (dsimp only at hk ⊢; omega)))
    · exact wl_some mr1
  · exact wl_some Frm.rf
theorem Q_MO_readWay_l9 (x1 : Int32) (x2 : Bool) (M : Mem) : wlO (F_MO_readWay_l9 x1 x2 M) (fun r => Frm (fun k j => (k = 94 ∧ (j = 6 ∨ j = 8 ∨ j = 14)) ∨ k = 99 ∨ k = 100 ∨ k = 101) M r.2) := by
  unfold F_MO_readWay_l9
  refine wl_bind (Ψ := fun q => (match q with | .inl s => Frm (fun k j => (k = 94 ∧ (j = 6 ∨ j = 8 ∨ j = 14)) ∨ k = 99 ∨ k = 100 ∨ k = 101) M s | .inr r => (match r with | .inl s => Frm (fun k j => (k = 94 ∧ (j = 6 ∨ j = 8 ∨ j = 14)) ∨ k = 99 ∨ k = 100 ∨ k = 101) M s | .inr r => Frm (fun k j => (k = 94 ∧ (j = 6 ∨ j = 8 ∨ j = 14)) ∨ k = 99 ∨ k = 100 ∨ k = 101) M r.2))) (wl_iter (P := fun w9 => Frm (fun k j => (k = 94 ∧ (j = 6 ∨ j = 8 ∨ j = 14)) ∨ k = 99 ∨ k = 100 ∨ k = 101) M w9.2.2) (fun w9 hz => wl_mono (Q_MO_readWay_b9  w9) (fun x hx => ?_)) FUEL (x1, x2, M) (Frm.rf)) (fun q hq => ?_)
  · rcases x with x | x
    · exact hz.tr (Frm.mono hx (fun k j hk => by first | omega | exact hk.elim | (dsimp only at hk ⊢; omega)))
    · rcases x with s1 | s1
      · exact (hz).tr (Frm.mono hx (fun k j hk => by first | omega | exact hk.elim | (dsimp only at hk ⊢; omega)))
      · rcases s1 with s2 | s2
        · exact (hz).tr (Frm.mono hx (fun k j hk => by first | omega | exact hk.elim | (dsimp only at hk ⊢; omega)))
        · exact (hz).tr (Frm.mono hx (fun k j hk => by first | omega | exact hk.elim | (dsimp only at hk ⊢; omega)))
  rcases q with y3 | y3
  · exact wl_some hq
  · rcases y3 with y4 | y4
    · exact wl_some hq
    · refine wl_mono (Q_MO_readWay_l87 y4.1 0 y4.2) (fun ro ho => ?_)
      exact (hq).tr (Frm.mono ho (fun k j hk => by first | omega | exact hk.elim | (dsimp only at hk ⊢; omega)))
theorem Q_MO_readWay (M : Mem) : wlO (F_MO_readWay M) (fun r => Frm (fun k j => (k = 94 ∧ (j = 6 ∨ j = 8 ∨ j = 14)) ∨ k = 99 ∨ k = 100 ∨ k = 101) M r.2) := by
  unfold F_MO_readWay
  refine wl_mono (Q_MO_readWay_l9 0 true (mSI M 94 14 0)) (fun ro ho => ?_)
  exact (((Frm.rf).sI (by first | omega | (dsimp only; omega)))).tr (Frm.mono ho (fun k j hk => by first | omega | exact hk.elim | (dsimp only at hk ⊢; omega)))
theorem Q_MO_way_j119 (x2 : Int32) (M : Mem) : wlO (F_MO_way_j119 x2 M) (fun r => Frm (fun k j => k = 95) M r.2) := by
  unfold F_MO_way_j119
  refine wl_if (fun _ => ?_) (fun _ => wl_none)
  exact wl_some ((Frm.rf).sI (by first | omega | (dsimp only; omega)))
theorem Q_MO_way_b87 (x2 : Int32) (z : Int32 × Mem) : wlO (F_MO_way_b87 x2 z) (fun r => (match r with | .inl s => Frm (fun k j => k = 95) z.2 s.2 | .inr r => Frm (fun k j => k = 95) z.2 r)) := by
  unfold F_MO_way_b87
  refine wl_if (fun _ => ?_) (fun _ => ?_)
  · exact wl_some Frm.rf
  · refine wl_if (fun _ => ?_) (fun _ => wl_none)
    refine wl_if (fun _ => ?_) (fun _ => wl_none)
    exact wl_some ((Frm.rf).sI (by first | omega | (dsimp only; omega)))
theorem Q_MO_way_l87 (x2 : Int32) (x3 : Int32) (M : Mem) : wlO (F_MO_way_l87 x2 x3 M) (fun r => Frm (fun k j => k = 95) M r.2) := by
  unfold F_MO_way_l87
  refine wl_bind (Ψ := fun r => Frm (fun k j => k = 95) M r) (wl_iter (P := fun w9 => Frm (fun k j => k = 95) M w9.2) (fun w9 hz => wl_mono (Q_MO_way_b87 x2 w9) (fun x hx => ?_)) FUEL (x3, M) (Frm.rf)) (fun r hr => ?_)
  · rcases x with x | x
    · exact hz.tr (Frm.mono hx (fun k j hk => by first | omega | exact hk.elim | (dsimp only at hk ⊢; omega)))
    · exact (hz).tr (Frm.mono hx (fun k j hk => by first | omega | exact hk.elim | (dsimp only at hk ⊢; omega)))
  refine wl_mono (Q_MO_way_j119 x2 r) (fun ro ho => ?_)
  exact (hr).tr (Frm.mono ho (fun k j hk => by first | omega | exact hk.elim | (dsimp only at hk ⊢; omega)))
theorem Q_MO_way_j59 (s1 : Bool) (M : Mem) : wlO (F_MO_way_j59 s1 M) (fun r => Frm (fun k j => (k = 94 ∧ j = 0) ∨ k = 95) M r.2) := by
  unfold F_MO_way_j59
  refine wl_bind (Q_MO_throwsIf ((b2i s1)) 2 M) (fun r4 hr4 => ?_)
  have mr4 : Frm (fun k j => (k = 94 ∧ j = 0) ∨ k = 95) M r4.2 := (Frm.rf).tr (Frm.mono hr4 (fun k j hk => by first | omega | exact hk.elim | (dsimp only at hk ⊢; omega)))
  refine wl_if (fun _ => ?_) (fun _ => ?_)
  · exact wl_some mr4
  · refine wl_if (fun _ => ?_) (fun _ => wl_none)
    refine wl_if (fun _ => ?_) (fun _ => wl_none)
    refine wl_if (fun _ => ?_) (fun _ => wl_none)
    refine wl_mono (Q_MO_way_l87 (r4.2.1 95 ((5 : Int32)).toNatClampNeg) 0 (mSI r4.2 95 ((5 : Int32)).toNatClampNeg ((r4.2.1 95 ((5 : Int32)).toNatClampNeg) + 1))) (fun ro ho => ?_)
    exact (((mr4).sI (by first | omega | (dsimp only; omega)))).tr (Frm.mono ho (fun k j hk => by first | omega | exact hk.elim | (dsimp only at hk ⊢; omega)))
theorem Q_MO_way_j35 (s1 : Bool) (M : Mem) : wlO (F_MO_way_j35 s1 M) (fun r => Frm (fun k j => (k = 94 ∧ j = 0) ∨ k = 95) M r.2) := by
  unfold F_MO_way_j35
  refine wl_bind (Q_MO_throwsIf ((b2i s1)) 1 M) (fun r3 hr3 => ?_)
  have mr3 : Frm (fun k j => (k = 94 ∧ j = 0) ∨ k = 95) M r3.2 := (Frm.rf).tr (Frm.mono hr3 (fun k j hk => by first | omega | exact hk.elim | (dsimp only at hk ⊢; omega)))
  refine wl_if (fun _ => ?_) (fun _ => ?_)
  · exact wl_some mr3
  · refine wl_if (fun _ => ?_) (fun _ => wl_none)
    refine wl_if (fun _ => ?_) (fun _ => ?_)
    · refine wl_mono (Q_MO_way_j59 true r3.2) (fun ro ho => ?_)
      exact (mr3).tr (Frm.mono ho (fun k j hk => by first | omega | exact hk.elim | (dsimp only at hk ⊢; omega)))
    · refine wl_mono (Q_MO_way_j59 false r3.2) (fun ro ho => ?_)
      exact (mr3).tr (Frm.mono ho (fun k j hk => by first | omega | exact hk.elim | (dsimp only at hk ⊢; omega)))
theorem Q_MO_way_j22 (x1 : Bool) (s1 : Int32) (M : Mem) : wlO (F_MO_way_j22 x1 s1 M) (fun r => Frm (fun k j => (k = 94 ∧ (j = 0 ∨ j = 9)) ∨ k = 95) M r.2) := by
  unfold F_MO_way_j22
  refine wl_if (fun _ => ?_) (fun _ => ?_)
  · refine wl_mono (Q_MO_way_j35 false (mSI M 94 9 s1)) (fun ro ho => ?_)
    exact (((Frm.rf).sI (by first | omega | (dsimp only; omega)))).tr (Frm.mono ho (fun k j hk => by first | omega | exact hk.elim | (dsimp only at hk ⊢; omega)))
  · refine wl_mono (Q_MO_way_j35 true (mSI M 94 9 s1)) (fun ro ho => ?_)
    exact (((Frm.rf).sI (by first | omega | (dsimp only; omega)))).tr (Frm.mono ho (fun k j hk => by first | omega | exact hk.elim | (dsimp only at hk ⊢; omega)))
theorem Q_MO_way (M : Mem) : wlO (F_MO_way M) (fun r => Frm (fun k j => (k = 94 ∧ (j = 0 ∨ j = 5 ∨ j = 6 ∨ j = 7 ∨ j = 8 ∨ j = 9 ∨ j = 14)) ∨ k = 95 ∨ k = 99 ∨ k = 100 ∨ k = 101) M r.2) := by
  unfold F_MO_way
  refine wl_bind (Q_MO_uses M) (fun r1 hr1 => ?_)
  have mr1 : Frm (fun k j => (k = 94 ∧ (j = 0 ∨ j = 5 ∨ j = 6 ∨ j = 7 ∨ j = 8 ∨ j = 9 ∨ j = 14)) ∨ k = 95 ∨ k = 99 ∨ k = 100 ∨ k = 101) M r1 := (Frm.rf).tr (Frm.mono hr1 (fun k j hk => by first | omega | exact hk.elim | (dsimp only at hk ⊢; omega)))
  refine wl_bind (Q_MO_readWay r1) (fun r2 hr2 => ?_)
  have mr2 : Frm (fun k j => (k = 94 ∧ (j = 0 ∨ j = 5 ∨ j = 6 ∨ j = 7 ∨ j = 8 ∨ j = 9 ∨ j = 14)) ∨ k = 95 ∨ k = 99 ∨ k = 100 ∨ k = 101) M r2.2 := (mr1).tr (Frm.mono hr2 (fun k j hk => by first | omega | exact hk.elim | (dsimp only at hk ⊢; omega)))
  refine wl_if (fun _ => ?_) (fun _ => ?_)
  · refine wl_mono (Q_MO_way_j22 r2.1 ((-1)) r2.2) (fun ro ho => ?_)
    exact (mr2).tr (Frm.mono ho (fun k j hk => by first | omega | exact hk.elim | (dsimp only at hk ⊢; omega)))
  · refine wl_mono (Q_MO_way_j22 r2.1 (r2.2.1 94 8) r2.2) (fun ro ho => ?_)
    exact (mr2).tr (Frm.mono ho (fun k j hk => by first | omega | exact hk.elim | (dsimp only at hk ⊢; omega)))
theorem Q_MO_mood_j59 (x1 : Int32) (x2 : Int32) (x3 : Int32) (s1 : Bool) (M : Mem) : wlO (F_MO_mood_j59 x1 x2 x3 s1 M) (fun r => Frm (fun k j => (k = 94 ∧ j = 0)) M r.2) := by
  unfold F_MO_mood_j59
  refine wl_bind (Q_MO_throwsIf ((b2i s1)) 2 M) (fun r4 hr4 => ?_)
  have mr4 : Frm (fun k j => (k = 94 ∧ j = 0)) M r4.2 := (Frm.rf).tr (Frm.mono hr4 (fun k j hk => by first | omega | exact hk.elim | (dsimp only at hk ⊢; omega)))
  refine wl_if (fun _ => ?_) (fun _ => ?_)
  · exact wl_some mr4
  · refine wl_if (fun _ => ?_) (fun _ => ?_)
    · refine wl_any (fun r8 => ?_)
      exact wl_some mr4
    · refine wl_if (fun _ => ?_) (fun _ => ?_)
      · refine wl_any (fun r7 => ?_)
        refine wl_if (fun _ => ?_) (fun _ => ?_)
        · exact wl_some mr4
        · exact wl_some mr4
      · refine wl_if (fun _ => ?_) (fun _ => ?_)
        · refine wl_any (fun r6 => ?_)
          exact wl_some mr4
        · refine wl_any (fun r5 => ?_)
          exact wl_some mr4
theorem Q_MO_mood_j37 (x1 : Int32) (x2 : Int32) (x3 : Int32) (s1 : Bool) (M : Mem) : wlO (F_MO_mood_j37 x1 x2 x3 s1 M) (fun r => Frm (fun k j => (k = 94 ∧ j = 0)) M r.2) := by
  unfold F_MO_mood_j37
  refine wl_bind (Q_MO_throwsIf ((b2i s1)) 1 M) (fun r2 hr2 => ?_)
  have mr2 : Frm (fun k j => (k = 94 ∧ j = 0)) M r2.2 := (Frm.rf).tr (Frm.mono hr2 (fun k j hk => by first | omega | exact hk.elim | (dsimp only at hk ⊢; omega)))
  refine wl_if (fun _ => ?_) (fun _ => ?_)
  · exact wl_some mr2
  · refine wl_any (fun r3 => ?_)
    refine wl_if (fun _ => ?_) (fun _ => ?_)
    · refine wl_mono (Q_MO_mood_j59 x1 x2 x3 false r2.2) (fun ro ho => ?_)
      exact (mr2).tr (Frm.mono ho (fun k j hk => by first | omega | exact hk.elim | (dsimp only at hk ⊢; omega)))
    · refine wl_mono (Q_MO_mood_j59 x1 x2 x3 true r2.2) (fun ro ho => ?_)
      exact (mr2).tr (Frm.mono ho (fun k j hk => by first | omega | exact hk.elim | (dsimp only at hk ⊢; omega)))
theorem Q_MO_mood (x1 : Int32) (x2 : Int32) (x3 : Int32) (M : Mem) : wlO (F_MO_mood x1 x2 x3 M) (fun r => Frm (fun k j => (k = 94 ∧ j = 0)) M r.2) := by
  unfold F_MO_mood
  refine wl_any (fun r1 => ?_)
  refine wl_if (fun _ => ?_) (fun _ => ?_)
  · refine wl_mono (Q_MO_mood_j37 x1 x2 x3 true (mSI M 94 0 0)) (fun ro ho => ?_)
    exact (((Frm.rf).sI (by first | omega | (dsimp only; omega)))).tr (Frm.mono ho (fun k j hk => by first | omega | exact hk.elim | (dsimp only at hk ⊢; omega)))
  · refine wl_any (fun r9 => ?_)
    refine wl_if (fun _ => ?_) (fun _ => ?_)
    · refine wl_any (fun r10 => ?_)
      refine wl_if (fun _ => ?_) (fun _ => ?_)
      · refine wl_mono (Q_MO_mood_j37 x1 x2 x3 true (mSI M 94 0 0)) (fun ro ho => ?_)
        exact (((Frm.rf).sI (by first | omega | (dsimp only; omega)))).tr (Frm.mono ho (fun k j hk => by first | omega | exact hk.elim | (dsimp only at hk ⊢; omega)))
      · refine wl_mono (Q_MO_mood_j37 x1 x2 x3 false (mSI M 94 0 0)) (fun ro ho => ?_)
        exact (((Frm.rf).sI (by first | omega | (dsimp only; omega)))).tr (Frm.mono ho (fun k j hk => by first | omega | exact hk.elim | (dsimp only at hk ⊢; omega)))
    · refine wl_mono (Q_MO_mood_j37 x1 x2 x3 false (mSI M 94 0 0)) (fun ro ho => ?_)
      exact (((Frm.rf).sI (by first | omega | (dsimp only; omega)))).tr (Frm.mono ho (fun k j hk => by first | omega | exact hk.elim | (dsimp only at hk ⊢; omega)))
theorem Q_MO_tells_j13 (x1 : Int64) (x3 : Int64) (s0 : Int64) (M : Mem) : wlO (F_MO_tells_j13 x1 x3 s0 M) (fun r => Frm (fun k j => (k = 94 ∧ (j = 15 ∨ j = 16))) M r) := by
  unfold F_MO_tells_j13
  refine wl_any (fun r1 => ?_)
  refine wl_if (fun _ => ?_) (fun _ => wl_none)
  refine wl_if (fun _ => ?_) (fun _ => wl_none)
  exact wl_some ((((Frm.rf).sL (by first | omega | (dsimp only; omega)))).sL (by first | omega | (dsimp only; omega)))
theorem Q_MO_tells (x1 : Int64) (x3 : Int64) (M : Mem) : wlO (F_MO_tells x1 x3 M) (fun r => Frm (fun k j => (k = 94 ∧ (j = 15 ∨ j = 16))) M r) := by
  unfold F_MO_tells
  refine wl_if (fun _ => ?_) (fun _ => ?_)
  · refine wl_mono (Q_MO_tells_j13 x1 x3 1 M) (fun ro ho => ?_)
    exact (Frm.rf).tr (Frm.mono ho (fun k j hk => by first | omega | exact hk.elim | (dsimp only at hk ⊢; omega)))
  · refine wl_mono (Q_MO_tells_j13 x1 x3 ((-1)) M) (fun ro ho => ?_)
    exact (Frm.rf).tr (Frm.mono ho (fun k j hk => by first | omega | exact hk.elim | (dsimp only at hk ⊢; omega)))
theorem Q_MO_worthOf_b97 (z : Int32 × Mem) : wlO (F_MO_worthOf_b97 z) (fun r => (match r with | .inl s => Frm (fun k j => (k = 94 ∧ (j = 15 ∨ j = 16))) z.2 s.2 | .inr r => Frm (fun k j => (k = 94 ∧ (j = 15 ∨ j = 16))) z.2 r)) := by
  obtain ⟨z_1, z_2⟩ := z
  unfold F_MO_worthOf_b97
  dsimp only
  refine wl_if (fun _ => ?_) (fun _ => ?_)
  · exact wl_some Frm.rf
  · refine wl_if (fun _ => ?_) (fun _ => wl_none)
    refine wl_bind (Q_MO_tells (((((z_2.1 102 z_1.toNatClampNeg).toInt64) * ((z_2.1 94 20).toInt64)) * (z_2.2 94 16)) + (((z_2.1 94 19).toInt64) * (z_2.2 94 15))) (((z_2.1 94 20).toInt64) * (z_2.2 94 16)) z_2) (fun r2 hr2 => ?_)
    have mr2 : Frm (fun k j => (k = 94 ∧ (j = 15 ∨ j = 16))) z_2 r2 := (Frm.rf).tr (Frm.mono hr2 (fun k j hk => by first | omega | exact hk.elim | (dsimp only at hk ⊢; omega)))
    exact wl_some mr2
theorem Q_MO_worthOf_l97 (x11 : Int32) (M : Mem) : wlO (F_MO_worthOf_l97 x11 M) (fun r => Frm (fun k j => (k = 94 ∧ (j = 15 ∨ j = 16))) M r) := by
  unfold F_MO_worthOf_l97
  refine wl_bind (Ψ := fun r => Frm (fun k j => (k = 94 ∧ (j = 15 ∨ j = 16))) M r) (wl_iter (P := fun w9 => Frm (fun k j => (k = 94 ∧ (j = 15 ∨ j = 16))) M w9.2) (fun w9 hz => wl_mono (Q_MO_worthOf_b97  w9) (fun x hx => ?_)) FUEL (x11, M) (Frm.rf)) (fun r hr => ?_)
  · rcases x with x | x
    · exact hz.tr (Frm.mono hx (fun k j hk => by first | omega | exact hk.elim | (dsimp only at hk ⊢; omega)))
    · exact (hz).tr (Frm.mono hx (fun k j hk => by first | omega | exact hk.elim | (dsimp only at hk ⊢; omega)))
  exact wl_some hr
theorem Q_MO_worthOf_j76 (x2 : Int32) (x3 : Int64) (x7 : Int64) (x9 : Int64) (M : Mem) : wlO (F_MO_worthOf_j76 x2 x3 x7 x9 M) (fun r => Frm (fun k j => (k = 94 ∧ (j = 15 ∨ j = 16))) M r) := by
  unfold F_MO_worthOf_j76
  refine wl_bind (Q_MO_tells (x3 * ((M.1 94 20).toInt64)) (x7 - x9) M) (fun r1 hr1 => ?_)
  have mr1 : Frm (fun k j => (k = 94 ∧ (j = 15 ∨ j = 16))) M r1 := (Frm.rf).tr (Frm.mono hr1 (fun k j hk => by first | omega | exact hk.elim | (dsimp only at hk ⊢; omega)))
  refine wl_mono (Q_MO_worthOf_l97 (x2 - 1) r1) (fun ro ho => ?_)
  exact (mr1).tr (Frm.mono ho (fun k j hk => by first | omega | exact hk.elim | (dsimp only at hk ⊢; omega)))
theorem Q_MO_worthOf_l14 (x1 : Int32) (x2 : Int32) (x3 : Int64) (x5 : Int64) (x7 : Int64) (x9 : Int64) (x11 : Int32) (M : Mem) : wlO (F_MO_worthOf_l14 x1 x2 x3 x5 x7 x9 x11 M) (fun r => Frm (fun k j => (k = 94 ∧ (j = 15 ∨ j = 16))) M r) := by
  unfold F_MO_worthOf_l14
  refine wl_any (fun r => ?_)
  refine wl_mono (Q_MO_worthOf_j76 x2 r.1 r.2.1 r.2.2 M) (fun ro ho => ?_)
  exact (Frm.rf).tr (Frm.mono ho (fun k j hk => by first | omega | exact hk.elim | (dsimp only at hk ⊢; omega)))
theorem Q_MO_worthOf (x1 : Int32) (x2 : Int32) (M : Mem) : wlO (F_MO_worthOf x1 x2 M) (fun r => Frm (fun k j => (k = 94 ∧ (j = 15 ∨ j = 16))) M r) := by
  unfold F_MO_worthOf
  refine wl_mono (Q_MO_worthOf_l14 x1 x2 0 1 1 1 x2 M) (fun ro ho => ?_)
  exact (Frm.rf).tr (Frm.mono ho (fun k j hk => by first | omega | exact hk.elim | (dsimp only at hk ⊢; omega)))
theorem Q_MO_worths_j109 (x1 : Int32) (x2 : Int32) (x3 : Int32) (x4 : Int32) (x5 : Int32) (x6 : Int32) (M : Mem) : wlO (F_MO_worths_j109 x1 x2 x3 x4 x5 x6 M) (fun r => (match r with | .inl s => Frm (fun k j => (k = 94 ∧ (j = 15 ∨ j = 16)) ∨ k = 104 ∨ k = 105) M s.2 | .inr r => Frm (fun k j => (k = 94 ∧ (j = 15 ∨ j = 16)) ∨ k = 104 ∨ k = 105) M r)) := by
  unfold F_MO_worths_j109
  refine wl_if (fun _ => ?_) (fun _ => wl_none)
  refine wl_bind (Q_MO_worthOf x5 (M.1 103 x6.toNatClampNeg) M) (fun r2 hr2 => ?_)
  have mr2 : Frm (fun k j => (k = 94 ∧ (j = 15 ∨ j = 16)) ∨ k = 104 ∨ k = 105) M r2 := (Frm.rf).tr (Frm.mono hr2 (fun k j hk => by first | omega | exact hk.elim | (dsimp only at hk ⊢; omega)))
  refine wl_if (fun _ => ?_) (fun _ => wl_none)
  refine wl_if (fun _ => ?_) (fun _ => wl_none)
  exact wl_some ((((mr2).sL (by first | omega | (dsimp only; omega)))).sL (by first | omega | (dsimp only; omega)))
theorem Q_MO_worths_b57 (x1 : Int32) (x2 : Int32) (x3 : Int32) (x4 : Int32) (z : Int32 × Int32 × Mem) : wlO (F_MO_worths_b57 x1 x2 x3 x4 z) (fun r => (match r with | .inl s => Frm (fun k j => k = 102 ∨ k = 103) z.2.2 s.2.2 | .inr r => Frm (fun k j => k = 102 ∨ k = 103) z.2.2 r.2.2)) := by
  unfold F_MO_worths_b57
  refine wl_if (fun _ => ?_) (fun _ => wl_none)
  refine wl_if (fun _ => ?_) (fun _ => ?_)
  · exact wl_some Frm.rf
  · refine wl_if (fun _ => ?_) (fun _ => wl_none)
    refine wl_any (fun r3 => ?_)
    refine wl_if (fun _ => ?_) (fun _ => wl_none)
    refine wl_any (fun r4 => ?_)
    exact wl_some ((((Frm.rf).sI (by first | omega | (dsimp only; omega)))).sI (by first | omega | (dsimp only; omega)))
theorem Q_MO_worths_l57 (x1 : Int32) (x2 : Int32) (x3 : Int32) (x4 : Int32) (x5 : Int32) (x6 : Int32) (M : Mem) : wlO (F_MO_worths_l57 x1 x2 x3 x4 x5 x6 M) (fun r => (match r with | .inl s => Frm (fun k j => (k = 94 ∧ (j = 15 ∨ j = 16)) ∨ k = 102 ∨ k = 103 ∨ k = 104 ∨ k = 105) M s.2 | .inr r => Frm (fun k j => (k = 94 ∧ (j = 15 ∨ j = 16)) ∨ k = 102 ∨ k = 103 ∨ k = 104 ∨ k = 105) M r)) := by
  unfold F_MO_worths_l57
  refine wl_bind (Ψ := fun r => Frm (fun k j => (k = 94 ∧ (j = 15 ∨ j = 16)) ∨ k = 102 ∨ k = 103 ∨ k = 104 ∨ k = 105) M r.2.2) (wl_iter (P := fun w9 => Frm (fun k j => (k = 94 ∧ (j = 15 ∨ j = 16)) ∨ k = 102 ∨ k = 103 ∨ k = 104 ∨ k = 105) M w9.2.2) (fun w9 hz => wl_mono (Q_MO_worths_b57 x1 x2 x3 x4 w9) (fun x hx => ?_)) FUEL (x5, x6, M) (Frm.rf)) (fun r hr => ?_)
  · rcases x with x | x
    · exact hz.tr (Frm.mono hx (fun k j hk => by first | omega | exact hk.elim | (dsimp only at hk ⊢; omega)))
    · exact (hz).tr (Frm.mono hx (fun k j hk => by first | omega | exact hk.elim | (dsimp only at hk ⊢; omega)))
  refine wl_mono (Q_MO_worths_j109 x1 x2 x3 x4 r.1 r.2.1 r.2.2) (fun ro ho => ?_)
  rcases ro with s1 | s1
  · exact (hr).tr (Frm.mono ho (fun k j hk => by first | omega | exact hk.elim | (dsimp only at hk ⊢; omega)))
  · exact (hr).tr (Frm.mono ho (fun k j hk => by first | omega | exact hk.elim | (dsimp only at hk ⊢; omega)))
theorem Q_MO_worths_b30 (x1 : Int32) (x2 : Int32) (x3 : Int32) (x4 : Int32) (z : Int32 × Mem) : wlO (F_MO_worths_b30 x1 x2 x3 x4 z) (fun r => (match r with | .inl s => Frm (fun k j => k = 103) z.2 s.2 | .inr r => Frm (fun k j => k = 103) z.2 r)) := by
  unfold F_MO_worths_b30
  refine wl_if (fun _ => ?_) (fun _ => ?_)
  · exact wl_some Frm.rf
  · refine wl_if (fun _ => ?_) (fun _ => wl_none)
    exact wl_some ((Frm.rf).sI (by first | omega | (dsimp only; omega)))
theorem Q_MO_worths_l30 (x1 : Int32) (x2 : Int32) (x3 : Int32) (x4 : Int32) (x5 : Int32) (M : Mem) : wlO (F_MO_worths_l30 x1 x2 x3 x4 x5 M) (fun r => (match r with | .inl s => Frm (fun k j => (k = 94 ∧ (j = 15 ∨ j = 16)) ∨ k = 102 ∨ k = 103 ∨ k = 104 ∨ k = 105) M s.2 | .inr r => Frm (fun k j => (k = 94 ∧ (j = 15 ∨ j = 16)) ∨ k = 102 ∨ k = 103 ∨ k = 104 ∨ k = 105) M r)) := by
  unfold F_MO_worths_l30
  refine wl_bind (Ψ := fun r => Frm (fun k j => (k = 94 ∧ (j = 15 ∨ j = 16)) ∨ k = 102 ∨ k = 103 ∨ k = 104 ∨ k = 105) M r) (wl_iter (P := fun w9 => Frm (fun k j => (k = 94 ∧ (j = 15 ∨ j = 16)) ∨ k = 102 ∨ k = 103 ∨ k = 104 ∨ k = 105) M w9.2) (fun w9 hz => wl_mono (Q_MO_worths_b30 x1 x2 x3 x4 w9) (fun x hx => ?_)) FUEL (x5, M) (Frm.rf)) (fun r hr => ?_)
  · rcases x with x | x
    · exact hz.tr (Frm.mono hx (fun k j hk => by first | omega | exact hk.elim | (dsimp only at hk ⊢; omega)))
    · exact (hz).tr (Frm.mono hx (fun k j hk => by first | omega | exact hk.elim | (dsimp only at hk ⊢; omega)))
  refine wl_mono (Q_MO_worths_l57 x1 x2 x3 x4 0 x3 r) (fun ro ho => ?_)
  rcases ro with s1 | s1
  · exact (hr).tr (Frm.mono ho (fun k j hk => by first | omega | exact hk.elim | (dsimp only at hk ⊢; omega)))
  · exact (hr).tr (Frm.mono ho (fun k j hk => by first | omega | exact hk.elim | (dsimp only at hk ⊢; omega)))
theorem Q_MO_worths_b11 (x1 : Int32) (x2 : Int32) (x3 : Int32) (z : Int32 × Mem) : wlO (F_MO_worths_b11 x1 x2 x3 z) (fun r => (match r with | .inl s => Frm (fun k j => (k = 94 ∧ (j = 15 ∨ j = 16)) ∨ k = 102 ∨ k = 103 ∨ k = 104 ∨ k = 105) z.2 s.2 | .inr r => Frm (fun k j => (k = 94 ∧ (j = 15 ∨ j = 16)) ∨ k = 102 ∨ k = 103 ∨ k = 104 ∨ k = 105) z.2 r)) := by
  unfold F_MO_worths_b11
  refine wl_if (fun _ => ?_) (fun _ => ?_)
  · exact wl_some Frm.rf
  · refine wl_any (fun r1 => ?_)
    refine wl_if (fun _ => ?_) (fun _ => ?_)
    · refine wl_mono (Q_MO_worths_l30 x1 x2 x3 z.1 0 z.2) (fun ro ho => ?_)
      rcases ro with s1 | s1
      · exact (Frm.rf).tr (Frm.mono ho (fun k j hk => by first | omega | exact hk.elim | (dsimp only at hk ⊢; omega)))
      · exact (Frm.rf).tr (Frm.mono ho (fun k j hk => by first | omega | exact hk.elim | (dsimp only at hk ⊢; omega)))
    · exact wl_some Frm.rf
theorem Q_MO_worths_l11 (x1 : Int32) (x2 : Int32) (x3 : Int32) (x4 : Int32) (M : Mem) : wlO (F_MO_worths_l11 x1 x2 x3 x4 M) (fun r => (match r with | .inl s => Frm (fun k j => (k = 94 ∧ (j = 15 ∨ j = 16)) ∨ k = 102 ∨ k = 103 ∨ k = 104 ∨ k = 105) M s.2 | .inr r => Frm (fun k j => (k = 94 ∧ (j = 15 ∨ j = 16)) ∨ k = 102 ∨ k = 103 ∨ k = 104 ∨ k = 105) M r)) := by
  unfold F_MO_worths_l11
  refine wl_bind (Ψ := fun r => Frm (fun k j => (k = 94 ∧ (j = 15 ∨ j = 16)) ∨ k = 102 ∨ k = 103 ∨ k = 104 ∨ k = 105) M r) (wl_iter (P := fun w9 => Frm (fun k j => (k = 94 ∧ (j = 15 ∨ j = 16)) ∨ k = 102 ∨ k = 103 ∨ k = 104 ∨ k = 105) M w9.2) (fun w9 hz => wl_mono (Q_MO_worths_b11 x1 x2 x3 w9) (fun x hx => ?_)) FUEL (x4, M) (Frm.rf)) (fun r hr => ?_)
  · rcases x with x | x
    · exact hz.tr (Frm.mono hx (fun k j hk => by first | omega | exact hk.elim | (dsimp only at hk ⊢; omega)))
    · exact (hz).tr (Frm.mono hx (fun k j hk => by first | omega | exact hk.elim | (dsimp only at hk ⊢; omega)))
  exact wl_some hr
theorem Q_MO_worths_b2 (x1 : Int32) (x2 : Int32) (z : Int32 × Mem) : wlO (F_MO_worths_b2 x1 x2 z) (fun r => (match r with | .inl s => Frm (fun k j => (k = 94 ∧ (j = 15 ∨ j = 16)) ∨ k = 102 ∨ k = 103 ∨ k = 104 ∨ k = 105) z.2 s.2 | .inr r => Frm (fun k j => (k = 94 ∧ (j = 15 ∨ j = 16)) ∨ k = 102 ∨ k = 103 ∨ k = 104 ∨ k = 105) z.2 r)) := by
  unfold F_MO_worths_b2
  refine wl_if (fun _ => ?_) (fun _ => ?_)
  · exact wl_some Frm.rf
  · refine wl_mono (Q_MO_worths_l11 x1 x2 z.1 0 z.2) (fun ro ho => ?_)
    rcases ro with s1 | s1
    · exact (Frm.rf).tr (Frm.mono ho (fun k j hk => by first | omega | exact hk.elim | (dsimp only at hk ⊢; omega)))
    · exact (Frm.rf).tr (Frm.mono ho (fun k j hk => by first | omega | exact hk.elim | (dsimp only at hk ⊢; omega)))
theorem Q_MO_worths_l2 (x1 : Int32) (x2 : Int32) (x3 : Int32) (M : Mem) : wlO (F_MO_worths_l2 x1 x2 x3 M) (fun r => Frm (fun k j => (k = 94 ∧ (j = 15 ∨ j = 16)) ∨ k = 102 ∨ k = 103 ∨ k = 104 ∨ k = 105) M r) := by
  unfold F_MO_worths_l2
  refine wl_bind (Ψ := fun r => Frm (fun k j => (k = 94 ∧ (j = 15 ∨ j = 16)) ∨ k = 102 ∨ k = 103 ∨ k = 104 ∨ k = 105) M r) (wl_iter (P := fun w9 => Frm (fun k j => (k = 94 ∧ (j = 15 ∨ j = 16)) ∨ k = 102 ∨ k = 103 ∨ k = 104 ∨ k = 105) M w9.2) (fun w9 hz => wl_mono (Q_MO_worths_b2 x1 x2 w9) (fun x hx => ?_)) FUEL (x3, M) (Frm.rf)) (fun r hr => ?_)
  · rcases x with x | x
    · exact hz.tr (Frm.mono hx (fun k j hk => by first | omega | exact hk.elim | (dsimp only at hk ⊢; omega)))
    · exact (hz).tr (Frm.mono hx (fun k j hk => by first | omega | exact hk.elim | (dsimp only at hk ⊢; omega)))
  exact wl_some hr
theorem Q_MO_worths (x1 : Int32) (x2 : Int32) (M : Mem) : wlO (F_MO_worths x1 x2 M) (fun r => Frm (fun k j => (k = 94 ∧ (j = 15 ∨ j = 16)) ∨ k = 102 ∨ k = 103 ∨ k = 104 ∨ k = 105) M r) := by
  unfold F_MO_worths
  refine wl_mono (Q_MO_worths_l2 x1 x2 0 M) (fun ro ho => ?_)
  exact (Frm.rf).tr (Frm.mono ho (fun k j hk => by first | omega | exact hk.elim | (dsimp only at hk ⊢; omega)))
theorem Q_MO_plainTomorrow (M : Mem) : wlO (F_MO_plainTomorrow M) (fun r => Frm (fun k j => (k = 94 ∧ (j = 19 ∨ j = 20))) M r) := by
  unfold F_MO_plainTomorrow
  refine wl_if (fun _ => ?_) (fun _ => wl_none)
  refine wl_if (fun _ => ?_) (fun _ => wl_none)
  exact wl_some ((((Frm.rf).sI (by first | omega | (dsimp only; omega)))).sI (by first | omega | (dsimp only; omega)))
theorem Q_MO_worth_j38 (x1 : Int32) (x2 : Int32) (x3 : Int32) (x4 : Int32) (x5 : Int32) (x6 : Int32) (s1 : Bool) (M : Mem) : wlO (F_MO_worth_j38 x1 x2 x3 x4 x5 x6 s1 M) (fun r => Frm (fun k j => (k = 94 ∧ (j = 0 ∨ j = 15 ∨ j = 16 ∨ j = 19 ∨ j = 20)) ∨ k = 102 ∨ k = 103 ∨ k = 104 ∨ k = 105) M r.2) := by
  unfold F_MO_worth_j38
  refine wl_bind (Q_MO_throwsIf ((b2i s1)) 1 M) (fun r2 hr2 => ?_)
  have mr2 : Frm (fun k j => (k = 94 ∧ (j = 0 ∨ j = 15 ∨ j = 16 ∨ j = 19 ∨ j = 20)) ∨ k = 102 ∨ k = 103 ∨ k = 104 ∨ k = 105) M r2.2 := (Frm.rf).tr (Frm.mono hr2 (fun k j hk => by first | omega | exact hk.elim | (dsimp only at hk ⊢; omega)))
  refine wl_if (fun _ => ?_) (fun _ => ?_)
  · exact wl_some mr2
  · refine wl_any (fun r3 => ?_)
    refine wl_bind (Q_MO_throwsIf ((b2i r3)) 2 r2.2) (fun r4 hr4 => ?_)
    have mr4 : Frm (fun k j => (k = 94 ∧ (j = 0 ∨ j = 15 ∨ j = 16 ∨ j = 19 ∨ j = 20)) ∨ k = 102 ∨ k = 103 ∨ k = 104 ∨ k = 105) M r4.2 := (mr2).tr (Frm.mono hr4 (fun k j hk => by first | omega | exact hk.elim | (dsimp only at hk ⊢; omega)))
    refine wl_if (fun _ => ?_) (fun _ => ?_)
    · exact wl_some mr4
    · refine wl_bind (Q_MO_plainTomorrow r4.2) (fun r5 hr5 => ?_)
      have mr5 : Frm (fun k j => (k = 94 ∧ (j = 0 ∨ j = 15 ∨ j = 16 ∨ j = 19 ∨ j = 20)) ∨ k = 102 ∨ k = 103 ∨ k = 104 ∨ k = 105) M r5 := (mr4).tr (Frm.mono hr5 (fun k j hk => by first | omega | exact hk.elim | (dsimp only at hk ⊢; omega)))
      refine wl_bind (Q_MO_worths x1 x3 r5) (fun r6 hr6 => ?_)
      have mr6 : Frm (fun k j => (k = 94 ∧ (j = 0 ∨ j = 15 ∨ j = 16 ∨ j = 19 ∨ j = 20)) ∨ k = 102 ∨ k = 103 ∨ k = 104 ∨ k = 105) M r6 := (mr5).tr (Frm.mono hr6 (fun k j hk => by first | omega | exact hk.elim | (dsimp only at hk ⊢; omega)))
      refine wl_if (fun _ => ?_) (fun _ => ?_)
      · refine wl_if (fun _ => ?_) (fun _ => wl_none)
        exact wl_some mr6
      · refine wl_if (fun _ => ?_) (fun _ => wl_none)
        exact wl_some mr6
theorem Q_MO_worth (x1 : Int32) (x2 : Int32) (x3 : Int32) (x4 : Int32) (x5 : Int32) (x6 : Int32) (M : Mem) : wlO (F_MO_worth x1 x2 x3 x4 x5 x6 M) (fun r => Frm (fun k j => (k = 94 ∧ (j = 0 ∨ j = 15 ∨ j = 16 ∨ j = 19 ∨ j = 20)) ∨ k = 102 ∨ k = 103 ∨ k = 104 ∨ k = 105) M r.2) := by
  unfold F_MO_worth
  refine wl_any (fun r1 => ?_)
  refine wl_if (fun _ => ?_) (fun _ => ?_)
  · refine wl_mono (Q_MO_worth_j38 x1 x2 x3 x4 x5 x6 true (mSI M 94 0 0)) (fun ro ho => ?_)
    exact (((Frm.rf).sI (by first | omega | (dsimp only; omega)))).tr (Frm.mono ho (fun k j hk => by first | omega | exact hk.elim | (dsimp only at hk ⊢; omega)))
  · refine wl_any (fun r7 => ?_)
    refine wl_if (fun _ => ?_) (fun _ => ?_)
    · refine wl_mono (Q_MO_worth_j38 x1 x2 x3 x4 x5 x6 true (mSI M 94 0 0)) (fun ro ho => ?_)
      exact (((Frm.rf).sI (by first | omega | (dsimp only; omega)))).tr (Frm.mono ho (fun k j hk => by first | omega | exact hk.elim | (dsimp only at hk ⊢; omega)))
    · refine wl_any (fun r8 => ?_)
      refine wl_if (fun _ => ?_) (fun _ => ?_)
      · refine wl_mono (Q_MO_worth_j38 x1 x2 x3 x4 x5 x6 true (mSI M 94 0 0)) (fun ro ho => ?_)
        exact (((Frm.rf).sI (by first | omega | (dsimp only; omega)))).tr (Frm.mono ho (fun k j hk => by first | omega | exact hk.elim | (dsimp only at hk ⊢; omega)))
      · refine wl_mono (Q_MO_worth_j38 x1 x2 x3 x4 x5 x6 false (mSI M 94 0 0)) (fun ro ho => ?_)
        exact (((Frm.rf).sI (by first | omega | (dsimp only; omega)))).tr (Frm.mono ho (fun k j hk => by first | omega | exact hk.elim | (dsimp only at hk ⊢; omega)))
theorem Q_MO_firstOf_l8 (x1 : Int32) (x2 : Int32) (x3 : Int32) (M : Mem) : wlO (F_MO_firstOf_l8 x1 x2 x3 M) (fun r => Frm (fun k j => False) M r.2) := by
  unfold F_MO_firstOf_l8
  refine wl_any (fun q => ?_)
  rcases q with y1 | y1
  · exact wl_some Frm.rf
  · exact wl_some Frm.rf
theorem Q_MO_firstOf (x1 : Int32) (x2 : Int32) (M : Mem) : wlO (F_MO_firstOf x1 x2 M) (fun r => Frm (fun k j => (k = 94 ∧ (j = 15 ∨ j = 16)) ∨ k = 102 ∨ k = 103 ∨ k = 104 ∨ k = 105) M r.2) := by
  unfold F_MO_firstOf
  refine wl_bind (Q_MO_worths x1 x2 M) (fun r1 hr1 => ?_)
  have mr1 : Frm (fun k j => (k = 94 ∧ (j = 15 ∨ j = 16)) ∨ k = 102 ∨ k = 103 ∨ k = 104 ∨ k = 105) M r1 := (Frm.rf).tr (Frm.mono hr1 (fun k j hk => by first | omega | exact hk.elim | (dsimp only at hk ⊢; omega)))
  refine wl_mono (Q_MO_firstOf_l8 x1 x2 0 r1) (fun ro ho => ?_)
  exact (mr1).tr (Frm.mono ho (fun k j hk => by first | omega | exact hk.elim | (dsimp only at hk ⊢; omega)))
theorem Q_MO_hold_j27 (x1 : Int32) (x2 : Int32) (s1 : Bool) (M : Mem) : wlO (F_MO_hold_j27 x1 x2 s1 M) (fun r => Frm (fun k j => (k = 94 ∧ (j = 0 ∨ j = 15 ∨ j = 16 ∨ j = 19 ∨ j = 20)) ∨ k = 102 ∨ k = 103 ∨ k = 104 ∨ k = 105) M r.2) := by
  unfold F_MO_hold_j27
  refine wl_bind (Q_MO_throwsIf ((b2i s1)) 1 M) (fun r2 hr2 => ?_)
  have mr2 : Frm (fun k j => (k = 94 ∧ (j = 0 ∨ j = 15 ∨ j = 16 ∨ j = 19 ∨ j = 20)) ∨ k = 102 ∨ k = 103 ∨ k = 104 ∨ k = 105) M r2.2 := (Frm.rf).tr (Frm.mono hr2 (fun k j hk => by first | omega | exact hk.elim | (dsimp only at hk ⊢; omega)))
  refine wl_if (fun _ => ?_) (fun _ => ?_)
  · exact wl_some mr2
  · refine wl_any (fun r3 => ?_)
    refine wl_bind (Q_MO_throwsIf ((b2i r3)) 2 r2.2) (fun r4 hr4 => ?_)
    have mr4 : Frm (fun k j => (k = 94 ∧ (j = 0 ∨ j = 15 ∨ j = 16 ∨ j = 19 ∨ j = 20)) ∨ k = 102 ∨ k = 103 ∨ k = 104 ∨ k = 105) M r4.2 := (mr2).tr (Frm.mono hr4 (fun k j hk => by first | omega | exact hk.elim | (dsimp only at hk ⊢; omega)))
    refine wl_if (fun _ => ?_) (fun _ => ?_)
    · exact wl_some mr4
    · refine wl_bind (Q_MO_plainTomorrow r4.2) (fun r5 hr5 => ?_)
      have mr5 : Frm (fun k j => (k = 94 ∧ (j = 0 ∨ j = 15 ∨ j = 16 ∨ j = 19 ∨ j = 20)) ∨ k = 102 ∨ k = 103 ∨ k = 104 ∨ k = 105) M r5 := (mr4).tr (Frm.mono hr5 (fun k j hk => by first | omega | exact hk.elim | (dsimp only at hk ⊢; omega)))
      refine wl_bind (Q_MO_firstOf x1 x2 r5) (fun r6 hr6 => ?_)
      have mr6 : Frm (fun k j => (k = 94 ∧ (j = 0 ∨ j = 15 ∨ j = 16 ∨ j = 19 ∨ j = 20)) ∨ k = 102 ∨ k = 103 ∨ k = 104 ∨ k = 105) M r6.2 := (mr5).tr (Frm.mono hr6 (fun k j hk => by first | omega | exact hk.elim | (dsimp only at hk ⊢; omega)))
      refine wl_if (fun _ => ?_) (fun _ => ?_)
      · exact wl_some mr6
      · exact wl_some mr6
theorem Q_MO_hold (x1 : Int32) (x2 : Int32) (M : Mem) : wlO (F_MO_hold x1 x2 M) (fun r => Frm (fun k j => (k = 94 ∧ (j = 0 ∨ j = 15 ∨ j = 16 ∨ j = 19 ∨ j = 20)) ∨ k = 102 ∨ k = 103 ∨ k = 104 ∨ k = 105) M r.2) := by
  unfold F_MO_hold
  refine wl_any (fun r1 => ?_)
  refine wl_if (fun _ => ?_) (fun _ => ?_)
  · refine wl_mono (Q_MO_hold_j27 x1 x2 true (mSI M 94 0 0)) (fun ro ho => ?_)
    exact (((Frm.rf).sI (by first | omega | (dsimp only; omega)))).tr (Frm.mono ho (fun k j hk => by first | omega | exact hk.elim | (dsimp only at hk ⊢; omega)))
  · refine wl_any (fun r7 => ?_)
    refine wl_if (fun _ => ?_) (fun _ => ?_)
    · refine wl_mono (Q_MO_hold_j27 x1 x2 true (mSI M 94 0 0)) (fun ro ho => ?_)
      exact (((Frm.rf).sI (by first | omega | (dsimp only; omega)))).tr (Frm.mono ho (fun k j hk => by first | omega | exact hk.elim | (dsimp only at hk ⊢; omega)))
    · refine wl_mono (Q_MO_hold_j27 x1 x2 false (mSI M 94 0 0)) (fun ro ho => ?_)
      exact (((Frm.rf).sI (by first | omega | (dsimp only; omega)))).tr (Frm.mono ho (fun k j hk => by first | omega | exact hk.elim | (dsimp only at hk ⊢; omega)))
theorem Q_MO_first_j27 (x1 : Int32) (x2 : Int32) (s1 : Bool) (M : Mem) : wlO (F_MO_first_j27 x1 x2 s1 M) (fun r => Frm (fun k j => (k = 94 ∧ (j = 0 ∨ j = 15 ∨ j = 16 ∨ j = 19 ∨ j = 20)) ∨ k = 102 ∨ k = 103 ∨ k = 104 ∨ k = 105) M r.2) := by
  unfold F_MO_first_j27
  refine wl_bind (Q_MO_throwsIf ((b2i s1)) 1 M) (fun r2 hr2 => ?_)
  have mr2 : Frm (fun k j => (k = 94 ∧ (j = 0 ∨ j = 15 ∨ j = 16 ∨ j = 19 ∨ j = 20)) ∨ k = 102 ∨ k = 103 ∨ k = 104 ∨ k = 105) M r2.2 := (Frm.rf).tr (Frm.mono hr2 (fun k j hk => by first | omega | exact hk.elim | (dsimp only at hk ⊢; omega)))
  refine wl_if (fun _ => ?_) (fun _ => ?_)
  · exact wl_some mr2
  · refine wl_any (fun r3 => ?_)
    refine wl_bind (Q_MO_throwsIf ((b2i r3)) 2 r2.2) (fun r4 hr4 => ?_)
    have mr4 : Frm (fun k j => (k = 94 ∧ (j = 0 ∨ j = 15 ∨ j = 16 ∨ j = 19 ∨ j = 20)) ∨ k = 102 ∨ k = 103 ∨ k = 104 ∨ k = 105) M r4.2 := (mr2).tr (Frm.mono hr4 (fun k j hk => by first | omega | exact hk.elim | (dsimp only at hk ⊢; omega)))
    refine wl_if (fun _ => ?_) (fun _ => ?_)
    · exact wl_some mr4
    · refine wl_bind (Q_MO_plainTomorrow r4.2) (fun r5 hr5 => ?_)
      have mr5 : Frm (fun k j => (k = 94 ∧ (j = 0 ∨ j = 15 ∨ j = 16 ∨ j = 19 ∨ j = 20)) ∨ k = 102 ∨ k = 103 ∨ k = 104 ∨ k = 105) M r5 := (mr4).tr (Frm.mono hr5 (fun k j hk => by first | omega | exact hk.elim | (dsimp only at hk ⊢; omega)))
      refine wl_bind (Q_MO_firstOf x1 x2 r5) (fun r6 hr6 => ?_)
      have mr6 : Frm (fun k j => (k = 94 ∧ (j = 0 ∨ j = 15 ∨ j = 16 ∨ j = 19 ∨ j = 20)) ∨ k = 102 ∨ k = 103 ∨ k = 104 ∨ k = 105) M r6.2 := (mr5).tr (Frm.mono hr6 (fun k j hk => by first | omega | exact hk.elim | (dsimp only at hk ⊢; omega)))
      exact wl_some mr6
theorem Q_MO_first (x1 : Int32) (x2 : Int32) (M : Mem) : wlO (F_MO_first x1 x2 M) (fun r => Frm (fun k j => (k = 94 ∧ (j = 0 ∨ j = 15 ∨ j = 16 ∨ j = 19 ∨ j = 20)) ∨ k = 102 ∨ k = 103 ∨ k = 104 ∨ k = 105) M r.2) := by
  unfold F_MO_first
  refine wl_any (fun r1 => ?_)
  refine wl_if (fun _ => ?_) (fun _ => ?_)
  · refine wl_mono (Q_MO_first_j27 x1 x2 true (mSI M 94 0 0)) (fun ro ho => ?_)
    exact (((Frm.rf).sI (by first | omega | (dsimp only; omega)))).tr (Frm.mono ho (fun k j hk => by first | omega | exact hk.elim | (dsimp only at hk ⊢; omega)))
  · refine wl_any (fun r7 => ?_)
    refine wl_if (fun _ => ?_) (fun _ => ?_)
    · refine wl_mono (Q_MO_first_j27 x1 x2 true (mSI M 94 0 0)) (fun ro ho => ?_)
      exact (((Frm.rf).sI (by first | omega | (dsimp only; omega)))).tr (Frm.mono ho (fun k j hk => by first | omega | exact hk.elim | (dsimp only at hk ⊢; omega)))
    · refine wl_mono (Q_MO_first_j27 x1 x2 false (mSI M 94 0 0)) (fun ro ho => ?_)
      exact (((Frm.rf).sI (by first | omega | (dsimp only; omega)))).tr (Frm.mono ho (fun k j hk => by first | omega | exact hk.elim | (dsimp only at hk ⊢; omega)))
theorem Q_MO_answers_b292 (x1 : Int32) (x2 : Int32) (x3 : Int32) (x5 : Int32) (z : Int32 × Mem) : wlO (F_MO_answers_b292 x1 x2 x3 x5 z) (fun r => (match r with | .inl s => Frm (fun k j => (k = 94 ∧ (j = 15 ∨ j = 16)) ∨ k = 108) z.2 s.2 | .inr r => Frm (fun k j => (k = 94 ∧ (j = 15 ∨ j = 16)) ∨ k = 108) z.2 r)) := by
  obtain ⟨z_1, z_2⟩ := z
  unfold F_MO_answers_b292
  dsimp only
  refine wl_if (fun _ => ?_) (fun _ => ?_)
  · exact wl_some Frm.rf
  · refine wl_any (fun r4 => ?_)
    refine wl_any (fun r5 => ?_)
    refine wl_if (fun _ => ?_) (fun _ => wl_none)
    refine wl_if (fun _ => ?_) (fun _ => wl_none)
    refine wl_if (fun _ => ?_) (fun _ => wl_none)
    refine wl_bind (Q_MO_tells (((r5.toInt64 * ((z_2.1 94 20).toInt64)) * (z_2.2 107 r4.toNatClampNeg)) + (((z_2.1 94 19).toInt64) * (z_2.2 106 r4.toNatClampNeg))) (((z_2.1 94 20).toInt64) * (z_2.2 107 r4.toNatClampNeg)) z_2) (fun r6 hr6 => ?_)
    have mr6 : Frm (fun k j => (k = 94 ∧ (j = 15 ∨ j = 16)) ∨ k = 108) z_2 r6 := (Frm.rf).tr (Frm.mono hr6 (fun k j hk => by first | omega | exact hk.elim | (dsimp only at hk ⊢; omega)))
    refine wl_if (fun _ => ?_) (fun _ => wl_none)
    refine wl_if (fun _ => ?_) (fun _ => ?_)
    · refine wl_if (fun _ => ?_) (fun _ => wl_none)
      refine wl_if (fun _ => ?_) (fun _ => ?_)
      · refine wl_if (fun _ => ?_) (fun _ => wl_none)
        exact wl_some ((mr6).sI (by first | omega | (dsimp only; omega)))
      · exact wl_some mr6
    · exact wl_some mr6
theorem Q_MO_answers_l292 (x1 : Int32) (x2 : Int32) (x3 : Int32) (x5 : Int32) (x6 : Int32) (M : Mem) : wlO (F_MO_answers_l292 x1 x2 x3 x5 x6 M) (fun r => (match r with | .inl s => Frm (fun k j => (k = 94 ∧ (j = 15 ∨ j = 16)) ∨ k = 108) M s.2 | .inr r => Frm (fun k j => (k = 94 ∧ (j = 15 ∨ j = 16)) ∨ k = 108) M r)) := by
  unfold F_MO_answers_l292
  refine wl_bind (Ψ := fun r => Frm (fun k j => (k = 94 ∧ (j = 15 ∨ j = 16)) ∨ k = 108) M r) (wl_iter (P := fun w9 => Frm (fun k j => (k = 94 ∧ (j = 15 ∨ j = 16)) ∨ k = 108) M w9.2) (fun w9 hz => wl_mono (Q_MO_answers_b292 x1 x2 x3 x5 w9) (fun x hx => ?_)) FUEL (x6, M) (Frm.rf)) (fun r hr => ?_)
  · rcases x with x | x
    · exact hz.tr (Frm.mono hx (fun k j hk => by first | omega | exact hk.elim | (dsimp only at hk ⊢; omega)))
    · exact (hz).tr (Frm.mono hx (fun k j hk => by first | omega | exact hk.elim | (dsimp only at hk ⊢; omega)))
  exact wl_some hr
theorem Q_MO_answers_b278 (x1 : Int32) (x2 : Int32) (x3 : Int32) (z : Int32 × Mem) : wlO (F_MO_answers_b278 x1 x2 x3 z) (fun r => (match r with | .inl s => Frm (fun k j => (k = 94 ∧ (j = 15 ∨ j = 16)) ∨ k = 108) z.2 s.2 | .inr r => Frm (fun k j => (k = 94 ∧ (j = 15 ∨ j = 16)) ∨ k = 108) z.2 r)) := by
  unfold F_MO_answers_b278
  refine wl_if (fun _ => ?_) (fun _ => ?_)
  · exact wl_some Frm.rf
  · refine wl_any (fun r3 => ?_)
    refine wl_mono (Q_MO_answers_l292 x1 x2 x3 z.1 (r3 - 1) z.2) (fun ro ho => ?_)
    rcases ro with s1 | s1
    · exact (Frm.rf).tr (Frm.mono ho (fun k j hk => by first | omega | exact hk.elim | (dsimp only at hk ⊢; omega)))
    · exact (Frm.rf).tr (Frm.mono ho (fun k j hk => by first | omega | exact hk.elim | (dsimp only at hk ⊢; omega)))
theorem Q_MO_answers_l278 (x1 : Int32) (x2 : Int32) (x3 : Int32) (x5 : Int32) (M : Mem) : wlO (F_MO_answers_l278 x1 x2 x3 x5 M) (fun r => Frm (fun k j => (k = 94 ∧ (j = 15 ∨ j = 16)) ∨ k = 108) M r) := by
  unfold F_MO_answers_l278
  refine wl_bind (Ψ := fun r => Frm (fun k j => (k = 94 ∧ (j = 15 ∨ j = 16)) ∨ k = 108) M r) (wl_iter (P := fun w9 => Frm (fun k j => (k = 94 ∧ (j = 15 ∨ j = 16)) ∨ k = 108) M w9.2) (fun w9 hz => wl_mono (Q_MO_answers_b278 x1 x2 x3 w9) (fun x hx => ?_)) FUEL (x5, M) (Frm.rf)) (fun r hr => ?_)
  · rcases x with x | x
    · exact hz.tr (Frm.mono hx (fun k j hk => by first | omega | exact hk.elim | (dsimp only at hk ⊢; omega)))
    · exact (hz).tr (Frm.mono hx (fun k j hk => by first | omega | exact hk.elim | (dsimp only at hk ⊢; omega)))
  exact wl_some hr
theorem Q_MO_answers_j241 (x1 : Int32) (x2 : Int32) (x3 : Int32) (x4 : Int32) (x5 : Int32) (x7 : Int32) (M : Mem) : wlO (F_MO_answers_j241 x1 x2 x3 x4 x5 x7 M) (fun r => (match r with | .inl s => Frm (fun k j => k = 106 ∨ k = 107) M s.2 | .inr r => Frm (fun k j => k = 106 ∨ k = 107) M r)) := by
  unfold F_MO_answers_j241
  refine wl_if (fun _ => ?_) (fun _ => wl_none)
  refine wl_if (fun _ => ?_) (fun _ => wl_none)
  exact wl_some ((((Frm.rf).sL (by first | omega | (dsimp only; omega)))).sL (by first | omega | (dsimp only; omega)))
theorem Q_MO_answers_j192 (x1 : Int32) (x2 : Int32) (x3 : Int32) (x4 : Int32) (x5 : Int32) (x7 : Int32) (x8 : Int32) (x9 : Int32) (M : Mem) : wlO (F_MO_answers_j192 x1 x2 x3 x4 x5 x7 x8 x9 M) (fun r => (match r with | .inl s => Frm (fun k j => (k = 94 ∧ (j = 15 ∨ j = 16)) ∨ k = 106 ∨ k = 107) M s.2 | .inr r => Frm (fun k j => (k = 94 ∧ (j = 15 ∨ j = 16)) ∨ k = 106 ∨ k = 107) M r)) := by
  unfold F_MO_answers_j192
  refine wl_if (fun _ => ?_) (fun _ => wl_none)
  refine wl_bind (Q_MO_worthOf x8 (M.1 103 x9.toNatClampNeg) M) (fun r7 hr7 => ?_)
  have mr7 : Frm (fun k j => (k = 94 ∧ (j = 15 ∨ j = 16)) ∨ k = 106 ∨ k = 107) M r7 := (Frm.rf).tr (Frm.mono hr7 (fun k j hk => by first | omega | exact hk.elim | (dsimp only at hk ⊢; omega)))
  refine wl_if (fun _ => ?_) (fun _ => ?_)
  · refine wl_mono (Q_MO_answers_j241 x1 x2 x3 x4 x5 x7 r7) (fun ro ho => ?_)
    rcases ro with s1 | s1
    · exact (mr7).tr (Frm.mono ho (fun k j hk => by first | omega | exact hk.elim | (dsimp only at hk ⊢; omega)))
    · exact (mr7).tr (Frm.mono ho (fun k j hk => by first | omega | exact hk.elim | (dsimp only at hk ⊢; omega)))
  · refine wl_if (fun _ => ?_) (fun _ => wl_none)
    refine wl_if (fun _ => ?_) (fun _ => wl_none)
    refine wl_any (fun r8 => ?_)
    refine wl_if (fun _ => ?_) (fun _ => ?_)
    · refine wl_mono (Q_MO_answers_j241 x1 x2 x3 x4 x5 x7 r7) (fun ro ho => ?_)
      rcases ro with s2 | s2
      · exact (mr7).tr (Frm.mono ho (fun k j hk => by first | omega | exact hk.elim | (dsimp only at hk ⊢; omega)))
      · exact (mr7).tr (Frm.mono ho (fun k j hk => by first | omega | exact hk.elim | (dsimp only at hk ⊢; omega)))
    · exact wl_some mr7
theorem Q_MO_answers_b129 (x1 : Int32) (x2 : Int32) (x3 : Int32) (x4 : Int32) (x5 : Int32) (x7 : Int32) (z : Int32 × Int32 × Mem) : wlO (F_MO_answers_b129 x1 x2 x3 x4 x5 x7 z) (fun r => (match r with | .inl s => Frm (fun k j => k = 102 ∨ k = 103) z.2.2 s.2.2 | .inr r => Frm (fun k j => k = 102 ∨ k = 103) z.2.2 r.2.2)) := by
  unfold F_MO_answers_b129
  refine wl_if (fun _ => ?_) (fun _ => wl_none)
  refine wl_if (fun _ => ?_) (fun _ => ?_)
  · exact wl_some Frm.rf
  · refine wl_if (fun _ => ?_) (fun _ => wl_none)
    refine wl_if (fun _ => ?_) (fun _ => wl_none)
    refine wl_any (fun r9 => ?_)
    refine wl_if (fun _ => ?_) (fun _ => wl_none)
    refine wl_if (fun _ => ?_) (fun _ => wl_none)
    refine wl_any (fun r10 => ?_)
    exact wl_some ((((Frm.rf).sI (by first | omega | (dsimp only; omega)))).sI (by first | omega | (dsimp only; omega)))
theorem Q_MO_answers_l129 (x1 : Int32) (x2 : Int32) (x3 : Int32) (x4 : Int32) (x5 : Int32) (x7 : Int32) (x8 : Int32) (x9 : Int32) (M : Mem) : wlO (F_MO_answers_l129 x1 x2 x3 x4 x5 x7 x8 x9 M) (fun r => (match r with | .inl s => Frm (fun k j => (k = 94 ∧ (j = 15 ∨ j = 16)) ∨ k = 102 ∨ k = 103 ∨ k = 106 ∨ k = 107) M s.2 | .inr r => Frm (fun k j => (k = 94 ∧ (j = 15 ∨ j = 16)) ∨ k = 102 ∨ k = 103 ∨ k = 106 ∨ k = 107) M r)) := by
  unfold F_MO_answers_l129
  refine wl_bind (Ψ := fun r => Frm (fun k j => (k = 94 ∧ (j = 15 ∨ j = 16)) ∨ k = 102 ∨ k = 103 ∨ k = 106 ∨ k = 107) M r.2.2) (wl_iter (P := fun w9 => Frm (fun k j => (k = 94 ∧ (j = 15 ∨ j = 16)) ∨ k = 102 ∨ k = 103 ∨ k = 106 ∨ k = 107) M w9.2.2) (fun w9 hz => wl_mono (Q_MO_answers_b129 x1 x2 x3 x4 x5 x7 w9) (fun x hx => ?_)) FUEL (x8, x9, M) (Frm.rf)) (fun r hr => ?_)
  · rcases x with x | x
    · exact hz.tr (Frm.mono hx (fun k j hk => by first | omega | exact hk.elim | (dsimp only at hk ⊢; omega)))
    · exact (hz).tr (Frm.mono hx (fun k j hk => by first | omega | exact hk.elim | (dsimp only at hk ⊢; omega)))
  refine wl_mono (Q_MO_answers_j192 x1 x2 x3 x4 x5 x7 r.1 r.2.1 r.2.2) (fun ro ho => ?_)
  rcases ro with s1 | s1
  · exact (hr).tr (Frm.mono ho (fun k j hk => by first | omega | exact hk.elim | (dsimp only at hk ⊢; omega)))
  · exact (hr).tr (Frm.mono ho (fun k j hk => by first | omega | exact hk.elim | (dsimp only at hk ⊢; omega)))
theorem Q_MO_answers_b101 (x1 : Int32) (x2 : Int32) (x3 : Int32) (x4 : Int32) (x5 : Int32) (x7 : Int32) (z : Int32 × Mem) : wlO (F_MO_answers_b101 x1 x2 x3 x4 x5 x7 z) (fun r => (match r with | .inl s => Frm (fun k j => k = 103) z.2 s.2 | .inr r => Frm (fun k j => k = 103) z.2 r)) := by
  unfold F_MO_answers_b101
  refine wl_if (fun _ => ?_) (fun _ => ?_)
  · exact wl_some Frm.rf
  · refine wl_if (fun _ => ?_) (fun _ => wl_none)
    exact wl_some ((Frm.rf).sI (by first | omega | (dsimp only; omega)))
theorem Q_MO_answers_l101 (x1 : Int32) (x2 : Int32) (x3 : Int32) (x4 : Int32) (x5 : Int32) (x7 : Int32) (x8 : Int32) (M : Mem) : wlO (F_MO_answers_l101 x1 x2 x3 x4 x5 x7 x8 M) (fun r => (match r with | .inl s => Frm (fun k j => (k = 94 ∧ (j = 15 ∨ j = 16)) ∨ k = 102 ∨ k = 103 ∨ k = 106 ∨ k = 107) M s.2 | .inr r => Frm (fun k j => (k = 94 ∧ (j = 15 ∨ j = 16)) ∨ k = 102 ∨ k = 103 ∨ k = 106 ∨ k = 107) M r)) := by
  unfold F_MO_answers_l101
  refine wl_bind (Ψ := fun r => Frm (fun k j => (k = 94 ∧ (j = 15 ∨ j = 16)) ∨ k = 102 ∨ k = 103 ∨ k = 106 ∨ k = 107) M r) (wl_iter (P := fun w9 => Frm (fun k j => (k = 94 ∧ (j = 15 ∨ j = 16)) ∨ k = 102 ∨ k = 103 ∨ k = 106 ∨ k = 107) M w9.2) (fun w9 hz => wl_mono (Q_MO_answers_b101 x1 x2 x3 x4 x5 x7 w9) (fun x hx => ?_)) FUEL (x8, M) (Frm.rf)) (fun r hr => ?_)
  · rcases x with x | x
    · exact hz.tr (Frm.mono hx (fun k j hk => by first | omega | exact hk.elim | (dsimp only at hk ⊢; omega)))
    · exact (hz).tr (Frm.mono hx (fun k j hk => by first | omega | exact hk.elim | (dsimp only at hk ⊢; omega)))
  refine wl_mono (Q_MO_answers_l129 x1 x2 x3 x4 x5 x7 0 x7 r) (fun ro ho => ?_)
  rcases ro with s1 | s1
  · exact (hr).tr (Frm.mono ho (fun k j hk => by first | omega | exact hk.elim | (dsimp only at hk ⊢; omega)))
  · exact (hr).tr (Frm.mono ho (fun k j hk => by first | omega | exact hk.elim | (dsimp only at hk ⊢; omega)))
theorem Q_MO_answers_b92 (x1 : Int32) (x2 : Int32) (x3 : Int32) (x4 : Int32) (x5 : Int32) (z : Int32 × Mem) : wlO (F_MO_answers_b92 x1 x2 x3 x4 x5 z) (fun r => (match r with | .inl s => Frm (fun k j => (k = 94 ∧ (j = 15 ∨ j = 16)) ∨ k = 102 ∨ k = 103 ∨ k = 106 ∨ k = 107) z.2 s.2 | .inr r => Frm (fun k j => (k = 94 ∧ (j = 15 ∨ j = 16)) ∨ k = 102 ∨ k = 103 ∨ k = 106 ∨ k = 107) z.2 r)) := by
  unfold F_MO_answers_b92
  refine wl_if (fun _ => ?_) (fun _ => ?_)
  · exact wl_some Frm.rf
  · refine wl_mono (Q_MO_answers_l101 x1 x2 x3 x4 x5 z.1 0 z.2) (fun ro ho => ?_)
    rcases ro with s1 | s1
    · exact (Frm.rf).tr (Frm.mono ho (fun k j hk => by first | omega | exact hk.elim | (dsimp only at hk ⊢; omega)))
    · exact (Frm.rf).tr (Frm.mono ho (fun k j hk => by first | omega | exact hk.elim | (dsimp only at hk ⊢; omega)))
theorem Q_MO_answers_l92 (x1 : Int32) (x2 : Int32) (x3 : Int32) (x4 : Int32) (x5 : Int32) (x7 : Int32) (M : Mem) : wlO (F_MO_answers_l92 x1 x2 x3 x4 x5 x7 M) (fun r => (match r with | .inl s => Frm (fun k j => (k = 94 ∧ (j = 15 ∨ j = 16)) ∨ k = 102 ∨ k = 103 ∨ k = 106 ∨ k = 107) M s.2 | .inr r => Frm (fun k j => (k = 94 ∧ (j = 15 ∨ j = 16)) ∨ k = 102 ∨ k = 103 ∨ k = 106 ∨ k = 107) M r)) := by
  unfold F_MO_answers_l92
  refine wl_bind (Ψ := fun r => Frm (fun k j => (k = 94 ∧ (j = 15 ∨ j = 16)) ∨ k = 102 ∨ k = 103 ∨ k = 106 ∨ k = 107) M r) (wl_iter (P := fun w9 => Frm (fun k j => (k = 94 ∧ (j = 15 ∨ j = 16)) ∨ k = 102 ∨ k = 103 ∨ k = 106 ∨ k = 107) M w9.2) (fun w9 hz => wl_mono (Q_MO_answers_b92 x1 x2 x3 x4 x5 w9) (fun x hx => ?_)) FUEL (x7, M) (Frm.rf)) (fun r hr => ?_)
  · rcases x with x | x
    · exact hz.tr (Frm.mono hx (fun k j hk => by first | omega | exact hk.elim | (dsimp only at hk ⊢; omega)))
    · exact (hz).tr (Frm.mono hx (fun k j hk => by first | omega | exact hk.elim | (dsimp only at hk ⊢; omega)))
  exact wl_some hr
theorem Q_MO_answers_b54 (x1 : Int32) (x2 : Int32) (x3 : Int32) (x4 : Int32) (x5 : Int32) (z : Int32 × Int32 × Mem) : wlO (F_MO_answers_b54 x1 x2 x3 x4 x5 z) (fun r => (match r with | .inl s => Frm (fun k j => k = 109) z.2.2 s.2.2 | .inr r => Frm (fun k j => k = 109) z.2.2 r)) := by
  unfold F_MO_answers_b54
  refine wl_if (fun _ => ?_) (fun _ => ?_)
  · exact wl_some Frm.rf
  · refine wl_any (fun r11 => ?_)
    refine wl_if (fun _ => ?_) (fun _ => wl_none)
    refine wl_if (fun _ => ?_) (fun _ => wl_none)
    refine wl_any (fun r12 => ?_)
    refine wl_if (fun _ => ?_) (fun _ => wl_none)
    exact wl_some ((Frm.rf).sI (by first | omega | (dsimp only; omega)))
theorem Q_MO_answers_l54 (x1 : Int32) (x2 : Int32) (x3 : Int32) (x4 : Int32) (x5 : Int32) (x6 : Int32) (x7 : Int32) (M : Mem) : wlO (F_MO_answers_l54 x1 x2 x3 x4 x5 x6 x7 M) (fun r => (match r with | .inl s => Frm (fun k j => (k = 94 ∧ (j = 15 ∨ j = 16)) ∨ k = 102 ∨ k = 103 ∨ k = 106 ∨ k = 107 ∨ k = 109) M s.2 | .inr r => Frm (fun k j => (k = 94 ∧ (j = 15 ∨ j = 16)) ∨ k = 102 ∨ k = 103 ∨ k = 106 ∨ k = 107 ∨ k = 109) M r)) := by
  unfold F_MO_answers_l54
  refine wl_bind (Ψ := fun r => Frm (fun k j => (k = 94 ∧ (j = 15 ∨ j = 16)) ∨ k = 102 ∨ k = 103 ∨ k = 106 ∨ k = 107 ∨ k = 109) M r) (wl_iter (P := fun w9 => Frm (fun k j => (k = 94 ∧ (j = 15 ∨ j = 16)) ∨ k = 102 ∨ k = 103 ∨ k = 106 ∨ k = 107 ∨ k = 109) M w9.2.2) (fun w9 hz => wl_mono (Q_MO_answers_b54 x1 x2 x3 x4 x5 w9) (fun x hx => ?_)) FUEL (x6, x7, M) (Frm.rf)) (fun r hr => ?_)
  · rcases x with x | x
    · exact hz.tr (Frm.mono hx (fun k j hk => by first | omega | exact hk.elim | (dsimp only at hk ⊢; omega)))
    · exact (hz).tr (Frm.mono hx (fun k j hk => by first | omega | exact hk.elim | (dsimp only at hk ⊢; omega)))
  refine wl_mono (Q_MO_answers_l92 x1 x2 x3 x4 x5 0 r) (fun ro ho => ?_)
  rcases ro with s1 | s1
  · exact (hr).tr (Frm.mono ho (fun k j hk => by first | omega | exact hk.elim | (dsimp only at hk ⊢; omega)))
  · exact (hr).tr (Frm.mono ho (fun k j hk => by first | omega | exact hk.elim | (dsimp only at hk ⊢; omega)))
theorem Q_MO_answers_b40 (x1 : Int32) (x2 : Int32) (x3 : Int32) (x4 : Int32) (z : Int32 × Mem) : wlO (F_MO_answers_b40 x1 x2 x3 x4 z) (fun r => (match r with | .inl s => Frm (fun k j => (k = 94 ∧ (j = 15 ∨ j = 16)) ∨ k = 102 ∨ k = 103 ∨ k = 106 ∨ k = 107 ∨ k = 109) z.2 s.2 | .inr r => Frm (fun k j => (k = 94 ∧ (j = 15 ∨ j = 16)) ∨ k = 102 ∨ k = 103 ∨ k = 106 ∨ k = 107 ∨ k = 109) z.2 r)) := by
  unfold F_MO_answers_b40
  refine wl_if (fun _ => ?_) (fun _ => ?_)
  · exact wl_some Frm.rf
  · refine wl_mono (Q_MO_answers_l54 x1 x2 x3 x4 z.1 z.1 0 z.2) (fun ro ho => ?_)
    rcases ro with s1 | s1
    · exact (Frm.rf).tr (Frm.mono ho (fun k j hk => by first | omega | exact hk.elim | (dsimp only at hk ⊢; omega)))
    · exact (Frm.rf).tr (Frm.mono ho (fun k j hk => by first | omega | exact hk.elim | (dsimp only at hk ⊢; omega)))
theorem Q_MO_answers_l40 (x1 : Int32) (x2 : Int32) (x3 : Int32) (x4 : Int32) (x5 : Int32) (M : Mem) : wlO (F_MO_answers_l40 x1 x2 x3 x4 x5 M) (fun r => Frm (fun k j => (k = 94 ∧ (j = 15 ∨ j = 16)) ∨ k = 102 ∨ k = 103 ∨ k = 106 ∨ k = 107 ∨ k = 108 ∨ k = 109) M r) := by
  unfold F_MO_answers_l40
  refine wl_bind (Ψ := fun r => Frm (fun k j => (k = 94 ∧ (j = 15 ∨ j = 16)) ∨ k = 102 ∨ k = 103 ∨ k = 106 ∨ k = 107 ∨ k = 108 ∨ k = 109) M r) (wl_iter (P := fun w9 => Frm (fun k j => (k = 94 ∧ (j = 15 ∨ j = 16)) ∨ k = 102 ∨ k = 103 ∨ k = 106 ∨ k = 107 ∨ k = 108 ∨ k = 109) M w9.2) (fun w9 hz => wl_mono (Q_MO_answers_b40 x1 x2 x3 x4 w9) (fun x hx => ?_)) FUEL (x5, M) (Frm.rf)) (fun r hr => ?_)
  · rcases x with x | x
    · exact hz.tr (Frm.mono hx (fun k j hk => by first | omega | exact hk.elim | (dsimp only at hk ⊢; omega)))
    · exact (hz).tr (Frm.mono hx (fun k j hk => by first | omega | exact hk.elim | (dsimp only at hk ⊢; omega)))
  refine wl_mono (Q_MO_answers_l278 x1 x2 x3 0 r) (fun ro ho => ?_)
  exact (hr).tr (Frm.mono ho (fun k j hk => by first | omega | exact hk.elim | (dsimp only at hk ⊢; omega)))
theorem Q_MO_answers_l16 (x1 : Int32) (x2 : Int32) (x3 : Int32) (x4 : Int32) (x5 : Int32) (M : Mem) : wlO (F_MO_answers_l16 x1 x2 x3 x4 x5 M) (fun r => Frm (fun k j => (k = 94 ∧ (j = 15 ∨ j = 16)) ∨ k = 102 ∨ k = 103 ∨ k = 106 ∨ k = 107 ∨ k = 108 ∨ k = 109) M r) := by
  unfold F_MO_answers_l16
  refine wl_any (fun r => ?_)
  refine wl_mono (Q_MO_answers_l40 x1 x2 x3 r 0 M) (fun ro ho => ?_)
  exact (Frm.rf).tr (Frm.mono ho (fun k j hk => by first | omega | exact hk.elim | (dsimp only at hk ⊢; omega)))
theorem Q_MO_answers (x1 : Int32) (x2 : Int32) (M : Mem) : wlO (F_MO_answers x1 x2 M) (fun r => Frm (fun k j => (k = 94 ∧ (j = 15 ∨ j = 16 ∨ j = 19 ∨ j = 20)) ∨ k = 102 ∨ k = 103 ∨ k = 106 ∨ k = 107 ∨ k = 108 ∨ k = 109) M r) := by
  unfold F_MO_answers
  refine wl_bind (Q_MO_plainTomorrow M) (fun r1 hr1 => ?_)
  have mr1 : Frm (fun k j => (k = 94 ∧ (j = 15 ∨ j = 16 ∨ j = 19 ∨ j = 20)) ∨ k = 102 ∨ k = 103 ∨ k = 106 ∨ k = 107 ∨ k = 108 ∨ k = 109) M r1 := (Frm.rf).tr (Frm.mono hr1 (fun k j hk => by first | omega | exact hk.elim | (dsimp only at hk ⊢; omega)))
  refine wl_any (fun r2 => ?_)
  refine wl_mono (Q_MO_answers_l16 x1 x2 r2 1 0 r1) (fun ro ho => ?_)
  exact (mr1).tr (Frm.mono ho (fun k j hk => by first | omega | exact hk.elim | (dsimp only at hk ⊢; omega)))
theorem Q_MO_best_j27 (x1 : Int32) (x2 : Int32) (x3 : Int32) (s1 : Bool) (M : Mem) : wlO (F_MO_best_j27 x1 x2 x3 s1 M) (fun r => Frm (fun k j => (k = 94 ∧ (j = 0 ∨ j = 15 ∨ j = 16 ∨ j = 19 ∨ j = 20)) ∨ k = 102 ∨ k = 103 ∨ k = 106 ∨ k = 107 ∨ k = 108 ∨ k = 109) M r.2) := by
  unfold F_MO_best_j27
  refine wl_bind (Q_MO_throwsIf ((b2i s1)) 1 M) (fun r2 hr2 => ?_)
  have mr2 : Frm (fun k j => (k = 94 ∧ (j = 0 ∨ j = 15 ∨ j = 16 ∨ j = 19 ∨ j = 20)) ∨ k = 102 ∨ k = 103 ∨ k = 106 ∨ k = 107 ∨ k = 108 ∨ k = 109) M r2.2 := (Frm.rf).tr (Frm.mono hr2 (fun k j hk => by first | omega | exact hk.elim | (dsimp only at hk ⊢; omega)))
  refine wl_if (fun _ => ?_) (fun _ => ?_)
  · exact wl_some mr2
  · refine wl_any (fun r3 => ?_)
    refine wl_bind (Q_MO_throwsIf ((b2i r3)) 2 r2.2) (fun r4 hr4 => ?_)
    have mr4 : Frm (fun k j => (k = 94 ∧ (j = 0 ∨ j = 15 ∨ j = 16 ∨ j = 19 ∨ j = 20)) ∨ k = 102 ∨ k = 103 ∨ k = 106 ∨ k = 107 ∨ k = 108 ∨ k = 109) M r4.2 := (mr2).tr (Frm.mono hr4 (fun k j hk => by first | omega | exact hk.elim | (dsimp only at hk ⊢; omega)))
    refine wl_if (fun _ => ?_) (fun _ => ?_)
    · exact wl_some mr4
    · refine wl_bind (Q_MO_answers x1 x2 r4.2) (fun r5 hr5 => ?_)
      have mr5 : Frm (fun k j => (k = 94 ∧ (j = 0 ∨ j = 15 ∨ j = 16 ∨ j = 19 ∨ j = 20)) ∨ k = 102 ∨ k = 103 ∨ k = 106 ∨ k = 107 ∨ k = 108 ∨ k = 109) M r5 := (mr4).tr (Frm.mono hr5 (fun k j hk => by first | omega | exact hk.elim | (dsimp only at hk ⊢; omega)))
      refine wl_if (fun _ => ?_) (fun _ => wl_none)
      exact wl_some mr5
theorem Q_MO_best (x1 : Int32) (x2 : Int32) (x3 : Int32) (M : Mem) : wlO (F_MO_best x1 x2 x3 M) (fun r => Frm (fun k j => (k = 94 ∧ (j = 0 ∨ j = 15 ∨ j = 16 ∨ j = 19 ∨ j = 20)) ∨ k = 102 ∨ k = 103 ∨ k = 106 ∨ k = 107 ∨ k = 108 ∨ k = 109) M r.2) := by
  unfold F_MO_best
  refine wl_any (fun r1 => ?_)
  refine wl_if (fun _ => ?_) (fun _ => ?_)
  · refine wl_mono (Q_MO_best_j27 x1 x2 x3 true (mSI M 94 0 0)) (fun ro ho => ?_)
    exact (((Frm.rf).sI (by first | omega | (dsimp only; omega)))).tr (Frm.mono ho (fun k j hk => by first | omega | exact hk.elim | (dsimp only at hk ⊢; omega)))
  · refine wl_any (fun r6 => ?_)
    refine wl_if (fun _ => ?_) (fun _ => ?_)
    · refine wl_mono (Q_MO_best_j27 x1 x2 x3 true (mSI M 94 0 0)) (fun ro ho => ?_)
      exact (((Frm.rf).sI (by first | omega | (dsimp only; omega)))).tr (Frm.mono ho (fun k j hk => by first | omega | exact hk.elim | (dsimp only at hk ⊢; omega)))
    · refine wl_mono (Q_MO_best_j27 x1 x2 x3 false (mSI M 94 0 0)) (fun ro ho => ?_)
      exact (((Frm.rf).sI (by first | omega | (dsimp only; omega)))).tr (Frm.mono ho (fun k j hk => by first | omega | exact hk.elim | (dsimp only at hk ⊢; omega)))
theorem Q_MO_answer_j27 (x1 : Int32) (x2 : Int32) (x3 : Int32) (x4 : Int32) (s1 : Bool) (M : Mem) : wlO (F_MO_answer_j27 x1 x2 x3 x4 s1 M) (fun r => Frm (fun k j => (k = 94 ∧ (j = 0 ∨ j = 15 ∨ j = 16 ∨ j = 19 ∨ j = 20)) ∨ k = 102 ∨ k = 103 ∨ k = 106 ∨ k = 107 ∨ k = 108 ∨ k = 109) M r.2) := by
  unfold F_MO_answer_j27
  refine wl_bind (Q_MO_throwsIf ((b2i s1)) 1 M) (fun r2 hr2 => ?_)
  have mr2 : Frm (fun k j => (k = 94 ∧ (j = 0 ∨ j = 15 ∨ j = 16 ∨ j = 19 ∨ j = 20)) ∨ k = 102 ∨ k = 103 ∨ k = 106 ∨ k = 107 ∨ k = 108 ∨ k = 109) M r2.2 := (Frm.rf).tr (Frm.mono hr2 (fun k j hk => by first | omega | exact hk.elim | (dsimp only at hk ⊢; omega)))
  refine wl_if (fun _ => ?_) (fun _ => ?_)
  · exact wl_some mr2
  · refine wl_any (fun r3 => ?_)
    refine wl_bind (Q_MO_throwsIf ((b2i r3)) 2 r2.2) (fun r4 hr4 => ?_)
    have mr4 : Frm (fun k j => (k = 94 ∧ (j = 0 ∨ j = 15 ∨ j = 16 ∨ j = 19 ∨ j = 20)) ∨ k = 102 ∨ k = 103 ∨ k = 106 ∨ k = 107 ∨ k = 108 ∨ k = 109) M r4.2 := (mr2).tr (Frm.mono hr4 (fun k j hk => by first | omega | exact hk.elim | (dsimp only at hk ⊢; omega)))
    refine wl_if (fun _ => ?_) (fun _ => ?_)
    · exact wl_some mr4
    · refine wl_bind (Q_MO_answers x1 x2 r4.2) (fun r5 hr5 => ?_)
      have mr5 : Frm (fun k j => (k = 94 ∧ (j = 0 ∨ j = 15 ∨ j = 16 ∨ j = 19 ∨ j = 20)) ∨ k = 102 ∨ k = 103 ∨ k = 106 ∨ k = 107 ∨ k = 108 ∨ k = 109) M r5 := (mr4).tr (Frm.mono hr5 (fun k j hk => by first | omega | exact hk.elim | (dsimp only at hk ⊢; omega)))
      refine wl_if (fun _ => ?_) (fun _ => ?_)
      · refine wl_if (fun _ => ?_) (fun _ => wl_none)
        exact wl_some mr5
      · refine wl_if (fun _ => ?_) (fun _ => wl_none)
        exact wl_some mr5
theorem Q_MO_answer (x1 : Int32) (x2 : Int32) (x3 : Int32) (x4 : Int32) (M : Mem) : wlO (F_MO_answer x1 x2 x3 x4 M) (fun r => Frm (fun k j => (k = 94 ∧ (j = 0 ∨ j = 15 ∨ j = 16 ∨ j = 19 ∨ j = 20)) ∨ k = 102 ∨ k = 103 ∨ k = 106 ∨ k = 107 ∨ k = 108 ∨ k = 109) M r.2) := by
  unfold F_MO_answer
  refine wl_any (fun r1 => ?_)
  refine wl_if (fun _ => ?_) (fun _ => ?_)
  · refine wl_mono (Q_MO_answer_j27 x1 x2 x3 x4 true (mSI M 94 0 0)) (fun ro ho => ?_)
    exact (((Frm.rf).sI (by first | omega | (dsimp only; omega)))).tr (Frm.mono ho (fun k j hk => by first | omega | exact hk.elim | (dsimp only at hk ⊢; omega)))
  · refine wl_any (fun r6 => ?_)
    refine wl_if (fun _ => ?_) (fun _ => ?_)
    · refine wl_mono (Q_MO_answer_j27 x1 x2 x3 x4 true (mSI M 94 0 0)) (fun ro ho => ?_)
      exact (((Frm.rf).sI (by first | omega | (dsimp only; omega)))).tr (Frm.mono ho (fun k j hk => by first | omega | exact hk.elim | (dsimp only at hk ⊢; omega)))
    · refine wl_mono (Q_MO_answer_j27 x1 x2 x3 x4 false (mSI M 94 0 0)) (fun ro ho => ?_)
      exact (((Frm.rf).sI (by first | omega | (dsimp only; omega)))).tr (Frm.mono ho (fun k j hk => by first | omega | exact hk.elim | (dsimp only at hk ⊢; omega)))
theorem Q_MO_least (x1 : Int32) (x2 : Int32) (M : Mem) : wlO (F_MO_least x1 x2 M) (fun r => Frm (fun k j => (k = 94 ∧ j = 0)) M r.2) := by
  unfold F_MO_least
  refine wl_any (fun r1 => ?_)
  refine wl_bind (Q_MO_throwsIf ((b2i r1)) 1 (mSI M 94 0 0)) (fun r2 hr2 => ?_)
  have mr2 : Frm (fun k j => (k = 94 ∧ j = 0)) M r2.2 := (((Frm.rf).sI (by first | omega | (dsimp only; omega)))).tr (Frm.mono hr2 (fun k j hk => by first | omega | exact hk.elim | (dsimp only at hk ⊢; omega)))
  refine wl_if (fun _ => ?_) (fun _ => ?_)
  · exact wl_some mr2
  · refine wl_if (fun _ => ?_) (fun _ => ?_)
    · refine wl_any (fun r3 => ?_)
      exact wl_some mr2
    · refine wl_any (fun r4 => ?_)
      exact wl_some mr2
theorem Q_MO_number_j126 (x1 : Int32) (M : Mem) : wlO (F_MO_number_j126 x1 M) (fun r => Frm (fun k j => False) M r.2) := by
  unfold F_MO_number_j126
  refine wl_if (fun _ => ?_) (fun _ => wl_none)
  exact wl_some Frm.rf
theorem Q_MO_number_j93 (x1 : Int32) (x2 : Int32) (x3 : Int32) (x4 : Int32) (s1 : Int32) (s2 : Int64) (s3 : Int64) (M : Mem) : wlO (F_MO_number_j93 x1 x2 x3 x4 s1 s2 s3 M) (fun r => (match r with | .inl s => Frm (fun k j => k = 111) M s.2 | .inr r => Frm (fun k j => k = 111) M r)) := by
  unfold F_MO_number_j93
  refine wl_if (fun _ => ?_) (fun _ => wl_none)
  refine wl_if (fun _ => ?_) (fun _ => wl_none)
  refine wl_if (fun _ => ?_) (fun _ => wl_none)
  exact wl_some ((Frm.rf).sL (by first | omega | (dsimp only; omega)))
theorem Q_MO_number_b47 (x1 : Int32) (x2 : Int32) (x3 : Int32) (z : Int32 × Mem) : wlO (F_MO_number_b47 x1 x2 x3 z) (fun r => (match r with | .inl s => Frm (fun k j => k = 111) z.2 s.2 | .inr r => Frm (fun k j => k = 111) z.2 r)) := by
  unfold F_MO_number_b47
  refine wl_if (fun _ => ?_) (fun _ => ?_)
  · exact wl_some Frm.rf
  · refine wl_if (fun _ => ?_) (fun _ => ?_)
    · refine wl_if (fun _ => ?_) (fun _ => wl_none)
      refine wl_any (fun r2 => ?_)
      refine wl_if (fun _ => ?_) (fun _ => ?_)
      · refine wl_mono (Q_MO_number_j93 x1 x2 x3 z.1 (x2 ||| (1 <<< (z.1 &&& 31))) (z.2.2 111 (x2 ||| (1 <<< (z.1 &&& 31))).toNatClampNeg) 1 z.2) (fun ro ho => ?_)
        rcases ro with s1 | s1
        · exact (Frm.rf).tr (Frm.mono ho (fun k j hk => by first | omega | exact hk.elim | (dsimp only at hk ⊢; omega)))
        · exact (Frm.rf).tr (Frm.mono ho (fun k j hk => by first | omega | exact hk.elim | (dsimp only at hk ⊢; omega)))
      · refine wl_mono (Q_MO_number_j93 x1 x2 x3 z.1 (x2 ||| (1 <<< (z.1 &&& 31))) (z.2.2 111 (x2 ||| (1 <<< (z.1 &&& 31))).toNatClampNeg) ((-1)) z.2) (fun ro ho => ?_)
        rcases ro with s2 | s2
        · exact (Frm.rf).tr (Frm.mono ho (fun k j hk => by first | omega | exact hk.elim | (dsimp only at hk ⊢; omega)))
        · exact (Frm.rf).tr (Frm.mono ho (fun k j hk => by first | omega | exact hk.elim | (dsimp only at hk ⊢; omega)))
    · exact wl_some Frm.rf
theorem Q_MO_number_l47 (x1 : Int32) (x2 : Int32) (x3 : Int32) (x4 : Int32) (M : Mem) : wlO (F_MO_number_l47 x1 x2 x3 x4 M) (fun r => (match r with | .inl s => Frm (fun k j => k = 111) M s.2 | .inr r => Frm (fun k j => k = 111) M r)) := by
  unfold F_MO_number_l47
  refine wl_bind (Ψ := fun r => Frm (fun k j => k = 111) M r) (wl_iter (P := fun w9 => Frm (fun k j => k = 111) M w9.2) (fun w9 hz => wl_mono (Q_MO_number_b47 x1 x2 x3 w9) (fun x hx => ?_)) FUEL (x4, M) (Frm.rf)) (fun r hr => ?_)
  · rcases x with x | x
    · exact hz.tr (Frm.mono hx (fun k j hk => by first | omega | exact hk.elim | (dsimp only at hk ⊢; omega)))
    · exact (hz).tr (Frm.mono hx (fun k j hk => by first | omega | exact hk.elim | (dsimp only at hk ⊢; omega)))
  exact wl_some hr
theorem Q_MO_number_b32 (x1 : Int32) (z : Int32 × Mem) : wlO (F_MO_number_b32 x1 z) (fun r => (match r with | .inl s => Frm (fun k j => k = 111) z.2 s.2 | .inr r => Frm (fun k j => k = 111) z.2 r)) := by
  unfold F_MO_number_b32
  refine wl_if (fun _ => ?_) (fun _ => ?_)
  · exact wl_some Frm.rf
  · refine wl_any (fun r1 => ?_)
    refine wl_mono (Q_MO_number_l47 x1 z.1 r1 0 z.2) (fun ro ho => ?_)
    rcases ro with s1 | s1
    · exact (Frm.rf).tr (Frm.mono ho (fun k j hk => by first | omega | exact hk.elim | (dsimp only at hk ⊢; omega)))
    · exact (Frm.rf).tr (Frm.mono ho (fun k j hk => by first | omega | exact hk.elim | (dsimp only at hk ⊢; omega)))
theorem Q_MO_number_l32 (x1 : Int32) (x2 : Int32) (M : Mem) : wlO (F_MO_number_l32 x1 x2 M) (fun r => Frm (fun k j => k = 111) M r.2) := by
  unfold F_MO_number_l32
  refine wl_bind (Ψ := fun r => Frm (fun k j => k = 111) M r) (wl_iter (P := fun w9 => Frm (fun k j => k = 111) M w9.2) (fun w9 hz => wl_mono (Q_MO_number_b32 x1 w9) (fun x hx => ?_)) FUEL (x2, M) (Frm.rf)) (fun r hr => ?_)
  · rcases x with x | x
    · exact hz.tr (Frm.mono hx (fun k j hk => by first | omega | exact hk.elim | (dsimp only at hk ⊢; omega)))
    · exact (hz).tr (Frm.mono hx (fun k j hk => by first | omega | exact hk.elim | (dsimp only at hk ⊢; omega)))
  refine wl_mono (Q_MO_number_j126 x1 r) (fun ro ho => ?_)
  exact (hr).tr (Frm.mono ho (fun k j hk => by first | omega | exact hk.elim | (dsimp only at hk ⊢; omega)))
theorem Q_MO_number_b2 (x1 : Int32) (z : Int32 × Mem) : wlO (F_MO_number_b2 x1 z) (fun r => (match r with | .inl s => Frm (fun k j => k = 111) z.2 s.2 | .inr r => Frm (fun k j => k = 111) z.2 r)) := by
  unfold F_MO_number_b2
  refine wl_if (fun _ => ?_) (fun _ => ?_)
  · exact wl_some Frm.rf
  · refine wl_if (fun _ => ?_) (fun _ => ?_)
    · refine wl_if (fun _ => ?_) (fun _ => wl_none)
      exact wl_some ((Frm.rf).sL (by first | omega | (dsimp only; omega)))
    · refine wl_if (fun _ => ?_) (fun _ => wl_none)
      exact wl_some ((Frm.rf).sL (by first | omega | (dsimp only; omega)))
theorem Q_MO_number_l2 (x1 : Int32) (x2 : Int32) (M : Mem) : wlO (F_MO_number_l2 x1 x2 M) (fun r => Frm (fun k j => k = 111) M r.2) := by
  unfold F_MO_number_l2
  refine wl_bind (Ψ := fun r => Frm (fun k j => k = 111) M r) (wl_iter (P := fun w9 => Frm (fun k j => k = 111) M w9.2) (fun w9 hz => wl_mono (Q_MO_number_b2 x1 w9) (fun x hx => ?_)) FUEL (x2, M) (Frm.rf)) (fun r hr => ?_)
  · rcases x with x | x
    · exact hz.tr (Frm.mono hx (fun k j hk => by first | omega | exact hk.elim | (dsimp only at hk ⊢; omega)))
    · exact (hz).tr (Frm.mono hx (fun k j hk => by first | omega | exact hk.elim | (dsimp only at hk ⊢; omega)))
  refine wl_mono (Q_MO_number_l32 x1 0 r) (fun ro ho => ?_)
  exact (hr).tr (Frm.mono ho (fun k j hk => by first | omega | exact hk.elim | (dsimp only at hk ⊢; omega)))
theorem Q_MO_number (x1 : Int32) (M : Mem) : wlO (F_MO_number x1 M) (fun r => Frm (fun k j => k = 111) M r.2) := by
  unfold F_MO_number
  refine wl_mono (Q_MO_number_l2 x1 0 M) (fun ro ho => ?_)
  exact (Frm.rf).tr (Frm.mono ho (fun k j hk => by first | omega | exact hk.elim | (dsimp only at hk ⊢; omega)))
theorem Q_MO_numberOf_j94 (x6 : Int32) (M : Mem) : wlO (F_MO_numberOf_j94 x6 M) (fun r => Frm (fun k j => k = 111) M r.2) := by
  unfold F_MO_numberOf_j94
  refine wl_bind (Q_MO_number x6 M) (fun r2 hr2 => ?_)
  have mr2 : Frm (fun k j => k = 111) M r2.2 := (Frm.rf).tr (Frm.mono hr2 (fun k j hk => by first | omega | exact hk.elim | (dsimp only at hk ⊢; omega)))
  exact wl_some mr2
theorem Q_MO_numberOf_j63 (x1 : Int32) (x2 : Int32) (x3 : Int32) (x4 : Int32) (x5 : Int32) (x6 : Int32) (x7 : Int32) (x8 : Int32) (s1 : Int32) (M : Mem) : wlO (F_MO_numberOf_j63 x1 x2 x3 x4 x5 x6 x7 x8 s1 M) (fun r => (match r with | .inl s => Frm (fun k j => k = 110) M s.2 | .inr r => Frm (fun k j => k = 110) M r)) := by
  unfold F_MO_numberOf_j63
  refine wl_any (fun r3 => ?_)
  refine wl_any (fun r4 => ?_)
  refine wl_any (fun r5 => ?_)
  refine wl_if (fun _ => ?_) (fun _ => wl_none)
  exact wl_some ((Frm.rf).sL (by first | omega | (dsimp only; omega)))
theorem Q_MO_numberOf_j56 (x1 : Int32) (x2 : Int32) (x3 : Int32) (x4 : Int32) (x5 : Int32) (x6 : Int32) (x7 : Int32) (x8 : Int32) (s1 : Int32) (s2 : Int32) (s3 : Int32) (M : Mem) : wlO (F_MO_numberOf_j56 x1 x2 x3 x4 x5 x6 x7 x8 s1 s2 s3 M) (fun r => (match r with | .inl s => Frm (fun k j => k = 110) M s.2 | .inr r => Frm (fun k j => k = 110) M r)) := by
  unfold F_MO_numberOf_j56
  refine wl_if (fun _ => ?_) (fun _ => ?_)
  · refine wl_if (fun _ => ?_) (fun _ => wl_none)
    exact wl_some ((Frm.rf).sL (by first | omega | (dsimp only; omega)))
  · refine wl_mono (Q_MO_numberOf_j63 x1 x2 x3 x4 x5 x6 x7 x8 s1 M) (fun ro ho => ?_)
    rcases ro with s1 | s1
    · exact (Frm.rf).tr (Frm.mono ho (fun k j hk => by first | omega | exact hk.elim | (dsimp only at hk ⊢; omega)))
    · exact (Frm.rf).tr (Frm.mono ho (fun k j hk => by first | omega | exact hk.elim | (dsimp only at hk ⊢; omega)))
theorem Q_MO_numberOf_b19 (x1 : Int32) (x2 : Int32) (x3 : Int32) (x4 : Int32) (x5 : Int32) (x6 : Int32) (x7 : Int32) (z : Int32 × Mem) : wlO (F_MO_numberOf_b19 x1 x2 x3 x4 x5 x6 x7 z) (fun r => (match r with | .inl s => Frm (fun k j => k = 110) z.2 s.2 | .inr r => Frm (fun k j => k = 110) z.2 r)) := by
  unfold F_MO_numberOf_b19
  refine wl_if (fun _ => ?_) (fun _ => ?_)
  · exact wl_some Frm.rf
  · refine wl_if (fun _ => ?_) (fun _ => ?_)
    · refine wl_mono (Q_MO_numberOf_j63 x1 x2 x3 x4 x5 x6 x7 z.1 ((4 * x7) + z.1) z.2) (fun ro ho => ?_)
      rcases ro with s1 | s1
      · exact (Frm.rf).tr (Frm.mono ho (fun k j hk => by first | omega | exact hk.elim | (dsimp only at hk ⊢; omega)))
      · exact (Frm.rf).tr (Frm.mono ho (fun k j hk => by first | omega | exact hk.elim | (dsimp only at hk ⊢; omega)))
    · refine wl_if (fun _ => ?_) (fun _ => ?_)
      · refine wl_mono (Q_MO_numberOf_j56 x1 x2 x3 x4 x5 x6 x7 z.1 ((4 * x7) + z.1) x4 z.1 z.2) (fun ro ho => ?_)
        rcases ro with s2 | s2
        · exact (Frm.rf).tr (Frm.mono ho (fun k j hk => by first | omega | exact hk.elim | (dsimp only at hk ⊢; omega)))
        · exact (Frm.rf).tr (Frm.mono ho (fun k j hk => by first | omega | exact hk.elim | (dsimp only at hk ⊢; omega)))
      · refine wl_mono (Q_MO_numberOf_j56 x1 x2 x3 x4 x5 x6 x7 z.1 ((4 * x7) + z.1) x4 x7 z.2) (fun ro ho => ?_)
        rcases ro with s3 | s3
        · exact (Frm.rf).tr (Frm.mono ho (fun k j hk => by first | omega | exact hk.elim | (dsimp only at hk ⊢; omega)))
        · exact (Frm.rf).tr (Frm.mono ho (fun k j hk => by first | omega | exact hk.elim | (dsimp only at hk ⊢; omega)))
theorem Q_MO_numberOf_l19 (x1 : Int32) (x2 : Int32) (x3 : Int32) (x4 : Int32) (x5 : Int32) (x6 : Int32) (x7 : Int32) (x8 : Int32) (M : Mem) : wlO (F_MO_numberOf_l19 x1 x2 x3 x4 x5 x6 x7 x8 M) (fun r => (match r with | .inl s => Frm (fun k j => k = 110) M s.2 | .inr r => Frm (fun k j => k = 110) M r)) := by
  unfold F_MO_numberOf_l19
  refine wl_bind (Ψ := fun r => Frm (fun k j => k = 110) M r) (wl_iter (P := fun w9 => Frm (fun k j => k = 110) M w9.2) (fun w9 hz => wl_mono (Q_MO_numberOf_b19 x1 x2 x3 x4 x5 x6 x7 w9) (fun x hx => ?_)) FUEL (x8, M) (Frm.rf)) (fun r hr => ?_)
  · rcases x with x | x
    · exact hz.tr (Frm.mono hx (fun k j hk => by first | omega | exact hk.elim | (dsimp only at hk ⊢; omega)))
    · exact (hz).tr (Frm.mono hx (fun k j hk => by first | omega | exact hk.elim | (dsimp only at hk ⊢; omega)))
  exact wl_some hr
theorem Q_MO_numberOf_b9 (x1 : Int32) (x2 : Int32) (x3 : Int32) (x4 : Int32) (x5 : Int32) (x6 : Int32) (z : Int32 × Mem) : wlO (F_MO_numberOf_b9 x1 x2 x3 x4 x5 x6 z) (fun r => (match r with | .inl s => Frm (fun k j => k = 110) z.2 s.2 | .inr r => Frm (fun k j => k = 110) z.2 r)) := by
  unfold F_MO_numberOf_b9
  refine wl_if (fun _ => ?_) (fun _ => ?_)
  · exact wl_some Frm.rf
  · refine wl_mono (Q_MO_numberOf_l19 x1 x2 x3 x4 x5 x6 z.1 0 z.2) (fun ro ho => ?_)
    rcases ro with s1 | s1
    · exact (Frm.rf).tr (Frm.mono ho (fun k j hk => by first | omega | exact hk.elim | (dsimp only at hk ⊢; omega)))
    · exact (Frm.rf).tr (Frm.mono ho (fun k j hk => by first | omega | exact hk.elim | (dsimp only at hk ⊢; omega)))
theorem Q_MO_numberOf_l9 (x1 : Int32) (x2 : Int32) (x3 : Int32) (x4 : Int32) (x5 : Int32) (x6 : Int32) (x7 : Int32) (M : Mem) : wlO (F_MO_numberOf_l9 x1 x2 x3 x4 x5 x6 x7 M) (fun r => Frm (fun k j => k = 110 ∨ k = 111) M r.2) := by
  unfold F_MO_numberOf_l9
  refine wl_bind (Ψ := fun r => Frm (fun k j => k = 110 ∨ k = 111) M r) (wl_iter (P := fun w9 => Frm (fun k j => k = 110 ∨ k = 111) M w9.2) (fun w9 hz => wl_mono (Q_MO_numberOf_b9 x1 x2 x3 x4 x5 x6 w9) (fun x hx => ?_)) FUEL (x7, M) (Frm.rf)) (fun r hr => ?_)
  · rcases x with x | x
    · exact hz.tr (Frm.mono hx (fun k j hk => by first | omega | exact hk.elim | (dsimp only at hk ⊢; omega)))
    · exact (hz).tr (Frm.mono hx (fun k j hk => by first | omega | exact hk.elim | (dsimp only at hk ⊢; omega)))
  refine wl_mono (Q_MO_numberOf_j94 x6 r) (fun ro ho => ?_)
  exact (hr).tr (Frm.mono ho (fun k j hk => by first | omega | exact hk.elim | (dsimp only at hk ⊢; omega)))
theorem Q_MO_numberOf (x1 : Int32) (x2 : Int32) (x3 : Int32) (x4 : Int32) (x5 : Int32) (M : Mem) : wlO (F_MO_numberOf x1 x2 x3 x4 x5 M) (fun r => Frm (fun k j => k = 110 ∨ k = 111) M r.2) := by
  unfold F_MO_numberOf
  refine wl_any (fun r1 => ?_)
  refine wl_mono (Q_MO_numberOf_l9 x1 x2 x3 x4 x5 r1 0 M) (fun ro ho => ?_)
  exact (Frm.rf).tr (Frm.mono ho (fun k j hk => by first | omega | exact hk.elim | (dsimp only at hk ⊢; omega)))
theorem Q_MO_balances_j323 (x5 : Int64) (x7 : Int64) (x11 : Bool) (M : Mem) : wlO (F_MO_balances_j323 x5 x7 x11 M) (fun r => Frm (fun k j => (k = 94 ∧ (j = 15 ∨ j = 16))) M r.2) := by
  unfold F_MO_balances_j323
  refine wl_if (fun _ => ?_) (fun _ => ?_)
  · refine wl_bind (Q_MO_tells x7 x5 M) (fun r4 hr4 => ?_)
    have mr4 : Frm (fun k j => (k = 94 ∧ (j = 15 ∨ j = 16))) M r4 := (Frm.rf).tr (Frm.mono hr4 (fun k j hk => by first | omega | exact hk.elim | (dsimp only at hk ⊢; omega)))
    exact wl_some mr4
  · exact wl_some Frm.rf
theorem Q_MO_balances_l156 (x1 : Int32) (x5 : Int64) (x7 : Int64) (x9 : Int64) (x11 : Bool) (x12 : Int32) (M : Mem) : wlO (F_MO_balances_l156 x1 x5 x7 x9 x11 x12 M) (fun r => Frm (fun k j => (k = 94 ∧ (j = 15 ∨ j = 16))) M r.2) := by
  unfold F_MO_balances_l156
  refine wl_any (fun r => ?_)
  refine wl_mono (Q_MO_balances_j323 x5 x7 r M) (fun ro ho => ?_)
  exact (Frm.rf).tr (Frm.mono ho (fun k j hk => by first | omega | exact hk.elim | (dsimp only at hk ⊢; omega)))
theorem Q_MO_balances_j114 (x1 : Int32) (x2 : Int32) (x3 : Int32) (x5 : Int64) (M : Mem) : wlO (F_MO_balances_j114 x1 x2 x3 x5 M) (fun r => Frm (fun k j => (k = 94 ∧ (j = 15 ∨ j = 16)) ∨ k = 110 ∨ k = 111) M r.2) := by
  unfold F_MO_balances_j114
  refine wl_if (fun _ => ?_) (fun _ => ?_)
  · exact wl_some Frm.rf
  · refine wl_bind (Q_MO_numberOf x1 x2 x3 ((-1)) 1 M) (fun r2 hr2 => ?_)
    have mr2 : Frm (fun k j => (k = 94 ∧ (j = 15 ∨ j = 16)) ∨ k = 110 ∨ k = 111) M r2.2 := (Frm.rf).tr (Frm.mono hr2 (fun k j hk => by first | omega | exact hk.elim | (dsimp only at hk ⊢; omega)))
    refine wl_if (fun _ => ?_) (fun _ => ?_)
    · refine wl_mono (Q_MO_balances_l156 x1 x5 r2.1 1 true 0 r2.2) (fun ro ho => ?_)
      exact (mr2).tr (Frm.mono ho (fun k j hk => by first | omega | exact hk.elim | (dsimp only at hk ⊢; omega)))
    · refine wl_mono (Q_MO_balances_l156 x1 x5 r2.1 ((-1)) true 0 r2.2) (fun ro ho => ?_)
      exact (mr2).tr (Frm.mono ho (fun k j hk => by first | omega | exact hk.elim | (dsimp only at hk ⊢; omega)))
theorem Q_MO_balances_b43 (x1 : Int32) (x2 : Int32) (x3 : Int32) (x4 : Int32) (z : Int64 × Int32 × Mem) : wlO (F_MO_balances_b43 x1 x2 x3 x4 z) (fun r => (match r with | .inl s => Frm (fun k j => k = 110 ∨ k = 111 ∨ k = 112 ∨ k = 113) z.2.2 s.2.2 | .inr r => Frm (fun k j => k = 110 ∨ k = 111 ∨ k = 112 ∨ k = 113) z.2.2 r.2)) := by
  unfold F_MO_balances_b43
  refine wl_if (fun _ => ?_) (fun _ => ?_)
  · exact wl_some Frm.rf
  · refine wl_any (fun r8 => ?_)
    refine wl_bind (Q_MO_numberOf x1 x2 x3 z.2.1 1 z.2.2) (fun r9 hr9 => ?_)
    have mr9 : Frm (fun k j => k = 110 ∨ k = 111 ∨ k = 112 ∨ k = 113) z.2.2 r9.2 := (Frm.rf).tr (Frm.mono hr9 (fun k j hk => by first | omega | exact hk.elim | (dsimp only at hk ⊢; omega)))
    refine wl_if (fun _ => ?_) (fun _ => wl_none)
    refine wl_any (fun r10 => ?_)
    refine wl_bind (Q_MO_numberOf x1 x2 x3 z.2.1 0 (mSL r9.2 112 r8.toNatClampNeg r9.1)) (fun r11 hr11 => ?_)
    have mr11 : Frm (fun k j => k = 110 ∨ k = 111 ∨ k = 112 ∨ k = 113) z.2.2 r11.2 := (((mr9).sL (by first | omega | (dsimp only; omega)))).tr (Frm.mono hr11 (fun k j hk => by first | omega | exact hk.elim | (dsimp only at hk ⊢; omega)))
    refine wl_if (fun _ => ?_) (fun _ => wl_none)
    refine wl_any (fun r12 => ?_)
    refine wl_if (fun _ => ?_) (fun _ => wl_none)
    exact wl_some ((mr11).sL (by first | omega | (dsimp only; omega)))
theorem Q_MO_balances_l43 (x1 : Int32) (x2 : Int32) (x3 : Int32) (x4 : Int32) (x5 : Int64) (x7 : Int32) (M : Mem) : wlO (F_MO_balances_l43 x1 x2 x3 x4 x5 x7 M) (fun r => Frm (fun k j => (k = 94 ∧ (j = 15 ∨ j = 16)) ∨ k = 110 ∨ k = 111 ∨ k = 112 ∨ k = 113) M r.2) := by
  unfold F_MO_balances_l43
  refine wl_bind (Ψ := fun r => Frm (fun k j => (k = 94 ∧ (j = 15 ∨ j = 16)) ∨ k = 110 ∨ k = 111 ∨ k = 112 ∨ k = 113) M r.2) (wl_iter (P := fun w9 => Frm (fun k j => (k = 94 ∧ (j = 15 ∨ j = 16)) ∨ k = 110 ∨ k = 111 ∨ k = 112 ∨ k = 113) M w9.2.2) (fun w9 hz => wl_mono (Q_MO_balances_b43 x1 x2 x3 x4 w9) (fun x hx => ?_)) FUEL (x5, x7, M) (Frm.rf)) (fun r hr => ?_)
  · rcases x with x | x
    · exact hz.tr (Frm.mono hx (fun k j hk => by first | omega | exact hk.elim | (dsimp only at hk ⊢; omega)))
    · exact (hz).tr (Frm.mono hx (fun k j hk => by first | omega | exact hk.elim | (dsimp only at hk ⊢; omega)))
  refine wl_mono (Q_MO_balances_j114 x1 x2 x3 r.1 r.2) (fun ro ho => ?_)
  exact (hr).tr (Frm.mono ho (fun k j hk => by first | omega | exact hk.elim | (dsimp only at hk ⊢; omega)))
theorem Q_MO_balances_b12 (x1 : Int32) (x2 : Int32) (x3 : Int32) (x4 : Int32) (x5 : Int64) (z : Int32 × Mem) : wlO (F_MO_balances_b12 x1 x2 x3 x4 x5 z) (fun r => (match r with | .inl s => Frm (fun k j => k = 112 ∨ k = 113) z.2 s.2 | .inr r => Frm (fun k j => k = 112 ∨ k = 113) z.2 r)) := by
  unfold F_MO_balances_b12
  refine wl_if (fun _ => ?_) (fun _ => ?_)
  · exact wl_some Frm.rf
  · refine wl_if (fun _ => ?_) (fun _ => wl_none)
    refine wl_if (fun _ => ?_) (fun _ => wl_none)
    exact wl_some ((((Frm.rf).sL (by first | omega | (dsimp only; omega)))).sL (by first | omega | (dsimp only; omega)))
theorem Q_MO_balances_l12 (x1 : Int32) (x2 : Int32) (x3 : Int32) (x4 : Int32) (x5 : Int64) (x7 : Int32) (M : Mem) : wlO (F_MO_balances_l12 x1 x2 x3 x4 x5 x7 M) (fun r => Frm (fun k j => (k = 94 ∧ (j = 15 ∨ j = 16)) ∨ k = 110 ∨ k = 111 ∨ k = 112 ∨ k = 113) M r.2) := by
  unfold F_MO_balances_l12
  refine wl_bind (Ψ := fun r => Frm (fun k j => (k = 94 ∧ (j = 15 ∨ j = 16)) ∨ k = 110 ∨ k = 111 ∨ k = 112 ∨ k = 113) M r) (wl_iter (P := fun w9 => Frm (fun k j => (k = 94 ∧ (j = 15 ∨ j = 16)) ∨ k = 110 ∨ k = 111 ∨ k = 112 ∨ k = 113) M w9.2) (fun w9 hz => wl_mono (Q_MO_balances_b12 x1 x2 x3 x4 x5 w9) (fun x hx => ?_)) FUEL (x7, M) (Frm.rf)) (fun r hr => ?_)
  · rcases x with x | x
    · exact hz.tr (Frm.mono hx (fun k j hk => by first | omega | exact hk.elim | (dsimp only at hk ⊢; omega)))
    · exact (hz).tr (Frm.mono hx (fun k j hk => by first | omega | exact hk.elim | (dsimp only at hk ⊢; omega)))
  refine wl_mono (Q_MO_balances_l43 x1 x2 x3 x4 x5 0 r) (fun ro ho => ?_)
  exact (hr).tr (Frm.mono ho (fun k j hk => by first | omega | exact hk.elim | (dsimp only at hk ⊢; omega)))
theorem Q_MO_balances (x1 : Int32) (x2 : Int32) (x3 : Int32) (M : Mem) : wlO (F_MO_balances x1 x2 x3 M) (fun r => Frm (fun k j => (k = 94 ∧ (j = 15 ∨ j = 16)) ∨ k = 110 ∨ k = 111 ∨ k = 112 ∨ k = 113) M r.2) := by
  unfold F_MO_balances
  refine wl_any (fun r1 => ?_)
  refine wl_mono (Q_MO_balances_l12 x1 x2 x3 r1 0 0 M) (fun ro ho => ?_)
  exact (Frm.rf).tr (Frm.mono ho (fun k j hk => by first | omega | exact hk.elim | (dsimp only at hk ⊢; omega)))
theorem Q_MO_lots_j92 (x2 : Int32) (M : Mem) : wlO (F_MO_lots_j92 x2 M) (fun r => Frm (fun k j => False) M r.2) := by
  unfold F_MO_lots_j92
  refine wl_if (fun _ => ?_) (fun _ => ?_)
  · exact wl_some Frm.rf
  · exact wl_some Frm.rf
theorem Q_MO_lots_b42 (x1 : Int32) (x2 : Int32) (x4 : Int32) (z : Bool × Int32 × Mem) : wlO (F_MO_lots_b42 x1 x2 x4 z) (fun r => (match r with | .inl s => Frm (fun k j => (k = 94 ∧ (j = 15 ∨ j = 16)) ∨ k = 110 ∨ k = 111 ∨ k = 112 ∨ k = 113) z.2.2 s.2.2 | .inr r => Frm (fun k j => (k = 94 ∧ (j = 15 ∨ j = 16)) ∨ k = 110 ∨ k = 111 ∨ k = 112 ∨ k = 113) z.2.2 r.2)) := by
  unfold F_MO_lots_b42
  refine wl_any (fun r4 => ?_)
  refine wl_if (fun _ => ?_) (fun _ => ?_)
  · exact wl_some Frm.rf
  · refine wl_if (fun _ => ?_) (fun _ => ?_)
    · exact wl_some Frm.rf
    · refine wl_any (fun r5 => ?_)
      refine wl_any (fun r6 => ?_)
      refine wl_if (fun _ => ?_) (fun _ => ?_)
      · refine wl_bind (Q_MO_balances x1 x4 z.2.1 z.2.2) (fun r7 hr7 => ?_)
        have mr7 : Frm (fun k j => (k = 94 ∧ (j = 15 ∨ j = 16)) ∨ k = 110 ∨ k = 111 ∨ k = 112 ∨ k = 113) z.2.2 r7.2 := (Frm.rf).tr (Frm.mono hr7 (fun k j hk => by first | omega | exact hk.elim | (dsimp only at hk ⊢; omega)))
        exact wl_some mr7
      · exact wl_some Frm.rf
theorem Q_MO_lots_l42 (x1 : Int32) (x2 : Int32) (x3 : Bool) (x4 : Int32) (x5 : Int32) (M : Mem) : wlO (F_MO_lots_l42 x1 x2 x3 x4 x5 M) (fun r => (match r with | .inl s => Frm (fun k j => (k = 94 ∧ (j = 15 ∨ j = 16)) ∨ k = 110 ∨ k = 111 ∨ k = 112 ∨ k = 113) M s.2.2 | .inr r => Frm (fun k j => (k = 94 ∧ (j = 15 ∨ j = 16)) ∨ k = 110 ∨ k = 111 ∨ k = 112 ∨ k = 113) M r)) := by
  unfold F_MO_lots_l42
  refine wl_bind (Ψ := fun r => Frm (fun k j => (k = 94 ∧ (j = 15 ∨ j = 16)) ∨ k = 110 ∨ k = 111 ∨ k = 112 ∨ k = 113) M r.2) (wl_iter (P := fun w9 => Frm (fun k j => (k = 94 ∧ (j = 15 ∨ j = 16)) ∨ k = 110 ∨ k = 111 ∨ k = 112 ∨ k = 113) M w9.2.2) (fun w9 hz => wl_mono (Q_MO_lots_b42 x1 x2 x4 w9) (fun x hx => ?_)) FUEL (x3, x5, M) (Frm.rf)) (fun r hr => ?_)
  · rcases x with x | x
    · exact hz.tr (Frm.mono hx (fun k j hk => by first | omega | exact hk.elim | (dsimp only at hk ⊢; omega)))
    · exact (hz).tr (Frm.mono hx (fun k j hk => by first | omega | exact hk.elim | (dsimp only at hk ⊢; omega)))
  exact wl_some hr
theorem Q_MO_lots_b24 (x1 : Int32) (x2 : Int32) (z : Bool × Int32 × Mem) : wlO (F_MO_lots_b24 x1 x2 z) (fun r => (match r with | .inl s => Frm (fun k j => (k = 94 ∧ (j = 15 ∨ j = 16)) ∨ k = 110 ∨ k = 111 ∨ k = 112 ∨ k = 113) z.2.2 s.2.2 | .inr r => Frm (fun k j => (k = 94 ∧ (j = 15 ∨ j = 16)) ∨ k = 110 ∨ k = 111 ∨ k = 112 ∨ k = 113) z.2.2 r)) := by
  unfold F_MO_lots_b24
  refine wl_any (fun r3 => ?_)
  refine wl_if (fun _ => ?_) (fun _ => ?_)
  · exact wl_some Frm.rf
  · refine wl_if (fun _ => ?_) (fun _ => ?_)
    · exact wl_some Frm.rf
    · refine wl_mono (Q_MO_lots_l42 x1 x2 z.1 z.2.1 1 z.2.2) (fun ro ho => ?_)
      rcases ro with s1 | s1
      · exact (Frm.rf).tr (Frm.mono ho (fun k j hk => by first | omega | exact hk.elim | (dsimp only at hk ⊢; omega)))
      · exact (Frm.rf).tr (Frm.mono ho (fun k j hk => by first | omega | exact hk.elim | (dsimp only at hk ⊢; omega)))
theorem Q_MO_lots_l24 (x1 : Int32) (x2 : Int32) (x3 : Bool) (x4 : Int32) (M : Mem) : wlO (F_MO_lots_l24 x1 x2 x3 x4 M) (fun r => Frm (fun k j => (k = 94 ∧ (j = 15 ∨ j = 16)) ∨ k = 110 ∨ k = 111 ∨ k = 112 ∨ k = 113) M r.2) := by
  unfold F_MO_lots_l24
  refine wl_bind (Ψ := fun r => Frm (fun k j => (k = 94 ∧ (j = 15 ∨ j = 16)) ∨ k = 110 ∨ k = 111 ∨ k = 112 ∨ k = 113) M r) (wl_iter (P := fun w9 => Frm (fun k j => (k = 94 ∧ (j = 15 ∨ j = 16)) ∨ k = 110 ∨ k = 111 ∨ k = 112 ∨ k = 113) M w9.2.2) (fun w9 hz => wl_mono (Q_MO_lots_b24 x1 x2 w9) (fun x hx => ?_)) FUEL (x3, x4, M) (Frm.rf)) (fun r hr => ?_)
  · rcases x with x | x
    · exact hz.tr (Frm.mono hx (fun k j hk => by first | omega | exact hk.elim | (dsimp only at hk ⊢; omega)))
    · exact (hz).tr (Frm.mono hx (fun k j hk => by first | omega | exact hk.elim | (dsimp only at hk ⊢; omega)))
  refine wl_mono (Q_MO_lots_j92 x2 r) (fun ro ho => ?_)
  exact (hr).tr (Frm.mono ho (fun k j hk => by first | omega | exact hk.elim | (dsimp only at hk ⊢; omega)))
theorem Q_MO_lots (x1 : Int32) (x2 : Int32) (M : Mem) : wlO (F_MO_lots x1 x2 M) (fun r => Frm (fun k j => (k = 94 ∧ (j = 0 ∨ j = 15 ∨ j = 16)) ∨ k = 110 ∨ k = 111 ∨ k = 112 ∨ k = 113) M r.2) := by
  unfold F_MO_lots
  refine wl_any (fun r1 => ?_)
  refine wl_bind (Q_MO_throwsIf ((b2i r1)) 1 (mSI M 94 0 0)) (fun r2 hr2 => ?_)
  have mr2 : Frm (fun k j => (k = 94 ∧ (j = 0 ∨ j = 15 ∨ j = 16)) ∨ k = 110 ∨ k = 111 ∨ k = 112 ∨ k = 113) M r2.2 := (((Frm.rf).sI (by first | omega | (dsimp only; omega)))).tr (Frm.mono hr2 (fun k j hk => by first | omega | exact hk.elim | (dsimp only at hk ⊢; omega)))
  refine wl_if (fun _ => ?_) (fun _ => ?_)
  · exact wl_some mr2
  · refine wl_mono (Q_MO_lots_l24 x1 x2 false 1 r2.2) (fun ro ho => ?_)
    exact (mr2).tr (Frm.mono ho (fun k j hk => by first | omega | exact hk.elim | (dsimp only at hk ⊢; omega)))
theorem Q_MO_once_l9 (x1 : Int32) (x2 : Int32) (M : Mem) : wlO (F_MO_once_l9 x1 x2 M) (fun r => Frm (fun k j => False) M r.2) := by
  unfold F_MO_once_l9
  refine wl_any (fun r => ?_)
  exact wl_some Frm.rf
theorem Q_MO_once (M : Mem) : wlO (F_MO_once M) (fun r => Frm (fun k j => (k = 94 ∧ j = 0)) M r.2) := by
  unfold F_MO_once
  refine wl_mono (Q_MO_once_l9 0 0 (mSI M 94 0 0)) (fun ro ho => ?_)
  exact (((Frm.rf).sI (by first | omega | (dsimp only; omega)))).tr (Frm.mono ho (fun k j hk => by first | omega | exact hk.elim | (dsimp only at hk ⊢; omega)))
theorem Q_MO_body_j404 (x2 : Int32) (x4 : Int32) (M : Mem) : wlO (F_MO_body_j404 x2 x4 M) (fun r => (match r with | .inl s => Frm (fun k j => False) M s.2.2 | .inr r => Frm (fun k j => False) M r)) := by
  unfold F_MO_body_j404
  refine wl_if (fun _ => ?_) (fun _ => ?_)
  · exact wl_some Frm.rf
  · refine wl_if (fun _ => ?_) (fun _ => wl_none)
    refine wl_if (fun _ => ?_) (fun _ => wl_none)
    refine wl_if (fun _ => ?_) (fun _ => ?_)
    · refine wl_if (fun _ => ?_) (fun _ => wl_none)
      refine wl_if (fun _ => ?_) (fun _ => wl_none)
      refine wl_if (fun _ => ?_) (fun _ => ?_)
      · exact wl_some Frm.rf
      · exact wl_some Frm.rf
    · exact wl_some Frm.rf
theorem Q_MO_body_l203 (x1 : Int32) (x2 : Int32) (x4 : Int32) (x5 : Int32) (M : Mem) : wlO (F_MO_body_l203 x1 x2 x4 x5 M) (fun r => (match r with | .inl s => Frm (fun k j => False) M s.2.2 | .inr r => Frm (fun k j => False) M r)) := by
  unfold F_MO_body_l203
  refine wl_any (fun r => ?_)
  refine wl_mono (Q_MO_body_j404 x2 r M) (fun ro ho => ?_)
  rcases ro with s1 | s1
  · exact (Frm.rf).tr (Frm.mono ho (fun k j hk => by first | omega | exact hk.elim | (dsimp only at hk ⊢; omega)))
  · exact (Frm.rf).tr (Frm.mono ho (fun k j hk => by first | omega | exact hk.elim | (dsimp only at hk ⊢; omega)))
theorem Q_MO_body_b153 (x2 : Int32) (z : Int32 × Bool × Mem) : wlO (F_MO_body_b153 x2 z) (fun r => (match r with | .inl s => Frm (fun k j => (k = 94 ∧ j = 36) ∨ k = 116 ∨ k = 117) z.2.2 s.2.2 | .inr r => Frm (fun k j => (k = 94 ∧ j = 36) ∨ k = 116 ∨ k = 117) z.2.2 r)) := by
  unfold F_MO_body_b153
  refine wl_if (fun _ => ?_) (fun _ => ?_)
  · refine wl_if (fun _ => ?_) (fun _ => wl_none)
    refine wl_if (fun _ => ?_) (fun _ => wl_none)
    refine wl_if (fun _ => ?_) (fun _ => wl_none)
    refine wl_if (fun _ => ?_) (fun _ => wl_none)
    refine wl_mono (Q_MO_body_l203 z.1 x2 ((-1)) 0 (mSI (mSI (mSI z.2.2 116 (z.2.2.1 94 36).toNatClampNeg (z.2.2.1 114 z.1.toNatClampNeg)) 117 ((mSI z.2.2 116 (z.2.2.1 94 36).toNatClampNeg (z.2.2.1 114 z.1.toNatClampNeg)).1 94 36).toNatClampNeg ((mSI z.2.2 116 (z.2.2.1 94 36).toNatClampNeg (z.2.2.1 114 z.1.toNatClampNeg)).1 115 z.1.toNatClampNeg)) 94 36 (((mSI (mSI z.2.2 116 (z.2.2.1 94 36).toNatClampNeg (z.2.2.1 114 z.1.toNatClampNeg)) 117 ((mSI z.2.2 116 (z.2.2.1 94 36).toNatClampNeg (z.2.2.1 114 z.1.toNatClampNeg)).1 94 36).toNatClampNeg ((mSI z.2.2 116 (z.2.2.1 94 36).toNatClampNeg (z.2.2.1 114 z.1.toNatClampNeg)).1 115 z.1.toNatClampNeg)).1 94 36) + 1))) (fun ro ho => ?_)
    rcases ro with s1 | s1
    · exact (((((((Frm.rf).sI (by first | omega | (dsimp only; omega)))).sI (by first | omega | (dsimp only; omega)))).sI (by first | omega | (dsimp only; omega)))).tr (Frm.mono ho (fun k j hk => by first | omega | exact hk.elim | (dsimp only at hk ⊢; omega)))
    · exact (((((((Frm.rf).sI (by first | omega | (dsimp only; omega)))).sI (by first | omega | (dsimp only; omega)))).sI (by first | omega | (dsimp only; omega)))).tr (Frm.mono ho (fun k j hk => by first | omega | exact hk.elim | (dsimp only at hk ⊢; omega)))
  · exact wl_some Frm.rf
theorem Q_MO_body_l153 (x1 : Int32) (x2 : Int32) (x3 : Bool) (M : Mem) : wlO (F_MO_body_l153 x1 x2 x3 M) (fun r => Frm (fun k j => (k = 94 ∧ j = 36) ∨ k = 116 ∨ k = 117) M r) := by
  unfold F_MO_body_l153
  refine wl_bind (Ψ := fun r => Frm (fun k j => (k = 94 ∧ j = 36) ∨ k = 116 ∨ k = 117) M r) (wl_iter (P := fun w9 => Frm (fun k j => (k = 94 ∧ j = 36) ∨ k = 116 ∨ k = 117) M w9.2.2) (fun w9 hz => wl_mono (Q_MO_body_b153 x2 w9) (fun x hx => ?_)) FUEL (x1, x3, M) (Frm.rf)) (fun r hr => ?_)
  · rcases x with x | x
    · exact hz.tr (Frm.mono hx (fun k j hk => by first | omega | exact hk.elim | (dsimp only at hk ⊢; omega)))
    · exact (hz).tr (Frm.mono hx (fun k j hk => by first | omega | exact hk.elim | (dsimp only at hk ⊢; omega)))
  exact wl_some hr
theorem Q_MO_body_j144 (x1 : Int32) (M : Mem) : wlO (F_MO_body_j144 x1 M) (fun r => Frm (fun k j => (k = 94 ∧ j = 36) ∨ k = 116 ∨ k = 117) M r) := by
  unfold F_MO_body_j144
  refine wl_mono (Q_MO_body_l153 x1 x1 true (mSI M 94 36 0)) (fun ro ho => ?_)
  exact (((Frm.rf).sI (by first | omega | (dsimp only; omega)))).tr (Frm.mono ho (fun k j hk => by first | omega | exact hk.elim | (dsimp only at hk ⊢; omega)))
theorem Q_MO_body_l83 (x1 : Int32) (x2 : Int32) (M : Mem) : wlO (F_MO_body_l83 x1 x2 M) (fun r => Frm (fun k j => (k = 94 ∧ j = 36) ∨ k = 116 ∨ k = 117) M r) := by
  unfold F_MO_body_l83
  refine wl_any (fun r => ?_)
  refine wl_mono (Q_MO_body_j144 r M) (fun ro ho => ?_)
  exact (Frm.rf).tr (Frm.mono ho (fun k j hk => by first | omega | exact hk.elim | (dsimp only at hk ⊢; omega)))
theorem Q_MO_body_b17 (x1 : Int32) (z : Int32 × Mem) : wlO (F_MO_body_b17 x1 z) (fun r => (match r with | .inl s => Frm (fun k j => (k = 94 ∧ j = 35) ∨ k = 114 ∨ k = 115) z.2 s.2 | .inr r => Frm (fun k j => (k = 94 ∧ j = 35) ∨ k = 114 ∨ k = 115) z.2 r)) := by
  unfold F_MO_body_b17
  refine wl_any (fun r5 => ?_)
  refine wl_if (fun _ => ?_) (fun _ => ?_)
  · exact wl_some Frm.rf
  · refine wl_any (fun r6 => ?_)
    refine wl_if (fun _ => ?_) (fun _ => wl_none)
    refine wl_any (fun r7 => ?_)
    refine wl_if (fun _ => ?_) (fun _ => wl_none)
    exact wl_some ((((((Frm.rf).sI (by first | omega | (dsimp only; omega)))).sI (by first | omega | (dsimp only; omega)))).sI (by first | omega | (dsimp only; omega)))
theorem Q_MO_body_l17 (x1 : Int32) (x2 : Int32) (M : Mem) : wlO (F_MO_body_l17 x1 x2 M) (fun r => (match r with | .inl s => Frm (fun k j => (k = 94 ∧ j = 35) ∨ k = 114 ∨ k = 115) M s.2 | .inr r => Frm (fun k j => (k = 94 ∧ j = 35) ∨ k = 114 ∨ k = 115) M r)) := by
  unfold F_MO_body_l17
  refine wl_bind (Ψ := fun r => Frm (fun k j => (k = 94 ∧ j = 35) ∨ k = 114 ∨ k = 115) M r) (wl_iter (P := fun w9 => Frm (fun k j => (k = 94 ∧ j = 35) ∨ k = 114 ∨ k = 115) M w9.2) (fun w9 hz => wl_mono (Q_MO_body_b17 x1 w9) (fun x hx => ?_)) FUEL (x2, M) (Frm.rf)) (fun r hr => ?_)
  · rcases x with x | x
    · exact hz.tr (Frm.mono hx (fun k j hk => by first | omega | exact hk.elim | (dsimp only at hk ⊢; omega)))
    · exact (hz).tr (Frm.mono hx (fun k j hk => by first | omega | exact hk.elim | (dsimp only at hk ⊢; omega)))
  exact wl_some hr
theorem Q_MO_body_b7 (z : Int32 × Mem) : wlO (F_MO_body_b7 z) (fun r => (match r with | .inl s => Frm (fun k j => (k = 94 ∧ j = 35) ∨ k = 114 ∨ k = 115) z.2 s.2 | .inr r => Frm (fun k j => (k = 94 ∧ j = 35) ∨ k = 114 ∨ k = 115) z.2 r)) := by
  unfold F_MO_body_b7
  refine wl_any (fun r1 => ?_)
  refine wl_if (fun _ => ?_) (fun _ => ?_)
  · exact wl_some Frm.rf
  · refine wl_mono (Q_MO_body_l17 z.1 0 z.2) (fun ro ho => ?_)
    rcases ro with s1 | s1
    · exact (Frm.rf).tr (Frm.mono ho (fun k j hk => by first | omega | exact hk.elim | (dsimp only at hk ⊢; omega)))
    · exact (Frm.rf).tr (Frm.mono ho (fun k j hk => by first | omega | exact hk.elim | (dsimp only at hk ⊢; omega)))
theorem Q_MO_body_l7 (x1 : Int32) (M : Mem) : wlO (F_MO_body_l7 x1 M) (fun r => Frm (fun k j => (k = 94 ∧ (j = 35 ∨ j = 36)) ∨ k = 114 ∨ k = 115 ∨ k = 116 ∨ k = 117) M r) := by
  unfold F_MO_body_l7
  refine wl_bind (Ψ := fun r => Frm (fun k j => (k = 94 ∧ (j = 35 ∨ j = 36)) ∨ k = 114 ∨ k = 115 ∨ k = 116 ∨ k = 117) M r) (wl_iter (P := fun w9 => Frm (fun k j => (k = 94 ∧ (j = 35 ∨ j = 36)) ∨ k = 114 ∨ k = 115 ∨ k = 116 ∨ k = 117) M w9.2) (fun w9 hz => wl_mono (Q_MO_body_b7  w9) (fun x hx => ?_)) FUEL (x1, M) (Frm.rf)) (fun r hr => ?_)
  · rcases x with x | x
    · exact hz.tr (Frm.mono hx (fun k j hk => by first | omega | exact hk.elim | (dsimp only at hk ⊢; omega)))
    · exact (hz).tr (Frm.mono hx (fun k j hk => by first | omega | exact hk.elim | (dsimp only at hk ⊢; omega)))
  refine wl_mono (Q_MO_body_l83 0 1 r) (fun ro ho => ?_)
  exact (hr).tr (Frm.mono ho (fun k j hk => by first | omega | exact hk.elim | (dsimp only at hk ⊢; omega)))
theorem Q_MO_body (M : Mem) : wlO (F_MO_body M) (fun r => Frm (fun k j => (k = 94 ∧ (j = 35 ∨ j = 36)) ∨ k = 114 ∨ k = 115 ∨ k = 116 ∨ k = 117) M r) := by
  unfold F_MO_body
  refine wl_mono (Q_MO_body_l7 0 (mSI M 94 35 0)) (fun ro ho => ?_)
  exact (((Frm.rf).sI (by first | omega | (dsimp only; omega)))).tr (Frm.mono ho (fun k j hk => by first | omega | exact hk.elim | (dsimp only at hk ⊢; omega)))
theorem Q_MO_corner (x1 : Int32) (x2 : Int32) (M : Mem) : wlO (F_MO_corner x1 x2 M) (fun r => Frm (fun k j => (k = 94 ∧ (j = 0 ∨ j = 35 ∨ j = 36)) ∨ k = 114 ∨ k = 115 ∨ k = 116 ∨ k = 117) M r.2) := by
  unfold F_MO_corner
  refine wl_bind (Q_MO_body (mSI M 94 0 0)) (fun r1 hr1 => ?_)
  have mr1 : Frm (fun k j => (k = 94 ∧ (j = 0 ∨ j = 35 ∨ j = 36)) ∨ k = 114 ∨ k = 115 ∨ k = 116 ∨ k = 117) M r1 := (((Frm.rf).sI (by first | omega | (dsimp only; omega)))).tr (Frm.mono hr1 (fun k j hk => by first | omega | exact hk.elim | (dsimp only at hk ⊢; omega)))
  refine wl_any (fun r2 => ?_)
  refine wl_if (fun _ => ?_) (fun _ => ?_)
  · refine wl_if (fun _ => ?_) (fun _ => ?_)
    · refine wl_if (fun _ => ?_) (fun _ => wl_none)
      exact wl_some mr1
    · refine wl_if (fun _ => ?_) (fun _ => wl_none)
      exact wl_some mr1
  · exact wl_some mr1
theorem Q_MO_isIn_j102 (x1 : Int64) (x3 : Int64) (x5 : Int64) (x7 : Bool) (M : Mem) : wlO (F_MO_isIn_j102 x1 x3 x5 x7 M) (fun r => Frm (fun k j => False) M r.2) := by
  unfold F_MO_isIn_j102
  refine wl_if (fun _ => ?_) (fun _ => ?_)
  · refine wl_if (fun _ => ?_) (fun _ => ?_)
    · refine wl_if (fun _ => ?_) (fun _ => wl_none)
      refine wl_if (fun _ => ?_) (fun _ => wl_none)
      refine wl_any (fun r2 => ?_)
      refine wl_if (fun _ => ?_) (fun _ => ?_)
      · exact wl_some Frm.rf
      · refine wl_if (fun _ => ?_) (fun _ => wl_none)
        refine wl_if (fun _ => ?_) (fun _ => wl_none)
        refine wl_any (fun r3 => ?_)
        refine wl_if (fun _ => ?_) (fun _ => ?_)
        · exact wl_some Frm.rf
        · refine wl_if (fun _ => ?_) (fun _ => wl_none)
          refine wl_if (fun _ => ?_) (fun _ => wl_none)
          refine wl_any (fun r4 => ?_)
          refine wl_if (fun _ => ?_) (fun _ => ?_)
          · exact wl_some Frm.rf
          · refine wl_if (fun _ => ?_) (fun _ => wl_none)
            refine wl_if (fun _ => ?_) (fun _ => wl_none)
            refine wl_any (fun r5 => ?_)
            refine wl_if (fun _ => ?_) (fun _ => ?_)
            · exact wl_some Frm.rf
            · exact wl_some Frm.rf
    · exact wl_some Frm.rf
  · exact wl_some Frm.rf
theorem Q_MO_isIn_l10 (x1 : Int64) (x3 : Int64) (x5 : Int64) (x7 : Bool) (x8 : Int32) (M : Mem) : wlO (F_MO_isIn_l10 x1 x3 x5 x7 x8 M) (fun r => Frm (fun k j => False) M r.2) := by
  unfold F_MO_isIn_l10
  refine wl_any (fun r => ?_)
  refine wl_mono (Q_MO_isIn_j102 x1 x3 x5 r M) (fun ro ho => ?_)
  exact (Frm.rf).tr (Frm.mono ho (fun k j hk => by first | omega | exact hk.elim | (dsimp only at hk ⊢; omega)))
theorem Q_MO_isIn (x1 : Int64) (x3 : Int64) (x5 : Int64) (M : Mem) : wlO (F_MO_isIn x1 x3 x5 M) (fun r => Frm (fun k j => (k = 94 ∧ (j = 35 ∨ j = 36)) ∨ k = 114 ∨ k = 115 ∨ k = 116 ∨ k = 117) M r.2) := by
  unfold F_MO_isIn
  refine wl_bind (Q_MO_body M) (fun r1 hr1 => ?_)
  have mr1 : Frm (fun k j => (k = 94 ∧ (j = 35 ∨ j = 36)) ∨ k = 114 ∨ k = 115 ∨ k = 116 ∨ k = 117) M r1 := (Frm.rf).tr (Frm.mono hr1 (fun k j hk => by first | omega | exact hk.elim | (dsimp only at hk ⊢; omega)))
  refine wl_mono (Q_MO_isIn_l10 x1 x3 x5 true 0 r1) (fun ro ho => ?_)
  exact (mr1).tr (Frm.mono ho (fun k j hk => by first | omega | exact hk.elim | (dsimp only at hk ⊢; omega)))
theorem Q_MO_in_j48 (x1 : Int32) (x2 : Int32) (x3 : Int32) (x4 : Int32) (s1 : Bool) (M : Mem) : wlO (F_MO_in_j48 x1 x2 x3 x4 s1 M) (fun r => Frm (fun k j => (k = 94 ∧ (j = 0 ∨ j = 35 ∨ j = 36)) ∨ k = 114 ∨ k = 115 ∨ k = 116 ∨ k = 117) M r.2) := by
  unfold F_MO_in_j48
  refine wl_bind (Q_MO_throwsIf ((b2i s1)) 1 M) (fun r2 hr2 => ?_)
  have mr2 : Frm (fun k j => (k = 94 ∧ (j = 0 ∨ j = 35 ∨ j = 36)) ∨ k = 114 ∨ k = 115 ∨ k = 116 ∨ k = 117) M r2.2 := (Frm.rf).tr (Frm.mono hr2 (fun k j hk => by first | omega | exact hk.elim | (dsimp only at hk ⊢; omega)))
  refine wl_if (fun _ => ?_) (fun _ => ?_)
  · exact wl_some mr2
  · refine wl_bind (Q_MO_isIn x1.toInt64 x2.toInt64 x3.toInt64 r2.2) (fun r3 hr3 => ?_)
    have mr3 : Frm (fun k j => (k = 94 ∧ (j = 0 ∨ j = 35 ∨ j = 36)) ∨ k = 114 ∨ k = 115 ∨ k = 116 ∨ k = 117) M r3.2 := (mr2).tr (Frm.mono hr3 (fun k j hk => by first | omega | exact hk.elim | (dsimp only at hk ⊢; omega)))
    refine wl_if (fun _ => ?_) (fun _ => ?_)
    · refine wl_if (fun _ => ?_) (fun _ => ?_)
      · exact wl_some mr3
      · refine wl_any (fun r4 => ?_)
        refine wl_if (fun _ => ?_) (fun _ => ?_)
        · exact wl_some mr3
        · refine wl_any (fun r5 => ?_)
          refine wl_if (fun _ => ?_) (fun _ => ?_)
          · exact wl_some mr3
          · exact wl_some mr3
    · exact wl_some mr3
theorem Q_MO_in (x1 : Int32) (x2 : Int32) (x3 : Int32) (x4 : Int32) (M : Mem) : wlO (F_MO_in x1 x2 x3 x4 M) (fun r => Frm (fun k j => (k = 94 ∧ (j = 0 ∨ j = 35 ∨ j = 36)) ∨ k = 114 ∨ k = 115 ∨ k = 116 ∨ k = 117) M r.2) := by
  unfold F_MO_in
  refine wl_any (fun r1 => ?_)
  refine wl_if (fun _ => ?_) (fun _ => ?_)
  · refine wl_any (fun r6 => ?_)
    refine wl_if (fun _ => ?_) (fun _ => ?_)
    · refine wl_any (fun r7 => ?_)
      refine wl_if (fun _ => ?_) (fun _ => ?_)
      · refine wl_mono (Q_MO_in_j48 x1 x2 x3 x4 false (mSI M 94 0 0)) (fun ro ho => ?_)
        exact (((Frm.rf).sI (by first | omega | (dsimp only; omega)))).tr (Frm.mono ho (fun k j hk => by first | omega | exact hk.elim | (dsimp only at hk ⊢; omega)))
      · refine wl_mono (Q_MO_in_j48 x1 x2 x3 x4 true (mSI M 94 0 0)) (fun ro ho => ?_)
        exact (((Frm.rf).sI (by first | omega | (dsimp only; omega)))).tr (Frm.mono ho (fun k j hk => by first | omega | exact hk.elim | (dsimp only at hk ⊢; omega)))
    · refine wl_mono (Q_MO_in_j48 x1 x2 x3 x4 true (mSI M 94 0 0)) (fun ro ho => ?_)
      exact (((Frm.rf).sI (by first | omega | (dsimp only; omega)))).tr (Frm.mono ho (fun k j hk => by first | omega | exact hk.elim | (dsimp only at hk ⊢; omega)))
  · refine wl_mono (Q_MO_in_j48 x1 x2 x3 x4 true (mSI M 94 0 0)) (fun ro ho => ?_)
    exact (((Frm.rf).sI (by first | omega | (dsimp only; omega)))).tr (Frm.mono ho (fun k j hk => by first | omega | exact hk.elim | (dsimp only at hk ⊢; omega)))
theorem Q_MO_mild_l60 (x1 : Int32) (x2 : Int32) (x3 : Int32) (x4 : Int32) (x5 : Int32) (M : Mem) : wlO (F_MO_mild_l60 x1 x2 x3 x4 x5 M) (fun r => Frm (fun k j => False) M r.2) := by
  unfold F_MO_mild_l60
  refine wl_any (fun q => ?_)
  rcases q with y1 | y1
  · exact wl_some Frm.rf
  · exact wl_some Frm.rf
theorem Q_MO_mild_j44 (x1 : Int32) (x2 : Int32) (x3 : Int32) (x4 : Int32) (s1 : Bool) (M : Mem) : wlO (F_MO_mild_j44 x1 x2 x3 x4 s1 M) (fun r => Frm (fun k j => (k = 94 ∧ (j = 0 ∨ j = 19 ∨ j = 20))) M r.2) := by
  unfold F_MO_mild_j44
  refine wl_bind (Q_MO_throwsIf ((b2i s1)) 1 M) (fun r2 hr2 => ?_)
  have mr2 : Frm (fun k j => (k = 94 ∧ (j = 0 ∨ j = 19 ∨ j = 20))) M r2.2 := (Frm.rf).tr (Frm.mono hr2 (fun k j hk => by first | omega | exact hk.elim | (dsimp only at hk ⊢; omega)))
  refine wl_if (fun _ => ?_) (fun _ => ?_)
  · exact wl_some mr2
  · refine wl_bind (Q_MO_plainTomorrow r2.2) (fun r3 hr3 => ?_)
    have mr3 : Frm (fun k j => (k = 94 ∧ (j = 0 ∨ j = 19 ∨ j = 20))) M r3 := (mr2).tr (Frm.mono hr3 (fun k j hk => by first | omega | exact hk.elim | (dsimp only at hk ⊢; omega)))
    refine wl_mono (Q_MO_mild_l60 x1 x2 x3 x4 0 r3) (fun ro ho => ?_)
    exact (mr3).tr (Frm.mono ho (fun k j hk => by first | omega | exact hk.elim | (dsimp only at hk ⊢; omega)))
theorem Q_MO_mild (x1 : Int32) (x2 : Int32) (x3 : Int32) (x4 : Int32) (M : Mem) : wlO (F_MO_mild x1 x2 x3 x4 M) (fun r => Frm (fun k j => (k = 94 ∧ (j = 0 ∨ j = 19 ∨ j = 20))) M r.2) := by
  unfold F_MO_mild
  refine wl_any (fun r1 => ?_)
  refine wl_if (fun _ => ?_) (fun _ => ?_)
  · refine wl_mono (Q_MO_mild_j44 x1 x2 x3 x4 true (mSI M 94 0 0)) (fun ro ho => ?_)
    exact (((Frm.rf).sI (by first | omega | (dsimp only; omega)))).tr (Frm.mono ho (fun k j hk => by first | omega | exact hk.elim | (dsimp only at hk ⊢; omega)))
  · refine wl_any (fun r8 => ?_)
    refine wl_if (fun _ => ?_) (fun _ => ?_)
    · refine wl_mono (Q_MO_mild_j44 x1 x2 x3 x4 true (mSI M 94 0 0)) (fun ro ho => ?_)
      exact (((Frm.rf).sI (by first | omega | (dsimp only; omega)))).tr (Frm.mono ho (fun k j hk => by first | omega | exact hk.elim | (dsimp only at hk ⊢; omega)))
    · refine wl_any (fun r9 => ?_)
      refine wl_if (fun _ => ?_) (fun _ => ?_)
      · refine wl_mono (Q_MO_mild_j44 x1 x2 x3 x4 true (mSI M 94 0 0)) (fun ro ho => ?_)
        exact (((Frm.rf).sI (by first | omega | (dsimp only; omega)))).tr (Frm.mono ho (fun k j hk => by first | omega | exact hk.elim | (dsimp only at hk ⊢; omega)))
      · refine wl_any (fun r10 => ?_)
        refine wl_if (fun _ => ?_) (fun _ => ?_)
        · refine wl_mono (Q_MO_mild_j44 x1 x2 x3 x4 true (mSI M 94 0 0)) (fun ro ho => ?_)
          exact (((Frm.rf).sI (by first | omega | (dsimp only; omega)))).tr (Frm.mono ho (fun k j hk => by first | omega | exact hk.elim | (dsimp only at hk ⊢; omega)))
        · refine wl_mono (Q_MO_mild_j44 x1 x2 x3 x4 false (mSI M 94 0 0)) (fun ro ho => ?_)
          exact (((Frm.rf).sI (by first | omega | (dsimp only; omega)))).tr (Frm.mono ho (fun k j hk => by first | omega | exact hk.elim | (dsimp only at hk ⊢; omega)))
theorem Q_MO_edge_j172 (x4 : Int32) (x5 : Int32) (M : Mem) : wlO (F_MO_edge_j172 x4 x5 M) (fun r => Frm (fun k j => False) M r.2) := by
  unfold F_MO_edge_j172
  refine wl_if (fun _ => ?_) (fun _ => ?_)
  · exact wl_some Frm.rf
  · exact wl_some Frm.rf
theorem Q_MO_edge_b91 (x1 : Int32) (x2 : Int32) (x3 : Int32) (x6 : Int32) (z : Int32 × Int32 × Int32 × Mem) : wlO (F_MO_edge_b91 x1 x2 x3 x6 z) (fun r => (match r with | .inl s => Frm (fun k j => (k = 94 ∧ (j = 15 ∨ j = 16 ∨ j = 19 ∨ j = 20)) ∨ k = 102 ∨ k = 103 ∨ k = 104 ∨ k = 105) z.2.2.2 s.2.2.2 | .inr r => Frm (fun k j => (k = 94 ∧ (j = 15 ∨ j = 16 ∨ j = 19 ∨ j = 20)) ∨ k = 102 ∨ k = 103 ∨ k = 104 ∨ k = 105) z.2.2.2 r.2.2)) := by
  unfold F_MO_edge_b91
  refine wl_if (fun _ => ?_) (fun _ => ?_)
  · exact wl_some Frm.rf
  · refine wl_any (fun r7 => ?_)
    refine wl_if (fun _ => ?_) (fun _ => ?_)
    · exact wl_some Frm.rf
    · refine wl_if (fun _ => ?_) (fun _ => ?_)
      · refine wl_bind (Q_MO_firstOf x1 x2 (mSI (mSI z.2.2.2 94 19 z.2.2.1) 94 20 x6)) (fun r8 hr8 => ?_)
        have mr8 : Frm (fun k j => (k = 94 ∧ (j = 15 ∨ j = 16 ∨ j = 19 ∨ j = 20)) ∨ k = 102 ∨ k = 103 ∨ k = 104 ∨ k = 105) z.2.2.2 r8.2 := (((((Frm.rf).sI (by first | omega | (dsimp only; omega)))).sI (by first | omega | (dsimp only; omega)))).tr (Frm.mono hr8 (fun k j hk => by first | omega | exact hk.elim | (dsimp only at hk ⊢; omega)))
        refine wl_if (fun _ => ?_) (fun _ => ?_)
        · exact wl_some mr8
        · exact wl_some mr8
      · exact wl_some Frm.rf
theorem Q_MO_edge_l91 (x1 : Int32) (x2 : Int32) (x3 : Int32) (x4 : Int32) (x5 : Int32) (x6 : Int32) (x7 : Int32) (M : Mem) : wlO (F_MO_edge_l91 x1 x2 x3 x4 x5 x6 x7 M) (fun r => (match r with | .inl s => Frm (fun k j => (k = 94 ∧ (j = 15 ∨ j = 16 ∨ j = 19 ∨ j = 20)) ∨ k = 102 ∨ k = 103 ∨ k = 104 ∨ k = 105) M s.2.2.2 | .inr r => Frm (fun k j => (k = 94 ∧ (j = 15 ∨ j = 16 ∨ j = 19 ∨ j = 20)) ∨ k = 102 ∨ k = 103 ∨ k = 104 ∨ k = 105) M r.2.2)) := by
  unfold F_MO_edge_l91
  refine wl_bind (Ψ := fun r => Frm (fun k j => (k = 94 ∧ (j = 15 ∨ j = 16 ∨ j = 19 ∨ j = 20)) ∨ k = 102 ∨ k = 103 ∨ k = 104 ∨ k = 105) M r.2.2) (wl_iter (P := fun w9 => Frm (fun k j => (k = 94 ∧ (j = 15 ∨ j = 16 ∨ j = 19 ∨ j = 20)) ∨ k = 102 ∨ k = 103 ∨ k = 104 ∨ k = 105) M w9.2.2.2) (fun w9 hz => wl_mono (Q_MO_edge_b91 x1 x2 x3 x6 w9) (fun x hx => ?_)) FUEL (x4, x5, x7, M) (Frm.rf)) (fun r hr => ?_)
  · rcases x with x | x
    · exact hz.tr (Frm.mono hx (fun k j hk => by first | omega | exact hk.elim | (dsimp only at hk ⊢; omega)))
    · exact (hz).tr (Frm.mono hx (fun k j hk => by first | omega | exact hk.elim | (dsimp only at hk ⊢; omega)))
  exact wl_some hr
theorem Q_MO_edge_b82 (x1 : Int32) (x2 : Int32) (x3 : Int32) (z : Int32 × Int32 × Int32 × Mem) : wlO (F_MO_edge_b82 x1 x2 x3 z) (fun r => (match r with | .inl s => Frm (fun k j => (k = 94 ∧ (j = 15 ∨ j = 16 ∨ j = 19 ∨ j = 20)) ∨ k = 102 ∨ k = 103 ∨ k = 104 ∨ k = 105) z.2.2.2 s.2.2.2 | .inr r => Frm (fun k j => (k = 94 ∧ (j = 15 ∨ j = 16 ∨ j = 19 ∨ j = 20)) ∨ k = 102 ∨ k = 103 ∨ k = 104 ∨ k = 105) z.2.2.2 r.2.2)) := by
  unfold F_MO_edge_b82
  refine wl_if (fun _ => ?_) (fun _ => ?_)
  · exact wl_some Frm.rf
  · refine wl_mono (Q_MO_edge_l91 x1 x2 x3 z.1 z.2.1 z.2.2.1 1 z.2.2.2) (fun ro ho => ?_)
    rcases ro with s1 | s1
    · exact (Frm.rf).tr (Frm.mono ho (fun k j hk => by first | omega | exact hk.elim | (dsimp only at hk ⊢; omega)))
    · exact (Frm.rf).tr (Frm.mono ho (fun k j hk => by first | omega | exact hk.elim | (dsimp only at hk ⊢; omega)))
theorem Q_MO_edge_l82 (x1 : Int32) (x2 : Int32) (x3 : Int32) (x4 : Int32) (x5 : Int32) (x6 : Int32) (M : Mem) : wlO (F_MO_edge_l82 x1 x2 x3 x4 x5 x6 M) (fun r => Frm (fun k j => (k = 94 ∧ (j = 15 ∨ j = 16 ∨ j = 19 ∨ j = 20)) ∨ k = 102 ∨ k = 103 ∨ k = 104 ∨ k = 105) M r.2) := by
  unfold F_MO_edge_l82
  refine wl_bind (Ψ := fun r => Frm (fun k j => (k = 94 ∧ (j = 15 ∨ j = 16 ∨ j = 19 ∨ j = 20)) ∨ k = 102 ∨ k = 103 ∨ k = 104 ∨ k = 105) M r.2.2) (wl_iter (P := fun w9 => Frm (fun k j => (k = 94 ∧ (j = 15 ∨ j = 16 ∨ j = 19 ∨ j = 20)) ∨ k = 102 ∨ k = 103 ∨ k = 104 ∨ k = 105) M w9.2.2.2) (fun w9 hz => wl_mono (Q_MO_edge_b82 x1 x2 x3 w9) (fun x hx => ?_)) FUEL (x4, x5, x6, M) (Frm.rf)) (fun r hr => ?_)
  · rcases x with x | x
    · exact hz.tr (Frm.mono hx (fun k j hk => by first | omega | exact hk.elim | (dsimp only at hk ⊢; omega)))
    · exact (hz).tr (Frm.mono hx (fun k j hk => by first | omega | exact hk.elim | (dsimp only at hk ⊢; omega)))
  refine wl_mono (Q_MO_edge_j172 r.1 r.2.1 r.2.2) (fun ro ho => ?_)
  exact (hr).tr (Frm.mono ho (fun k j hk => by first | omega | exact hk.elim | (dsimp only at hk ⊢; omega)))
theorem Q_MO_edge_j50 (x1 : Int32) (x2 : Int32) (x3 : Int32) (s1 : Bool) (M : Mem) : wlO (F_MO_edge_j50 x1 x2 x3 s1 M) (fun r => Frm (fun k j => (k = 94 ∧ (j = 0 ∨ j = 15 ∨ j = 16 ∨ j = 19 ∨ j = 20)) ∨ k = 102 ∨ k = 103 ∨ k = 104 ∨ k = 105) M r.2) := by
  unfold F_MO_edge_j50
  refine wl_bind (Q_MO_throwsIf ((b2i s1)) 2 M) (fun r4 hr4 => ?_)
  have mr4 : Frm (fun k j => (k = 94 ∧ (j = 0 ∨ j = 15 ∨ j = 16 ∨ j = 19 ∨ j = 20)) ∨ k = 102 ∨ k = 103 ∨ k = 104 ∨ k = 105) M r4.2 := (Frm.rf).tr (Frm.mono hr4 (fun k j hk => by first | omega | exact hk.elim | (dsimp only at hk ⊢; omega)))
  refine wl_if (fun _ => ?_) (fun _ => ?_)
  · exact wl_some mr4
  · refine wl_any (fun r5 => ?_)
    refine wl_bind (Q_MO_throwsIf ((b2i r5)) 3 r4.2) (fun r6 hr6 => ?_)
    have mr6 : Frm (fun k j => (k = 94 ∧ (j = 0 ∨ j = 15 ∨ j = 16 ∨ j = 19 ∨ j = 20)) ∨ k = 102 ∨ k = 103 ∨ k = 104 ∨ k = 105) M r6.2 := (mr4).tr (Frm.mono hr6 (fun k j hk => by first | omega | exact hk.elim | (dsimp only at hk ⊢; omega)))
    refine wl_if (fun _ => ?_) (fun _ => ?_)
    · exact wl_some mr6
    · refine wl_mono (Q_MO_edge_l82 x1 x2 x3 1 1 2 r6.2) (fun ro ho => ?_)
      exact (mr6).tr (Frm.mono ho (fun k j hk => by first | omega | exact hk.elim | (dsimp only at hk ⊢; omega)))
theorem Q_MO_edge_j27 (x1 : Int32) (x2 : Int32) (x3 : Int32) (s1 : Bool) (M : Mem) : wlO (F_MO_edge_j27 x1 x2 x3 s1 M) (fun r => Frm (fun k j => (k = 94 ∧ (j = 0 ∨ j = 15 ∨ j = 16 ∨ j = 19 ∨ j = 20)) ∨ k = 102 ∨ k = 103 ∨ k = 104 ∨ k = 105) M r.2) := by
  unfold F_MO_edge_j27
  refine wl_bind (Q_MO_throwsIf ((b2i s1)) 1 M) (fun r2 hr2 => ?_)
  have mr2 : Frm (fun k j => (k = 94 ∧ (j = 0 ∨ j = 15 ∨ j = 16 ∨ j = 19 ∨ j = 20)) ∨ k = 102 ∨ k = 103 ∨ k = 104 ∨ k = 105) M r2.2 := (Frm.rf).tr (Frm.mono hr2 (fun k j hk => by first | omega | exact hk.elim | (dsimp only at hk ⊢; omega)))
  refine wl_if (fun _ => ?_) (fun _ => ?_)
  · exact wl_some mr2
  · refine wl_any (fun r3 => ?_)
    refine wl_if (fun _ => ?_) (fun _ => ?_)
    · refine wl_mono (Q_MO_edge_j50 x1 x2 x3 false r2.2) (fun ro ho => ?_)
      exact (mr2).tr (Frm.mono ho (fun k j hk => by first | omega | exact hk.elim | (dsimp only at hk ⊢; omega)))
    · refine wl_mono (Q_MO_edge_j50 x1 x2 x3 true r2.2) (fun ro ho => ?_)
      exact (mr2).tr (Frm.mono ho (fun k j hk => by first | omega | exact hk.elim | (dsimp only at hk ⊢; omega)))
theorem Q_MO_edge (x1 : Int32) (x2 : Int32) (x3 : Int32) (M : Mem) : wlO (F_MO_edge x1 x2 x3 M) (fun r => Frm (fun k j => (k = 94 ∧ (j = 0 ∨ j = 15 ∨ j = 16 ∨ j = 19 ∨ j = 20)) ∨ k = 102 ∨ k = 103 ∨ k = 104 ∨ k = 105) M r.2) := by
  unfold F_MO_edge
  refine wl_any (fun r1 => ?_)
  refine wl_if (fun _ => ?_) (fun _ => ?_)
  · refine wl_mono (Q_MO_edge_j27 x1 x2 x3 true (mSI M 94 0 0)) (fun ro ho => ?_)
    exact (((Frm.rf).sI (by first | omega | (dsimp only; omega)))).tr (Frm.mono ho (fun k j hk => by first | omega | exact hk.elim | (dsimp only at hk ⊢; omega)))
  · refine wl_any (fun r9 => ?_)
    refine wl_if (fun _ => ?_) (fun _ => ?_)
    · refine wl_mono (Q_MO_edge_j27 x1 x2 x3 true (mSI M 94 0 0)) (fun ro ho => ?_)
      exact (((Frm.rf).sI (by first | omega | (dsimp only; omega)))).tr (Frm.mono ho (fun k j hk => by first | omega | exact hk.elim | (dsimp only at hk ⊢; omega)))
    · refine wl_mono (Q_MO_edge_j27 x1 x2 x3 false (mSI M 94 0 0)) (fun ro ho => ?_)
      exact (((Frm.rf).sI (by first | omega | (dsimp only; omega)))).tr (Frm.mono ho (fun k j hk => by first | omega | exact hk.elim | (dsimp only at hk ⊢; omega)))
theorem Q_MO_bothWorth_j85 (x3 : Int32) (x4 : Int32) (M : Mem) : wlO (F_MO_bothWorth_j85 x3 x4 M) (fun r => Frm (fun k j => (k = 94 ∧ (j = 15 ∨ j = 16))) M r) := by
  unfold F_MO_bothWorth_j85
  refine wl_if (fun _ => ?_) (fun _ => wl_none)
  refine wl_bind (Q_MO_worthOf x3 (M.1 103 x4.toNatClampNeg) M) (fun r1 hr1 => ?_)
  have mr1 : Frm (fun k j => (k = 94 ∧ (j = 15 ∨ j = 16))) M r1 := (Frm.rf).tr (Frm.mono hr1 (fun k j hk => by first | omega | exact hk.elim | (dsimp only at hk ⊢; omega)))
  exact wl_some mr1
theorem Q_MO_bothWorth_b26 (x1 : Int32) (x2 : Int32) (z : Int32 × Int32 × Mem) : wlO (F_MO_bothWorth_b26 x1 x2 z) (fun r => (match r with | .inl s => Frm (fun k j => k = 102 ∨ k = 103) z.2.2 s.2.2 | .inr r => Frm (fun k j => k = 102 ∨ k = 103) z.2.2 r.2.2)) := by
  unfold F_MO_bothWorth_b26
  refine wl_if (fun _ => ?_) (fun _ => wl_none)
  refine wl_if (fun _ => ?_) (fun _ => ?_)
  · exact wl_some Frm.rf
  · refine wl_if (fun _ => ?_) (fun _ => wl_none)
    refine wl_any (fun r2 => ?_)
    refine wl_any (fun r3 => ?_)
    refine wl_if (fun _ => ?_) (fun _ => wl_none)
    refine wl_any (fun r4 => ?_)
    exact wl_some ((((Frm.rf).sI (by first | omega | (dsimp only; omega)))).sI (by first | omega | (dsimp only; omega)))
theorem Q_MO_bothWorth_l26 (x1 : Int32) (x2 : Int32) (x3 : Int32) (x4 : Int32) (M : Mem) : wlO (F_MO_bothWorth_l26 x1 x2 x3 x4 M) (fun r => Frm (fun k j => (k = 94 ∧ (j = 15 ∨ j = 16)) ∨ k = 102 ∨ k = 103) M r) := by
  unfold F_MO_bothWorth_l26
  refine wl_bind (Ψ := fun r => Frm (fun k j => (k = 94 ∧ (j = 15 ∨ j = 16)) ∨ k = 102 ∨ k = 103) M r.2.2) (wl_iter (P := fun w9 => Frm (fun k j => (k = 94 ∧ (j = 15 ∨ j = 16)) ∨ k = 102 ∨ k = 103) M w9.2.2) (fun w9 hz => wl_mono (Q_MO_bothWorth_b26 x1 x2 w9) (fun x hx => ?_)) FUEL (x3, x4, M) (Frm.rf)) (fun r hr => ?_)
  · rcases x with x | x
    · exact hz.tr (Frm.mono hx (fun k j hk => by first | omega | exact hk.elim | (dsimp only at hk ⊢; omega)))
    · exact (hz).tr (Frm.mono hx (fun k j hk => by first | omega | exact hk.elim | (dsimp only at hk ⊢; omega)))
  refine wl_mono (Q_MO_bothWorth_j85 r.1 r.2.1 r.2.2) (fun ro ho => ?_)
  exact (hr).tr (Frm.mono ho (fun k j hk => by first | omega | exact hk.elim | (dsimp only at hk ⊢; omega)))
theorem Q_MO_bothWorth_b2 (x1 : Int32) (x2 : Int32) (z : Int32 × Mem) : wlO (F_MO_bothWorth_b2 x1 x2 z) (fun r => (match r with | .inl s => Frm (fun k j => k = 103) z.2 s.2 | .inr r => Frm (fun k j => k = 103) z.2 r)) := by
  unfold F_MO_bothWorth_b2
  refine wl_if (fun _ => ?_) (fun _ => ?_)
  · exact wl_some Frm.rf
  · refine wl_if (fun _ => ?_) (fun _ => wl_none)
    exact wl_some ((Frm.rf).sI (by first | omega | (dsimp only; omega)))
theorem Q_MO_bothWorth_l2 (x1 : Int32) (x2 : Int32) (x3 : Int32) (M : Mem) : wlO (F_MO_bothWorth_l2 x1 x2 x3 M) (fun r => Frm (fun k j => (k = 94 ∧ (j = 15 ∨ j = 16)) ∨ k = 102 ∨ k = 103) M r) := by
  unfold F_MO_bothWorth_l2
  refine wl_bind (Ψ := fun r => Frm (fun k j => (k = 94 ∧ (j = 15 ∨ j = 16)) ∨ k = 102 ∨ k = 103) M r) (wl_iter (P := fun w9 => Frm (fun k j => (k = 94 ∧ (j = 15 ∨ j = 16)) ∨ k = 102 ∨ k = 103) M w9.2) (fun w9 hz => wl_mono (Q_MO_bothWorth_b2 x1 x2 w9) (fun x hx => ?_)) FUEL (x3, M) (Frm.rf)) (fun r hr => ?_)
  · rcases x with x | x
    · exact hz.tr (Frm.mono hx (fun k j hk => by first | omega | exact hk.elim | (dsimp only at hk ⊢; omega)))
    · exact (hz).tr (Frm.mono hx (fun k j hk => by first | omega | exact hk.elim | (dsimp only at hk ⊢; omega)))
  refine wl_mono (Q_MO_bothWorth_l26 x1 x2 0 0 r) (fun ro ho => ?_)
  exact (hr).tr (Frm.mono ho (fun k j hk => by first | omega | exact hk.elim | (dsimp only at hk ⊢; omega)))
theorem Q_MO_bothWorth (x1 : Int32) (x2 : Int32) (M : Mem) : wlO (F_MO_bothWorth x1 x2 M) (fun r => Frm (fun k j => (k = 94 ∧ (j = 15 ∨ j = 16)) ∨ k = 102 ∨ k = 103) M r) := by
  unfold F_MO_bothWorth
  refine wl_mono (Q_MO_bothWorth_l2 x1 x2 0 M) (fun ro ho => ?_)
  exact (Frm.rf).tr (Frm.mono ho (fun k j hk => by first | omega | exact hk.elim | (dsimp only at hk ⊢; omega)))
theorem Q_MO_together_j101 (x6 : Int32) (x7 : Int32) (M : Mem) : wlO (F_MO_together_j101 x6 x7 M) (fun r => (match r with | .inl s => Frm (fun k j => False) M s.2.2.2.2 | .inr r => Frm (fun k j => False) M r.2.2.2)) := by
  unfold F_MO_together_j101
  exact wl_some Frm.rf
theorem Q_MO_together_b33 (x6 : Int32) (z : Int32 × Int64 × Int64 × Int32 × Mem) : wlO (F_MO_together_b33 x6 z) (fun r => (match r with | .inl s => Frm (fun k j => (k = 94 ∧ (j = 15 ∨ j = 16)) ∨ k = 102 ∨ k = 103 ∨ k = 104 ∨ k = 105) z.2.2.2.2 s.2.2.2.2 | .inr r => Frm (fun k j => (k = 94 ∧ (j = 15 ∨ j = 16)) ∨ k = 102 ∨ k = 103 ∨ k = 104 ∨ k = 105) z.2.2.2.2 r.2.2.2)) := by
  unfold F_MO_together_b33
  refine wl_if (fun _ => ?_) (fun _ => wl_none)
  refine wl_if (fun _ => ?_) (fun _ => ?_)
  · exact wl_some Frm.rf
  · refine wl_any (fun r2 => ?_)
    refine wl_if (fun _ => ?_) (fun _ => ?_)
    · exact wl_some Frm.rf
    · refine wl_bind (Q_MO_firstOf x6 z.2.2.2.1 z.2.2.2.2) (fun r3 hr3 => ?_)
      have mr3 : Frm (fun k j => (k = 94 ∧ (j = 15 ∨ j = 16)) ∨ k = 102 ∨ k = 103 ∨ k = 104 ∨ k = 105) z.2.2.2.2 r3.2 := (Frm.rf).tr (Frm.mono hr3 (fun k j hk => by first | omega | exact hk.elim | (dsimp only at hk ⊢; omega)))
      refine wl_if (fun _ => ?_) (fun _ => ?_)
      · refine wl_bind (Q_MO_bothWorth x6 z.2.2.2.1 r3.2) (fun r4 hr4 => ?_)
        have mr4 : Frm (fun k j => (k = 94 ∧ (j = 15 ∨ j = 16)) ∨ k = 102 ∨ k = 103 ∨ k = 104 ∨ k = 105) z.2.2.2.2 r4 := (mr3).tr (Frm.mono hr4 (fun k j hk => by first | omega | exact hk.elim | (dsimp only at hk ⊢; omega)))
        refine wl_if (fun _ => ?_) (fun _ => ?_)
        · refine wl_mono (Q_MO_together_j101 x6 z.2.2.2.1 r4) (fun ro ho => ?_)
          rcases ro with s1 | s1
          · exact (mr4).tr (Frm.mono ho (fun k j hk => by first | omega | exact hk.elim | (dsimp only at hk ⊢; omega)))
          · exact (mr4).tr (Frm.mono ho (fun k j hk => by first | omega | exact hk.elim | (dsimp only at hk ⊢; omega)))
        · refine wl_any (fun r5 => ?_)
          refine wl_if (fun _ => ?_) (fun _ => ?_)
          · refine wl_mono (Q_MO_together_j101 x6 z.2.2.2.1 r4) (fun ro ho => ?_)
            rcases ro with s2 | s2
            · exact (mr4).tr (Frm.mono ho (fun k j hk => by first | omega | exact hk.elim | (dsimp only at hk ⊢; omega)))
            · exact (mr4).tr (Frm.mono ho (fun k j hk => by first | omega | exact hk.elim | (dsimp only at hk ⊢; omega)))
          · exact wl_some mr4
      · exact wl_some mr3
theorem Q_MO_together_l33 (x1 : Int32) (x2 : Int64) (x4 : Int64) (x6 : Int32) (x7 : Int32) (M : Mem) : wlO (F_MO_together_l33 x1 x2 x4 x6 x7 M) (fun r => (match r with | .inl s => Frm (fun k j => (k = 94 ∧ (j = 15 ∨ j = 16)) ∨ k = 102 ∨ k = 103 ∨ k = 104 ∨ k = 105) M s.2.2.2.2 | .inr r => Frm (fun k j => (k = 94 ∧ (j = 15 ∨ j = 16)) ∨ k = 102 ∨ k = 103 ∨ k = 104 ∨ k = 105) M r.2)) := by
  unfold F_MO_together_l33
  refine wl_bind (Ψ := fun r => Frm (fun k j => (k = 94 ∧ (j = 15 ∨ j = 16)) ∨ k = 102 ∨ k = 103 ∨ k = 104 ∨ k = 105) M r.2.2.2) (wl_iter (P := fun w9 => Frm (fun k j => (k = 94 ∧ (j = 15 ∨ j = 16)) ∨ k = 102 ∨ k = 103 ∨ k = 104 ∨ k = 105) M w9.2.2.2.2) (fun w9 hz => wl_mono (Q_MO_together_b33 x6 w9) (fun x hx => ?_)) FUEL (x1, x2, x4, x7, M) (Frm.rf)) (fun r hr => ?_)
  · rcases x with x | x
    · exact hz.tr (Frm.mono hx (fun k j hk => by first | omega | exact hk.elim | (dsimp only at hk ⊢; omega)))
    · exact (hz).tr (Frm.mono hx (fun k j hk => by first | omega | exact hk.elim | (dsimp only at hk ⊢; omega)))
  exact wl_some hr
theorem Q_MO_together_b19 (z : Int32 × Int64 × Int64 × Int32 × Mem) : wlO (F_MO_together_b19 z) (fun r => (match r with | .inl s => Frm (fun k j => (k = 94 ∧ (j = 15 ∨ j = 16)) ∨ k = 102 ∨ k = 103 ∨ k = 104 ∨ k = 105) z.2.2.2.2 s.2.2.2.2 | .inr r => Frm (fun k j => (k = 94 ∧ (j = 15 ∨ j = 16)) ∨ k = 102 ∨ k = 103 ∨ k = 104 ∨ k = 105) z.2.2.2.2 r.2)) := by
  unfold F_MO_together_b19
  refine wl_if (fun _ => ?_) (fun _ => wl_none)
  refine wl_if (fun _ => ?_) (fun _ => ?_)
  · exact wl_some Frm.rf
  · refine wl_mono (Q_MO_together_l33 z.1 z.2.1 z.2.2.1 z.2.2.2.1 0 z.2.2.2.2) (fun ro ho => ?_)
    rcases ro with s1 | s1
    · exact (Frm.rf).tr (Frm.mono ho (fun k j hk => by first | omega | exact hk.elim | (dsimp only at hk ⊢; omega)))
    · exact (Frm.rf).tr (Frm.mono ho (fun k j hk => by first | omega | exact hk.elim | (dsimp only at hk ⊢; omega)))
theorem Q_MO_together_l19 (x1 : Int32) (x2 : Int64) (x4 : Int64) (x6 : Int32) (M : Mem) : wlO (F_MO_together_l19 x1 x2 x4 x6 M) (fun r => Frm (fun k j => (k = 94 ∧ (j = 15 ∨ j = 16)) ∨ k = 102 ∨ k = 103 ∨ k = 104 ∨ k = 105) M r.2) := by
  unfold F_MO_together_l19
  refine wl_bind (Ψ := fun r => Frm (fun k j => (k = 94 ∧ (j = 15 ∨ j = 16)) ∨ k = 102 ∨ k = 103 ∨ k = 104 ∨ k = 105) M r.2) (wl_iter (P := fun w9 => Frm (fun k j => (k = 94 ∧ (j = 15 ∨ j = 16)) ∨ k = 102 ∨ k = 103 ∨ k = 104 ∨ k = 105) M w9.2.2.2.2) (fun w9 hz => wl_mono (Q_MO_together_b19  w9) (fun x hx => ?_)) FUEL (x1, x2, x4, x6, M) (Frm.rf)) (fun r hr => ?_)
  · rcases x with x | x
    · exact hz.tr (Frm.mono hx (fun k j hk => by first | omega | exact hk.elim | (dsimp only at hk ⊢; omega)))
    · exact (hz).tr (Frm.mono hx (fun k j hk => by first | omega | exact hk.elim | (dsimp only at hk ⊢; omega)))
  exact wl_some hr
theorem Q_MO_together (M : Mem) : wlO (F_MO_together M) (fun r => Frm (fun k j => (k = 94 ∧ (j = 0 ∨ j = 15 ∨ j = 16 ∨ j = 19 ∨ j = 20)) ∨ k = 102 ∨ k = 103 ∨ k = 104 ∨ k = 105) M r.2) := by
  unfold F_MO_together
  refine wl_bind (Q_MO_plainTomorrow (mSI M 94 0 0)) (fun r1 hr1 => ?_)
  have mr1 : Frm (fun k j => (k = 94 ∧ (j = 0 ∨ j = 15 ∨ j = 16 ∨ j = 19 ∨ j = 20)) ∨ k = 102 ∨ k = 103 ∨ k = 104 ∨ k = 105) M r1 := (((Frm.rf).sI (by first | omega | (dsimp only; omega)))).tr (Frm.mono hr1 (fun k j hk => by first | omega | exact hk.elim | (dsimp only at hk ⊢; omega)))
  refine wl_mono (Q_MO_together_l19 ((-1)) 0 1 0 r1) (fun ro ho => ?_)
  exact (mr1).tr (Frm.mono ho (fun k j hk => by first | omega | exact hk.elim | (dsimp only at hk ⊢; omega)))
theorem Q_MO_mistakes_j32 (x1 : Int32) (x2 : Int32) (s1 : Bool) (M : Mem) : wlO (F_MO_mistakes_j32 x1 x2 s1 M) (fun r => Frm (fun k j => (k = 94 ∧ j = 0) ∨ k = 95) M r) := by
  unfold F_MO_mistakes_j32
  refine wl_bind (Q_MO_throwsIf ((b2i s1)) 1 M) (fun r2 hr2 => ?_)
  have mr2 : Frm (fun k j => (k = 94 ∧ j = 0) ∨ k = 95) M r2.2 := (Frm.rf).tr (Frm.mono hr2 (fun k j hk => by first | omega | exact hk.elim | (dsimp only at hk ⊢; omega)))
  refine wl_if (fun _ => ?_) (fun _ => ?_)
  · exact wl_some mr2
  · refine wl_if (fun _ => ?_) (fun _ => wl_none)
    refine wl_if (fun _ => ?_) (fun _ => wl_none)
    exact wl_some ((((mr2).sI (by first | omega | (dsimp only; omega)))).sI (by first | omega | (dsimp only; omega)))
theorem Q_MO_mistakes (x1 : Int32) (x2 : Int32) (M : Mem) : wlO (F_MO_mistakes x1 x2 M) (fun r => Frm (fun k j => (k = 94 ∧ j = 0) ∨ k = 95) M r) := by
  unfold F_MO_mistakes
  refine wl_any (fun r1 => ?_)
  refine wl_if (fun _ => ?_) (fun _ => ?_)
  · refine wl_any (fun r3 => ?_)
    refine wl_if (fun _ => ?_) (fun _ => ?_)
    · refine wl_mono (Q_MO_mistakes_j32 x1 x2 false (mSI M 94 0 0)) (fun ro ho => ?_)
      exact (((Frm.rf).sI (by first | omega | (dsimp only; omega)))).tr (Frm.mono ho (fun k j hk => by first | omega | exact hk.elim | (dsimp only at hk ⊢; omega)))
    · refine wl_mono (Q_MO_mistakes_j32 x1 x2 true (mSI M 94 0 0)) (fun ro ho => ?_)
      exact (((Frm.rf).sI (by first | omega | (dsimp only; omega)))).tr (Frm.mono ho (fun k j hk => by first | omega | exact hk.elim | (dsimp only at hk ⊢; omega)))
  · refine wl_mono (Q_MO_mistakes_j32 x1 x2 true (mSI M 94 0 0)) (fun ro ho => ?_)
    exact (((Frm.rf).sI (by first | omega | (dsimp only; omega)))).tr (Frm.mono ho (fun k j hk => by first | omega | exact hk.elim | (dsimp only at hk ⊢; omega)))
theorem Q_MO_doubts_j220 (x1 : Int32) (x2 : Int32) (x3 : Int64) (x5 : Int64) (x7 : Int32) (x8 : Int32) (x9 : Int32) (x10 : Int32) (x11 : Int32) (x12 : Int32) (s1 : Int32) (s2 : Int64) (s3 : Int64) (s4 : Int64) (M : Mem) : wlO (F_MO_doubts_j220 x1 x2 x3 x5 x7 x8 x9 x10 x11 x12 s1 s2 s3 s4 M) (fun r => (match r with | .inl s => Frm (fun k j => k = 110) M s.2 | .inr r => Frm (fun k j => k = 110) M r)) := by
  unfold F_MO_doubts_j220
  refine wl_if (fun _ => ?_) (fun _ => ?_)
  · refine wl_if (fun _ => ?_) (fun _ => wl_none)
    exact wl_some ((Frm.rf).sL (by first | omega | (dsimp only; omega)))
  · refine wl_if (fun _ => ?_) (fun _ => wl_none)
    exact wl_some ((Frm.rf).sL (by first | omega | (dsimp only; omega)))
theorem Q_MO_doubts_j179 (x1 : Int32) (x2 : Int32) (x3 : Int64) (x5 : Int64) (x7 : Int32) (x8 : Int32) (x9 : Int32) (x10 : Int32) (x11 : Int32) (x12 : Int32) (s0 : Int32) (s2 : Int32) (s3 : Int32) (s4 : Int32) (M : Mem) : wlO (F_MO_doubts_j179 x1 x2 x3 x5 x7 x8 x9 x10 x11 x12 s0 s2 s3 s4 M) (fun r => (match r with | .inl s => Frm (fun k j => k = 110) M s.2 | .inr r => Frm (fun k j => k = 110) M r)) := by
  unfold F_MO_doubts_j179
  refine wl_any (fun r6 => ?_)
  refine wl_if (fun _ => ?_) (fun _ => wl_none)
  refine wl_if (fun _ => ?_) (fun _ => ?_)
  · refine wl_mono (Q_MO_doubts_j220 x1 x2 x3 x5 x7 x8 x9 x10 x11 x12 ((4 * x9) + (s0 + r6)) (M.2 110 ((4 * x9) + (s0 + r6)).toNatClampNeg) ((M.1 94 19).toInt64) x5 M) (fun ro ho => ?_)
    rcases ro with s1 | s1
    · exact (Frm.rf).tr (Frm.mono ho (fun k j hk => by first | omega | exact hk.elim | (dsimp only at hk ⊢; omega)))
    · exact (Frm.rf).tr (Frm.mono ho (fun k j hk => by first | omega | exact hk.elim | (dsimp only at hk ⊢; omega)))
  · refine wl_mono (Q_MO_doubts_j220 x1 x2 x3 x5 x7 x8 x9 x10 x11 x12 ((4 * x9) + (s0 + r6)) (M.2 110 ((4 * x9) + (s0 + r6)).toNatClampNeg) ((M.1 94 19).toInt64) (x3 - x5) M) (fun ro ho => ?_)
    rcases ro with s2 | s2
    · exact (Frm.rf).tr (Frm.mono ho (fun k j hk => by first | omega | exact hk.elim | (dsimp only at hk ⊢; omega)))
    · exact (Frm.rf).tr (Frm.mono ho (fun k j hk => by first | omega | exact hk.elim | (dsimp only at hk ⊢; omega)))
theorem Q_MO_doubts_j151 (x1 : Int32) (x2 : Int32) (x3 : Int64) (x5 : Int64) (x7 : Int32) (x8 : Int32) (x9 : Int32) (x10 : Int32) (x11 : Int32) (x12 : Int32) (s0 : Int32) (s2 : Int32) (s3 : Int32) (s4 : Int32) (M : Mem) : wlO (F_MO_doubts_j151 x1 x2 x3 x5 x7 x8 x9 x10 x11 x12 s0 s2 s3 s4 M) (fun r => (match r with | .inl s => Frm (fun k j => k = 110) M s.2 | .inr r => Frm (fun k j => k = 110) M r)) := by
  unfold F_MO_doubts_j151
  refine wl_any (fun r5 => ?_)
  refine wl_if (fun _ => ?_) (fun _ => wl_none)
  refine wl_if (fun _ => ?_) (fun _ => ?_)
  · refine wl_mono (Q_MO_doubts_j179 x1 x2 x3 x5 x7 x8 x9 x10 x11 x12 (s0 * r5) x2 (irm x9 x7) (1 - x10) M) (fun ro ho => ?_)
    rcases ro with s1 | s1
    · exact (Frm.rf).tr (Frm.mono ho (fun k j hk => by first | omega | exact hk.elim | (dsimp only at hk ⊢; omega)))
    · exact (Frm.rf).tr (Frm.mono ho (fun k j hk => by first | omega | exact hk.elim | (dsimp only at hk ⊢; omega)))
  · refine wl_mono (Q_MO_doubts_j179 x1 x2 x3 x5 x7 x8 x9 x10 x11 x12 (s0 * r5) x2 (irm x9 x7) x10 M) (fun ro ho => ?_)
    rcases ro with s2 | s2
    · exact (Frm.rf).tr (Frm.mono ho (fun k j hk => by first | omega | exact hk.elim | (dsimp only at hk ⊢; omega)))
    · exact (Frm.rf).tr (Frm.mono ho (fun k j hk => by first | omega | exact hk.elim | (dsimp only at hk ⊢; omega)))
theorem Q_MO_doubts_b119 (x1 : Int32) (x2 : Int32) (x3 : Int64) (x5 : Int64) (x7 : Int32) (x8 : Int32) (x9 : Int32) (x10 : Int32) (x11 : Int32) (z : Int32 × Mem) : wlO (F_MO_doubts_b119 x1 x2 x3 x5 x7 x8 x9 x10 x11 z) (fun r => (match r with | .inl s => Frm (fun k j => k = 110) z.2 s.2 | .inr r => Frm (fun k j => k = 110) z.2 r)) := by
  unfold F_MO_doubts_b119
  refine wl_if (fun _ => ?_) (fun _ => ?_)
  · exact wl_some Frm.rf
  · refine wl_if (fun _ => ?_) (fun _ => wl_none)
    refine wl_if (fun _ => ?_) (fun _ => ?_)
    · refine wl_mono (Q_MO_doubts_j151 x1 x2 x3 x5 x7 x8 x9 x10 x11 z.1 x7 x1 (x9 / x7) (1 - x11) z.2) (fun ro ho => ?_)
      rcases ro with s1 | s1
      · exact (Frm.rf).tr (Frm.mono ho (fun k j hk => by first | omega | exact hk.elim | (dsimp only at hk ⊢; omega)))
      · exact (Frm.rf).tr (Frm.mono ho (fun k j hk => by first | omega | exact hk.elim | (dsimp only at hk ⊢; omega)))
    · refine wl_mono (Q_MO_doubts_j151 x1 x2 x3 x5 x7 x8 x9 x10 x11 z.1 x7 x1 (x9 / x7) x11 z.2) (fun ro ho => ?_)
      rcases ro with s2 | s2
      · exact (Frm.rf).tr (Frm.mono ho (fun k j hk => by first | omega | exact hk.elim | (dsimp only at hk ⊢; omega)))
      · exact (Frm.rf).tr (Frm.mono ho (fun k j hk => by first | omega | exact hk.elim | (dsimp only at hk ⊢; omega)))
theorem Q_MO_doubts_l119 (x1 : Int32) (x2 : Int32) (x3 : Int64) (x5 : Int64) (x7 : Int32) (x8 : Int32) (x9 : Int32) (x10 : Int32) (x11 : Int32) (x12 : Int32) (M : Mem) : wlO (F_MO_doubts_l119 x1 x2 x3 x5 x7 x8 x9 x10 x11 x12 M) (fun r => (match r with | .inl s => Frm (fun k j => k = 110) M s.2 | .inr r => Frm (fun k j => k = 110) M r)) := by
  unfold F_MO_doubts_l119
  refine wl_bind (Ψ := fun r => Frm (fun k j => k = 110) M r) (wl_iter (P := fun w9 => Frm (fun k j => k = 110) M w9.2) (fun w9 hz => wl_mono (Q_MO_doubts_b119 x1 x2 x3 x5 x7 x8 x9 x10 x11 w9) (fun x hx => ?_)) FUEL (x12, M) (Frm.rf)) (fun r hr => ?_)
  · rcases x with x | x
    · exact hz.tr (Frm.mono hx (fun k j hk => by first | omega | exact hk.elim | (dsimp only at hk ⊢; omega)))
    · exact (hz).tr (Frm.mono hx (fun k j hk => by first | omega | exact hk.elim | (dsimp only at hk ⊢; omega)))
  exact wl_some hr
theorem Q_MO_doubts_j92 (x1 : Int32) (x2 : Int32) (x3 : Int64) (x5 : Int64) (x7 : Int32) (x8 : Int32) (x9 : Int32) (M : Mem) : wlO (F_MO_doubts_j92 x1 x2 x3 x5 x7 x8 x9 M) (fun r => (match r with | .inl s => Frm (fun k j => k = 110) M s.2 | .inr r => Frm (fun k j => k = 110) M r)) := by
  unfold F_MO_doubts_j92
  refine wl_if (fun _ => ?_) (fun _ => wl_none)
  refine wl_any (fun r3 => ?_)
  refine wl_if (fun _ => ?_) (fun _ => wl_none)
  refine wl_any (fun r4 => ?_)
  refine wl_mono (Q_MO_doubts_l119 x1 x2 x3 x5 x7 x8 x9 r3 r4 0 M) (fun ro ho => ?_)
  rcases ro with s1 | s1
  · exact (Frm.rf).tr (Frm.mono ho (fun k j hk => by first | omega | exact hk.elim | (dsimp only at hk ⊢; omega)))
  · exact (Frm.rf).tr (Frm.mono ho (fun k j hk => by first | omega | exact hk.elim | (dsimp only at hk ⊢; omega)))
theorem Q_MO_doubts_b47 (x1 : Int32) (x2 : Int32) (x3 : Int64) (x5 : Int64) (x7 : Int32) (x8 : Int32) (x9 : Int32) (z : Int32 × Mem) : wlO (F_MO_doubts_b47 x1 x2 x3 x5 x7 x8 x9 z) (fun r => (match r with | .inl s => Frm (fun k j => k = 110) z.2 s.2 | .inr r => Frm (fun k j => k = 110) z.2 r)) := by
  unfold F_MO_doubts_b47
  refine wl_if (fun _ => ?_) (fun _ => ?_)
  · exact wl_some Frm.rf
  · refine wl_if (fun _ => ?_) (fun _ => ?_)
    · refine wl_if (fun _ => ?_) (fun _ => wl_none)
      exact wl_some ((Frm.rf).sL (by first | omega | (dsimp only; omega)))
    · refine wl_if (fun _ => ?_) (fun _ => wl_none)
      exact wl_some ((Frm.rf).sL (by first | omega | (dsimp only; omega)))
theorem Q_MO_doubts_l47 (x1 : Int32) (x2 : Int32) (x3 : Int64) (x5 : Int64) (x7 : Int32) (x8 : Int32) (x9 : Int32) (x10 : Int32) (M : Mem) : wlO (F_MO_doubts_l47 x1 x2 x3 x5 x7 x8 x9 x10 M) (fun r => (match r with | .inl s => Frm (fun k j => k = 110) M s.2 | .inr r => Frm (fun k j => k = 110) M r)) := by
  unfold F_MO_doubts_l47
  refine wl_bind (Ψ := fun r => Frm (fun k j => k = 110) M r) (wl_iter (P := fun w9 => Frm (fun k j => k = 110) M w9.2) (fun w9 hz => wl_mono (Q_MO_doubts_b47 x1 x2 x3 x5 x7 x8 x9 w9) (fun x hx => ?_)) FUEL (x10, M) (Frm.rf)) (fun r hr => ?_)
  · rcases x with x | x
    · exact hz.tr (Frm.mono hx (fun k j hk => by first | omega | exact hk.elim | (dsimp only at hk ⊢; omega)))
    · exact (hz).tr (Frm.mono hx (fun k j hk => by first | omega | exact hk.elim | (dsimp only at hk ⊢; omega)))
  refine wl_mono (Q_MO_doubts_j92 x1 x2 x3 x5 x7 x8 x9 r) (fun ro ho => ?_)
  rcases ro with s1 | s1
  · exact (hr).tr (Frm.mono ho (fun k j hk => by first | omega | exact hk.elim | (dsimp only at hk ⊢; omega)))
  · exact (hr).tr (Frm.mono ho (fun k j hk => by first | omega | exact hk.elim | (dsimp only at hk ⊢; omega)))
theorem Q_MO_doubts_b37 (x1 : Int32) (x2 : Int32) (x3 : Int64) (x5 : Int64) (x7 : Int32) (x8 : Int32) (z : Int32 × Mem) : wlO (F_MO_doubts_b37 x1 x2 x3 x5 x7 x8 z) (fun r => (match r with | .inl s => Frm (fun k j => k = 110) z.2 s.2 | .inr r => Frm (fun k j => k = 110) z.2 r)) := by
  unfold F_MO_doubts_b37
  refine wl_if (fun _ => ?_) (fun _ => ?_)
  · exact wl_some Frm.rf
  · refine wl_mono (Q_MO_doubts_l47 x1 x2 x3 x5 x7 x8 z.1 0 z.2) (fun ro ho => ?_)
    rcases ro with s1 | s1
    · exact (Frm.rf).tr (Frm.mono ho (fun k j hk => by first | omega | exact hk.elim | (dsimp only at hk ⊢; omega)))
    · exact (Frm.rf).tr (Frm.mono ho (fun k j hk => by first | omega | exact hk.elim | (dsimp only at hk ⊢; omega)))
theorem Q_MO_doubts_l37 (x1 : Int32) (x2 : Int32) (x3 : Int64) (x5 : Int64) (x7 : Int32) (x8 : Int32) (x9 : Int32) (M : Mem) : wlO (F_MO_doubts_l37 x1 x2 x3 x5 x7 x8 x9 M) (fun r => Frm (fun k j => k = 110) M r) := by
  unfold F_MO_doubts_l37
  refine wl_bind (Ψ := fun r => Frm (fun k j => k = 110) M r) (wl_iter (P := fun w9 => Frm (fun k j => k = 110) M w9.2) (fun w9 hz => wl_mono (Q_MO_doubts_b37 x1 x2 x3 x5 x7 x8 w9) (fun x hx => ?_)) FUEL (x9, M) (Frm.rf)) (fun r hr => ?_)
  · rcases x with x | x
    · exact hz.tr (Frm.mono hx (fun k j hk => by first | omega | exact hk.elim | (dsimp only at hk ⊢; omega)))
    · exact (hz).tr (Frm.mono hx (fun k j hk => by first | omega | exact hk.elim | (dsimp only at hk ⊢; omega)))
  exact wl_some hr
theorem Q_MO_doubts (x1 : Int32) (x2 : Int32) (M : Mem) : wlO (F_MO_doubts x1 x2 M) (fun r => Frm (fun k j => k = 110) M r) := by
  unfold F_MO_doubts
  refine wl_if (fun _ => ?_) (fun _ => wl_none)
  refine wl_if (fun _ => ?_) (fun _ => wl_none)
  refine wl_any (fun r1 => ?_)
  refine wl_any (fun r2 => ?_)
  refine wl_mono (Q_MO_doubts_l37 x1 x2 ((M.1 95 ((4 : Int32)).toNatClampNeg).toInt64) ((M.1 95 ((3 : Int32)).toNatClampNeg).toInt64) r1 (r2 * r1) 0 M) (fun ro ho => ?_)
  exact (Frm.rf).tr (Frm.mono ho (fun k j hk => by first | omega | exact hk.elim | (dsimp only at hk ⊢; omega)))
theorem Q_MO_doubt_j284 (x5 : Int32) (M : Mem) : wlO (F_MO_doubt_j284 x5 M) (fun r => Frm (fun k j => False) M r.2) := by
  unfold F_MO_doubt_j284
  refine wl_if (fun _ => ?_) (fun _ => ?_)
  · exact wl_some Frm.rf
  · exact wl_some Frm.rf
theorem Q_MO_doubt_j205 (x3 : Int32) (x4 : Int32) (x5 : Int32) (x7 : Int32) (x8 : Int64) (M : Mem) : wlO (F_MO_doubt_j205 x3 x4 x5 x7 x8 M) (fun r => Frm (fun k j => (k = 94 ∧ (j = 15 ∨ j = 16)) ∨ k = 111) M r.2) := by
  unfold F_MO_doubt_j205
  refine wl_bind (Q_MO_number x7 M) (fun r11 hr11 => ?_)
  have mr11 : Frm (fun k j => (k = 94 ∧ (j = 15 ∨ j = 16)) ∨ k = 111) M r11.2 := (Frm.rf).tr (Frm.mono hr11 (fun k j hk => by first | omega | exact hk.elim | (dsimp only at hk ⊢; omega)))
  refine wl_bind (Q_MO_tells r11.1 x8 r11.2) (fun r12 hr12 => ?_)
  have mr12 : Frm (fun k j => (k = 94 ∧ (j = 15 ∨ j = 16)) ∨ k = 111) M r12 := (mr11).tr (Frm.mono hr12 (fun k j hk => by first | omega | exact hk.elim | (dsimp only at hk ⊢; omega)))
  refine wl_if (fun _ => ?_) (fun _ => ?_)
  · refine wl_mono (Q_MO_doubt_j284 x5 r12) (fun ro ho => ?_)
    exact (mr12).tr (Frm.mono ho (fun k j hk => by first | omega | exact hk.elim | (dsimp only at hk ⊢; omega)))
  · refine wl_if (fun _ => ?_) (fun _ => wl_none)
    refine wl_any (fun r13 => ?_)
    refine wl_if (fun _ => ?_) (fun _ => wl_none)
    refine wl_if (fun _ => ?_) (fun _ => wl_none)
    refine wl_if (fun _ => ?_) (fun _ => wl_none)
    refine wl_if (fun _ => ?_) (fun _ => wl_none)
    refine wl_if (fun _ => ?_) (fun _ => wl_none)
    refine wl_if (fun _ => ?_) (fun _ => wl_none)
    refine wl_bind (Q_MO_tells (((r12.2 104 x3.toNatClampNeg) * ((r12.2 94 16) / r13)) - ((r12.2 94 15) * ((r12.2 105 x3.toNatClampNeg) / r13))) (((r12.2 94 16) / r13) * (r12.2 105 x3.toNatClampNeg)) r12) (fun r14 hr14 => ?_)
    have mr14 : Frm (fun k j => (k = 94 ∧ (j = 15 ∨ j = 16)) ∨ k = 111) M r14 := (mr12).tr (Frm.mono hr14 (fun k j hk => by first | omega | exact hk.elim | (dsimp only at hk ⊢; omega)))
    refine wl_mono (Q_MO_doubt_j284 x5 r14) (fun ro ho => ?_)
    exact (mr14).tr (Frm.mono ho (fun k j hk => by first | omega | exact hk.elim | (dsimp only at hk ⊢; omega)))
theorem Q_MO_doubt_b135 (x1 : Int32) (x2 : Int32) (x3 : Int32) (x4 : Int32) (x5 : Int32) (x6 : Int32) (x7 : Int32) (x8 : Int64) (z : Int32 × Mem) : wlO (F_MO_doubt_b135 x1 x2 x3 x4 x5 x6 x7 x8 z) (fun r => (match r with | .inl s => Frm (fun k j => k = 110) z.2 s.2 | .inr r => Frm (fun k j => k = 110) z.2 r)) := by
  unfold F_MO_doubt_b135
  refine wl_if (fun _ => ?_) (fun _ => ?_)
  · exact wl_some Frm.rf
  · refine wl_if (fun _ => ?_) (fun _ => wl_none)
    refine wl_any (fun r15 => ?_)
    refine wl_if (fun _ => ?_) (fun _ => wl_none)
    refine wl_any (fun r16 => ?_)
    refine wl_any (fun r17 => ?_)
    refine wl_if (fun _ => ?_) (fun _ => wl_none)
    refine wl_if (fun _ => ?_) (fun _ => wl_none)
    refine wl_if (fun _ => ?_) (fun _ => wl_none)
    exact wl_some ((Frm.rf).sL (by first | omega | (dsimp only; omega)))
theorem Q_MO_doubt_l135 (x1 : Int32) (x2 : Int32) (x3 : Int32) (x4 : Int32) (x5 : Int32) (x6 : Int32) (x7 : Int32) (x8 : Int64) (x10 : Int32) (M : Mem) : wlO (F_MO_doubt_l135 x1 x2 x3 x4 x5 x6 x7 x8 x10 M) (fun r => Frm (fun k j => (k = 94 ∧ (j = 15 ∨ j = 16)) ∨ k = 110 ∨ k = 111) M r.2) := by
  unfold F_MO_doubt_l135
  refine wl_bind (Ψ := fun r => Frm (fun k j => (k = 94 ∧ (j = 15 ∨ j = 16)) ∨ k = 110 ∨ k = 111) M r) (wl_iter (P := fun w9 => Frm (fun k j => (k = 94 ∧ (j = 15 ∨ j = 16)) ∨ k = 110 ∨ k = 111) M w9.2) (fun w9 hz => wl_mono (Q_MO_doubt_b135 x1 x2 x3 x4 x5 x6 x7 x8 w9) (fun x hx => ?_)) FUEL (x10, M) (Frm.rf)) (fun r hr => ?_)
  · rcases x with x | x
    · exact hz.tr (Frm.mono hx (fun k j hk => by first | omega | exact hk.elim | (dsimp only at hk ⊢; omega)))
    · exact (hz).tr (Frm.mono hx (fun k j hk => by first | omega | exact hk.elim | (dsimp only at hk ⊢; omega)))
  refine wl_mono (Q_MO_doubt_j205 x3 x4 x5 x7 x8 r) (fun ro ho => ?_)
  exact (hr).tr (Frm.mono ho (fun k j hk => by first | omega | exact hk.elim | (dsimp only at hk ⊢; omega)))
theorem Q_MO_doubt_j82 (x1 : Int32) (x2 : Int32) (x3 : Int32) (x4 : Int32) (x5 : Int32) (s1 : Bool) (M : Mem) : wlO (F_MO_doubt_j82 x1 x2 x3 x4 x5 s1 M) (fun r => Frm (fun k j => (k = 94 ∧ (j = 0 ∨ j = 15 ∨ j = 16 ∨ j = 19 ∨ j = 20)) ∨ k = 102 ∨ k = 103 ∨ k = 104 ∨ k = 105 ∨ k = 110 ∨ k = 111) M r.2) := by
  unfold F_MO_doubt_j82
  refine wl_bind (Q_MO_throwsIf ((b2i s1)) 2 M) (fun r4 hr4 => ?_)
  have mr4 : Frm (fun k j => (k = 94 ∧ (j = 0 ∨ j = 15 ∨ j = 16 ∨ j = 19 ∨ j = 20)) ∨ k = 102 ∨ k = 103 ∨ k = 104 ∨ k = 105 ∨ k = 110 ∨ k = 111) M r4.2 := (Frm.rf).tr (Frm.mono hr4 (fun k j hk => by first | omega | exact hk.elim | (dsimp only at hk ⊢; omega)))
  refine wl_if (fun _ => ?_) (fun _ => ?_)
  · exact wl_some mr4
  · refine wl_bind (Q_MO_plainTomorrow r4.2) (fun r5 hr5 => ?_)
    have mr5 : Frm (fun k j => (k = 94 ∧ (j = 0 ∨ j = 15 ∨ j = 16 ∨ j = 19 ∨ j = 20)) ∨ k = 102 ∨ k = 103 ∨ k = 104 ∨ k = 105 ∨ k = 110 ∨ k = 111) M r5 := (mr4).tr (Frm.mono hr5 (fun k j hk => by first | omega | exact hk.elim | (dsimp only at hk ⊢; omega)))
    refine wl_bind (Q_MO_worths x1 x2 r5) (fun r6 hr6 => ?_)
    have mr6 : Frm (fun k j => (k = 94 ∧ (j = 0 ∨ j = 15 ∨ j = 16 ∨ j = 19 ∨ j = 20)) ∨ k = 102 ∨ k = 103 ∨ k = 104 ∨ k = 105 ∨ k = 110 ∨ k = 111) M r6 := (mr5).tr (Frm.mono hr6 (fun k j hk => by first | omega | exact hk.elim | (dsimp only at hk ⊢; omega)))
    refine wl_any (fun r7 => ?_)
    refine wl_any (fun r8 => ?_)
    refine wl_bind (Q_MO_doubts x1 x2 r6) (fun r9 hr9 => ?_)
    have mr9 : Frm (fun k j => (k = 94 ∧ (j = 0 ∨ j = 15 ∨ j = 16 ∨ j = 19 ∨ j = 20)) ∨ k = 102 ∨ k = 103 ∨ k = 104 ∨ k = 105 ∨ k = 110 ∨ k = 111) M r9 := (mr6).tr (Frm.mono hr9 (fun k j hk => by first | omega | exact hk.elim | (dsimp only at hk ⊢; omega)))
    refine wl_bind (Q_MO_number (r8 * r7) r9) (fun r10 hr10 => ?_)
    have mr10 : Frm (fun k j => (k = 94 ∧ (j = 0 ∨ j = 15 ∨ j = 16 ∨ j = 19 ∨ j = 20)) ∨ k = 102 ∨ k = 103 ∨ k = 104 ∨ k = 105 ∨ k = 110 ∨ k = 111) M r10.2 := (mr9).tr (Frm.mono hr10 (fun k j hk => by first | omega | exact hk.elim | (dsimp only at hk ⊢; omega)))
    refine wl_mono (Q_MO_doubt_l135 x1 x2 x3 x4 x5 r7 (r8 * r7) r10.1 0 r10.2) (fun ro ho => ?_)
    exact (mr10).tr (Frm.mono ho (fun k j hk => by first | omega | exact hk.elim | (dsimp only at hk ⊢; omega)))
theorem Q_MO_doubt_j34 (x1 : Int32) (x2 : Int32) (x3 : Int32) (x4 : Int32) (x5 : Int32) (s1 : Bool) (M : Mem) : wlO (F_MO_doubt_j34 x1 x2 x3 x4 x5 s1 M) (fun r => Frm (fun k j => (k = 94 ∧ (j = 0 ∨ j = 15 ∨ j = 16 ∨ j = 19 ∨ j = 20)) ∨ k = 102 ∨ k = 103 ∨ k = 104 ∨ k = 105 ∨ k = 110 ∨ k = 111) M r.2) := by
  unfold F_MO_doubt_j34
  refine wl_bind (Q_MO_throwsIf ((b2i s1)) 1 M) (fun r2 hr2 => ?_)
  have mr2 : Frm (fun k j => (k = 94 ∧ (j = 0 ∨ j = 15 ∨ j = 16 ∨ j = 19 ∨ j = 20)) ∨ k = 102 ∨ k = 103 ∨ k = 104 ∨ k = 105 ∨ k = 110 ∨ k = 111) M r2.2 := (Frm.rf).tr (Frm.mono hr2 (fun k j hk => by first | omega | exact hk.elim | (dsimp only at hk ⊢; omega)))
  refine wl_if (fun _ => ?_) (fun _ => ?_)
  · exact wl_some mr2
  · refine wl_any (fun r3 => ?_)
    refine wl_if (fun _ => ?_) (fun _ => ?_)
    · refine wl_mono (Q_MO_doubt_j82 x1 x2 x3 x4 x5 true r2.2) (fun ro ho => ?_)
      exact (mr2).tr (Frm.mono ho (fun k j hk => by first | omega | exact hk.elim | (dsimp only at hk ⊢; omega)))
    · refine wl_any (fun r18 => ?_)
      refine wl_if (fun _ => ?_) (fun _ => ?_)
      · refine wl_mono (Q_MO_doubt_j82 x1 x2 x3 x4 x5 true r2.2) (fun ro ho => ?_)
        exact (mr2).tr (Frm.mono ho (fun k j hk => by first | omega | exact hk.elim | (dsimp only at hk ⊢; omega)))
      · refine wl_any (fun r19 => ?_)
        refine wl_if (fun _ => ?_) (fun _ => ?_)
        · refine wl_mono (Q_MO_doubt_j82 x1 x2 x3 x4 x5 true r2.2) (fun ro ho => ?_)
          exact (mr2).tr (Frm.mono ho (fun k j hk => by first | omega | exact hk.elim | (dsimp only at hk ⊢; omega)))
        · refine wl_any (fun r20 => ?_)
          refine wl_if (fun _ => ?_) (fun _ => ?_)
          · refine wl_mono (Q_MO_doubt_j82 x1 x2 x3 x4 x5 false r2.2) (fun ro ho => ?_)
            exact (mr2).tr (Frm.mono ho (fun k j hk => by first | omega | exact hk.elim | (dsimp only at hk ⊢; omega)))
          · refine wl_mono (Q_MO_doubt_j82 x1 x2 x3 x4 x5 true r2.2) (fun ro ho => ?_)
            exact (mr2).tr (Frm.mono ho (fun k j hk => by first | omega | exact hk.elim | (dsimp only at hk ⊢; omega)))
theorem Q_MO_doubt (x1 : Int32) (x2 : Int32) (x3 : Int32) (x4 : Int32) (x5 : Int32) (M : Mem) : wlO (F_MO_doubt x1 x2 x3 x4 x5 M) (fun r => Frm (fun k j => (k = 94 ∧ (j = 0 ∨ j = 15 ∨ j = 16 ∨ j = 19 ∨ j = 20)) ∨ k = 102 ∨ k = 103 ∨ k = 104 ∨ k = 105 ∨ k = 110 ∨ k = 111) M r.2) := by
  unfold F_MO_doubt
  refine wl_any (fun r1 => ?_)
  refine wl_if (fun _ => ?_) (fun _ => ?_)
  · refine wl_mono (Q_MO_doubt_j34 x1 x2 x3 x4 x5 true (mSI M 94 0 0)) (fun ro ho => ?_)
    exact (((Frm.rf).sI (by first | omega | (dsimp only; omega)))).tr (Frm.mono ho (fun k j hk => by first | omega | exact hk.elim | (dsimp only at hk ⊢; omega)))
  · refine wl_any (fun r21 => ?_)
    refine wl_if (fun _ => ?_) (fun _ => ?_)
    · refine wl_mono (Q_MO_doubt_j34 x1 x2 x3 x4 x5 true (mSI M 94 0 0)) (fun ro ho => ?_)
      exact (((Frm.rf).sI (by first | omega | (dsimp only; omega)))).tr (Frm.mono ho (fun k j hk => by first | omega | exact hk.elim | (dsimp only at hk ⊢; omega)))
    · refine wl_any (fun r22 => ?_)
      refine wl_if (fun _ => ?_) (fun _ => ?_)
      · refine wl_mono (Q_MO_doubt_j34 x1 x2 x3 x4 x5 true (mSI M 94 0 0)) (fun ro ho => ?_)
        exact (((Frm.rf).sI (by first | omega | (dsimp only; omega)))).tr (Frm.mono ho (fun k j hk => by first | omega | exact hk.elim | (dsimp only at hk ⊢; omega)))
      · refine wl_mono (Q_MO_doubt_j34 x1 x2 x3 x4 x5 false (mSI M 94 0 0)) (fun ro ho => ?_)
        exact (((Frm.rf).sI (by first | omega | (dsimp only; omega)))).tr (Frm.mono ho (fun k j hk => by first | omega | exact hk.elim | (dsimp only at hk ⊢; omega)))
theorem Q_MO_row_j110 (M : Mem) : wlO (F_MO_row_j110 M) (fun r => Frm (fun k j => k = 95) M r.2) := by
  unfold F_MO_row_j110
  refine wl_if (fun _ => ?_) (fun _ => wl_none)
  exact wl_some ((Frm.rf).sI (by first | omega | (dsimp only; omega)))
theorem Q_MO_row_b80 (z : Int32 × Mem) : wlO (F_MO_row_b80 z) (fun r => (match r with | .inl s => Frm (fun k j => k = 95) z.2 s.2 | .inr r => Frm (fun k j => k = 95) z.2 r)) := by
  unfold F_MO_row_b80
  refine wl_if (fun _ => ?_) (fun _ => ?_)
  · exact wl_some Frm.rf
  · refine wl_if (fun _ => ?_) (fun _ => wl_none)
    refine wl_if (fun _ => ?_) (fun _ => wl_none)
    exact wl_some ((Frm.rf).sI (by first | omega | (dsimp only; omega)))
theorem Q_MO_row_l80 (x2 : Int32) (M : Mem) : wlO (F_MO_row_l80 x2 M) (fun r => Frm (fun k j => k = 95) M r.2) := by
  unfold F_MO_row_l80
  refine wl_bind (Ψ := fun r => Frm (fun k j => k = 95) M r) (wl_iter (P := fun w9 => Frm (fun k j => k = 95) M w9.2) (fun w9 hz => wl_mono (Q_MO_row_b80  w9) (fun x hx => ?_)) FUEL (x2, M) (Frm.rf)) (fun r hr => ?_)
  · rcases x with x | x
    · exact hz.tr (Frm.mono hx (fun k j hk => by first | omega | exact hk.elim | (dsimp only at hk ⊢; omega)))
    · exact (hz).tr (Frm.mono hx (fun k j hk => by first | omega | exact hk.elim | (dsimp only at hk ⊢; omega)))
  refine wl_mono (Q_MO_row_j110 r) (fun ro ho => ?_)
  exact (hr).tr (Frm.mono ho (fun k j hk => by first | omega | exact hk.elim | (dsimp only at hk ⊢; omega)))
theorem Q_MO_row_j69 (s1 : Bool) (M : Mem) : wlO (F_MO_row_j69 s1 M) (fun r => Frm (fun k j => (k = 94 ∧ j = 0) ∨ k = 95) M r.2) := by
  unfold F_MO_row_j69
  refine wl_bind (Q_MO_throwsIf ((b2i s1)) 1 M) (fun r2 hr2 => ?_)
  have mr2 : Frm (fun k j => (k = 94 ∧ j = 0) ∨ k = 95) M r2.2 := (Frm.rf).tr (Frm.mono hr2 (fun k j hk => by first | omega | exact hk.elim | (dsimp only at hk ⊢; omega)))
  refine wl_if (fun _ => ?_) (fun _ => ?_)
  · exact wl_some mr2
  · refine wl_mono (Q_MO_row_l80 0 r2.2) (fun ro ho => ?_)
    exact (mr2).tr (Frm.mono ho (fun k j hk => by first | omega | exact hk.elim | (dsimp only at hk ⊢; omega)))
theorem Q_MO_row_j59 (x1 : Bool) (M : Mem) : wlO (F_MO_row_j59 x1 M) (fun r => Frm (fun k j => (k = 94 ∧ j = 0) ∨ k = 95) M r.2) := by
  unfold F_MO_row_j59
  refine wl_if (fun _ => ?_) (fun _ => ?_)
  · refine wl_mono (Q_MO_row_j69 false M) (fun ro ho => ?_)
    exact (Frm.rf).tr (Frm.mono ho (fun k j hk => by first | omega | exact hk.elim | (dsimp only at hk ⊢; omega)))
  · refine wl_mono (Q_MO_row_j69 true M) (fun ro ho => ?_)
    exact (Frm.rf).tr (Frm.mono ho (fun k j hk => by first | omega | exact hk.elim | (dsimp only at hk ⊢; omega)))
theorem Q_MO_row_l21 (x1 : Bool) (x2 : Int32) (M : Mem) : wlO (F_MO_row_l21 x1 x2 M) (fun r => Frm (fun k j => (k = 94 ∧ j = 0) ∨ k = 95) M r.2) := by
  unfold F_MO_row_l21
  refine wl_any (fun r => ?_)
  refine wl_mono (Q_MO_row_j59 r M) (fun ro ho => ?_)
  exact (Frm.rf).tr (Frm.mono ho (fun k j hk => by first | omega | exact hk.elim | (dsimp only at hk ⊢; omega)))
theorem Q_MO_row (M : Mem) : wlO (F_MO_row M) (fun r => Frm (fun k j => (k = 94 ∧ (j = 0 ∨ j = 5 ∨ j = 6 ∨ j = 7)) ∨ k = 95) M r.2) := by
  unfold F_MO_row
  refine wl_bind (Q_MO_uses M) (fun r1 hr1 => ?_)
  have mr1 : Frm (fun k j => (k = 94 ∧ (j = 0 ∨ j = 5 ∨ j = 6 ∨ j = 7)) ∨ k = 95) M r1 := (Frm.rf).tr (Frm.mono hr1 (fun k j hk => by first | omega | exact hk.elim | (dsimp only at hk ⊢; omega)))
  refine wl_if (fun _ => ?_) (fun _ => ?_)
  · refine wl_mono (Q_MO_row_l21 true 0 r1) (fun ro ho => ?_)
    exact (mr1).tr (Frm.mono ho (fun k j hk => by first | omega | exact hk.elim | (dsimp only at hk ⊢; omega)))
  · refine wl_mono (Q_MO_row_l21 false 0 r1) (fun ro ho => ?_)
    exact (mr1).tr (Frm.mono ho (fun k j hk => by first | omega | exact hk.elim | (dsimp only at hk ⊢; omega)))
theorem Q_MO_judge_l73 (x1 : Int32) (x2 : Int32) (x3 : Int32) (x4 : Int32) (x5 : Int32) (M : Mem) : wlO (F_MO_judge_l73 x1 x2 x3 x4 x5 M) (fun r => Frm (fun k j => False) M r.2) := by
  unfold F_MO_judge_l73
  refine wl_any (fun q => ?_)
  rcases q with y1 | y1
  · exact wl_some Frm.rf
  · rcases y1 with y2 | y2
    · exact wl_some Frm.rf
    · exact wl_some Frm.rf
theorem Q_MO_judge_j56 (x1 : Int32) (x2 : Int32) (s1 : Bool) (M : Mem) : wlO (F_MO_judge_j56 x1 x2 s1 M) (fun r => Frm (fun k j => (k = 94 ∧ j = 0)) M r.2) := by
  unfold F_MO_judge_j56
  refine wl_bind (Q_MO_throwsIf ((b2i s1)) 2 M) (fun r4 hr4 => ?_)
  have mr4 : Frm (fun k j => (k = 94 ∧ j = 0)) M r4.2 := (Frm.rf).tr (Frm.mono hr4 (fun k j hk => by first | omega | exact hk.elim | (dsimp only at hk ⊢; omega)))
  refine wl_if (fun _ => ?_) (fun _ => ?_)
  · exact wl_some mr4
  · refine wl_mono (Q_MO_judge_l73 x1 x2 0 0 0 r4.2) (fun ro ho => ?_)
    exact (mr4).tr (Frm.mono ho (fun k j hk => by first | omega | exact hk.elim | (dsimp only at hk ⊢; omega)))
theorem Q_MO_judge_j27 (x1 : Int32) (x2 : Int32) (s1 : Bool) (M : Mem) : wlO (F_MO_judge_j27 x1 x2 s1 M) (fun r => Frm (fun k j => (k = 94 ∧ j = 0)) M r.2) := by
  unfold F_MO_judge_j27
  refine wl_bind (Q_MO_throwsIf ((b2i s1)) 1 M) (fun r2 hr2 => ?_)
  have mr2 : Frm (fun k j => (k = 94 ∧ j = 0)) M r2.2 := (Frm.rf).tr (Frm.mono hr2 (fun k j hk => by first | omega | exact hk.elim | (dsimp only at hk ⊢; omega)))
  refine wl_if (fun _ => ?_) (fun _ => ?_)
  · exact wl_some mr2
  · refine wl_any (fun r3 => ?_)
    refine wl_if (fun _ => ?_) (fun _ => ?_)
    · refine wl_mono (Q_MO_judge_j56 x1 x2 true r2.2) (fun ro ho => ?_)
      exact (mr2).tr (Frm.mono ho (fun k j hk => by first | omega | exact hk.elim | (dsimp only at hk ⊢; omega)))
    · refine wl_any (fun r9 => ?_)
      refine wl_if (fun _ => ?_) (fun _ => ?_)
      · refine wl_mono (Q_MO_judge_j56 x1 x2 true r2.2) (fun ro ho => ?_)
        exact (mr2).tr (Frm.mono ho (fun k j hk => by first | omega | exact hk.elim | (dsimp only at hk ⊢; omega)))
      · refine wl_mono (Q_MO_judge_j56 x1 x2 false r2.2) (fun ro ho => ?_)
        exact (mr2).tr (Frm.mono ho (fun k j hk => by first | omega | exact hk.elim | (dsimp only at hk ⊢; omega)))
theorem Q_MO_judge (x1 : Int32) (x2 : Int32) (M : Mem) : wlO (F_MO_judge x1 x2 M) (fun r => Frm (fun k j => (k = 94 ∧ j = 0)) M r.2) := by
  unfold F_MO_judge
  refine wl_any (fun r1 => ?_)
  refine wl_if (fun _ => ?_) (fun _ => ?_)
  · refine wl_mono (Q_MO_judge_j27 x1 x2 true (mSI M 94 0 0)) (fun ro ho => ?_)
    exact (((Frm.rf).sI (by first | omega | (dsimp only; omega)))).tr (Frm.mono ho (fun k j hk => by first | omega | exact hk.elim | (dsimp only at hk ⊢; omega)))
  · refine wl_any (fun r10 => ?_)
    refine wl_if (fun _ => ?_) (fun _ => ?_)
    · refine wl_mono (Q_MO_judge_j27 x1 x2 true (mSI M 94 0 0)) (fun ro ho => ?_)
      exact (((Frm.rf).sI (by first | omega | (dsimp only; omega)))).tr (Frm.mono ho (fun k j hk => by first | omega | exact hk.elim | (dsimp only at hk ⊢; omega)))
    · refine wl_mono (Q_MO_judge_j27 x1 x2 false (mSI M 94 0 0)) (fun ro ho => ?_)
      exact (((Frm.rf).sI (by first | omega | (dsimp only; omega)))).tr (Frm.mono ho (fun k j hk => by first | omega | exact hk.elim | (dsimp only at hk ⊢; omega)))
theorem Q_MO_brought_l23 (x1 : Int32) (x2 : Int32) (x3 : Int32) (M : Mem) : wlO (F_MO_brought_l23 x1 x2 x3 M) (fun r => Frm (fun k j => False) M r.2) := by
  unfold F_MO_brought_l23
  refine wl_any (fun r => ?_)
  exact wl_some Frm.rf
theorem Q_MO_brought (x1 : Int32) (M : Mem) : wlO (F_MO_brought x1 M) (fun r => Frm (fun k j => (k = 94 ∧ j = 0)) M r.2) := by
  unfold F_MO_brought
  refine wl_any (fun r1 => ?_)
  refine wl_bind (Q_MO_throwsIf ((b2i r1)) 1 (mSI M 94 0 0)) (fun r2 hr2 => ?_)
  have mr2 : Frm (fun k j => (k = 94 ∧ j = 0)) M r2.2 := (((Frm.rf).sI (by first | omega | (dsimp only; omega)))).tr (Frm.mono hr2 (fun k j hk => by first | omega | exact hk.elim | (dsimp only at hk ⊢; omega)))
  refine wl_if (fun _ => ?_) (fun _ => ?_)
  · exact wl_some mr2
  · refine wl_mono (Q_MO_brought_l23 x1 0 0 r2.2) (fun ro ho => ?_)
    exact (mr2).tr (Frm.mono ho (fun k j hk => by first | omega | exact hk.elim | (dsimp only at hk ⊢; omega)))
theorem Q_MO_isMistaken (M : Mem) : wlO (F_MO_isMistaken M) (fun r => Frm (fun k j => (k = 94 ∧ j = 37)) M r.2) := by
  unfold F_MO_isMistaken
  refine wl_if (fun _ => ?_) (fun _ => wl_none)
  refine wl_if (fun _ => ?_) (fun _ => ?_)
  · exact wl_some Frm.rf
  · refine wl_if (fun _ => ?_) (fun _ => wl_none)
    refine wl_if (fun _ => ?_) (fun _ => wl_none)
    refine wl_if (fun _ => ?_) (fun _ => wl_none)
    refine wl_if (fun _ => ?_) (fun _ => ?_)
    · exact wl_some ((Frm.rf).sI (by first | omega | (dsimp only; omega)))
    · exact wl_some ((Frm.rf).sI (by first | omega | (dsimp only; omega)))
theorem Q_MO_drawn_j244 (x5 : Int32) (x6 : Int32) (x7 : Int32) (x8 : Int32) (M : Mem) : wlO (F_MO_drawn_j244 x5 x6 x7 x8 M) (fun r => Frm (fun k j => False) M r.2) := by
  unfold F_MO_drawn_j244
  refine wl_if (fun _ => ?_) (fun _ => ?_)
  · refine wl_if (fun _ => ?_) (fun _ => ?_)
    · exact wl_some Frm.rf
    · exact wl_some Frm.rf
  · exact wl_some Frm.rf
theorem Q_MO_drawn_j214 (x1 : Int32) (x2 : Int32) (x3 : Int32) (x5 : Int32) (x6 : Int32) (x7 : Int32) (x8 : Int32) (x9 : Int32) (x12 : Int32) (s0 : Int32) (M : Mem) : wlO (F_MO_drawn_j214 x1 x2 x3 x5 x6 x7 x8 x9 x12 s0 M) (fun r => (match r with | .inl s => Frm (fun k j => False) M s.2.2.2.2 | .inr r => Frm (fun k j => False) M r.2.2.2)) := by
  unfold F_MO_drawn_j214
  refine wl_any (fun r14 => ?_)
  refine wl_any (fun r15 => ?_)
  exact wl_some Frm.rf
theorem Q_MO_drawn_j196 (x1 : Int32) (x2 : Int32) (x3 : Int32) (x5 : Int32) (x6 : Int32) (x7 : Int32) (x8 : Int32) (x9 : Int32) (x10 : Int32) (s0 : Int32) (M : Mem) : wlO (F_MO_drawn_j196 x1 x2 x3 x5 x6 x7 x8 x9 x10 s0 M) (fun r => (match r with | .inl s => Frm (fun k j => (k = 94 ∧ j = 37)) M s.2.2.2.2 | .inr r => Frm (fun k j => (k = 94 ∧ j = 37)) M r.2.2.2)) := by
  unfold F_MO_drawn_j196
  refine wl_bind (Q_MO_isMistaken M) (fun r13 hr13 => ?_)
  have mr13 : Frm (fun k j => (k = 94 ∧ j = 37)) M r13.2 := (Frm.rf).tr (Frm.mono hr13 (fun k j hk => by first | omega | exact hk.elim | (dsimp only at hk ⊢; omega)))
  refine wl_if (fun _ => ?_) (fun _ => ?_)
  · refine wl_mono (Q_MO_drawn_j214 x1 x2 x3 x5 x6 x7 x8 x9 s0 (1 - x10) r13.2) (fun ro ho => ?_)
    rcases ro with s1 | s1
    · exact (mr13).tr (Frm.mono ho (fun k j hk => by first | omega | exact hk.elim | (dsimp only at hk ⊢; omega)))
    · exact (mr13).tr (Frm.mono ho (fun k j hk => by first | omega | exact hk.elim | (dsimp only at hk ⊢; omega)))
  · refine wl_mono (Q_MO_drawn_j214 x1 x2 x3 x5 x6 x7 x8 x9 s0 x10 r13.2) (fun ro ho => ?_)
    rcases ro with s2 | s2
    · exact (mr13).tr (Frm.mono ho (fun k j hk => by first | omega | exact hk.elim | (dsimp only at hk ⊢; omega)))
    · exact (mr13).tr (Frm.mono ho (fun k j hk => by first | omega | exact hk.elim | (dsimp only at hk ⊢; omega)))
theorem Q_MO_drawn_b139 (x1 : Int32) (x2 : Int32) (x3 : Int32) (x5 : Int32) (z : Int32 × Int32 × Int32 × Int32 × Mem) : wlO (F_MO_drawn_b139 x1 x2 x3 x5 z) (fun r => (match r with | .inl s => Frm (fun k j => (k = 94 ∧ j = 37)) z.2.2.2.2 s.2.2.2.2 | .inr r => Frm (fun k j => (k = 94 ∧ j = 37)) z.2.2.2.2 r.2.2.2)) := by
  unfold F_MO_drawn_b139
  refine wl_if (fun _ => ?_) (fun _ => ?_)
  · exact wl_some Frm.rf
  · refine wl_any (fun r9 => ?_)
    refine wl_any (fun r10 => ?_)
    refine wl_any (fun r11 => ?_)
    refine wl_bind (Q_MO_isMistaken z.2.2.2.2) (fun r12 hr12 => ?_)
    have mr12 : Frm (fun k j => (k = 94 ∧ j = 37)) z.2.2.2.2 r12.2 := (Frm.rf).tr (Frm.mono hr12 (fun k j hk => by first | omega | exact hk.elim | (dsimp only at hk ⊢; omega)))
    refine wl_if (fun _ => ?_) (fun _ => ?_)
    · refine wl_mono (Q_MO_drawn_j196 x1 x2 x3 x5 z.1 z.2.1 (z.2.2.1 + r11) z.2.2.2.1 r9 (1 - r10) r12.2) (fun ro ho => ?_)
      rcases ro with s1 | s1
      · exact (mr12).tr (Frm.mono ho (fun k j hk => by first | omega | exact hk.elim | (dsimp only at hk ⊢; omega)))
      · exact (mr12).tr (Frm.mono ho (fun k j hk => by first | omega | exact hk.elim | (dsimp only at hk ⊢; omega)))
    · refine wl_mono (Q_MO_drawn_j196 x1 x2 x3 x5 z.1 z.2.1 (z.2.2.1 + r11) z.2.2.2.1 r9 r10 r12.2) (fun ro ho => ?_)
      rcases ro with s2 | s2
      · exact (mr12).tr (Frm.mono ho (fun k j hk => by first | omega | exact hk.elim | (dsimp only at hk ⊢; omega)))
      · exact (mr12).tr (Frm.mono ho (fun k j hk => by first | omega | exact hk.elim | (dsimp only at hk ⊢; omega)))
theorem Q_MO_drawn_l139 (x1 : Int32) (x2 : Int32) (x3 : Int32) (x5 : Int32) (x6 : Int32) (x7 : Int32) (x8 : Int32) (x9 : Int32) (M : Mem) : wlO (F_MO_drawn_l139 x1 x2 x3 x5 x6 x7 x8 x9 M) (fun r => Frm (fun k j => (k = 94 ∧ j = 37)) M r.2) := by
  unfold F_MO_drawn_l139
  refine wl_bind (Ψ := fun r => Frm (fun k j => (k = 94 ∧ j = 37)) M r.2.2.2) (wl_iter (P := fun w9 => Frm (fun k j => (k = 94 ∧ j = 37)) M w9.2.2.2.2) (fun w9 hz => wl_mono (Q_MO_drawn_b139 x1 x2 x3 x5 w9) (fun x hx => ?_)) FUEL (x6, x7, x8, x9, M) (Frm.rf)) (fun r hr => ?_)
  · rcases x with x | x
    · exact hz.tr (Frm.mono hx (fun k j hk => by first | omega | exact hk.elim | (dsimp only at hk ⊢; omega)))
    · exact (hz).tr (Frm.mono hx (fun k j hk => by first | omega | exact hk.elim | (dsimp only at hk ⊢; omega)))
  refine wl_mono (Q_MO_drawn_j244 x5 r.1 r.2.1 r.2.2.1 r.2.2.2) (fun ro ho => ?_)
  exact (hr).tr (Frm.mono ho (fun k j hk => by first | omega | exact hk.elim | (dsimp only at hk ⊢; omega)))
theorem Q_MO_drawn_j112 (x1 : Int32) (x2 : Int32) (x3 : Int32) (x4 : Int32) (x5 : Int32) (s1 : Bool) (M : Mem) : wlO (F_MO_drawn_j112 x1 x2 x3 x4 x5 s1 M) (fun r => Frm (fun k j => (k = 94 ∧ (j = 0 ∨ j = 37))) M r.2) := by
  unfold F_MO_drawn_j112
  refine wl_bind (Q_MO_throwsIf ((b2i s1)) 4 M) (fun r8 hr8 => ?_)
  have mr8 : Frm (fun k j => (k = 94 ∧ (j = 0 ∨ j = 37))) M r8.2 := (Frm.rf).tr (Frm.mono hr8 (fun k j hk => by first | omega | exact hk.elim | (dsimp only at hk ⊢; omega)))
  refine wl_if (fun _ => ?_) (fun _ => ?_)
  · exact wl_some mr8
  · refine wl_mono (Q_MO_drawn_l139 x1 x2 x3 x5 0 0 0 0 (mSI r8.2 94 37 x4)) (fun ro ho => ?_)
    exact (((mr8).sI (by first | omega | (dsimp only; omega)))).tr (Frm.mono ho (fun k j hk => by first | omega | exact hk.elim | (dsimp only at hk ⊢; omega)))
theorem Q_MO_drawn_j89 (x1 : Int32) (x2 : Int32) (x3 : Int32) (x4 : Int32) (x5 : Int32) (s1 : Bool) (M : Mem) : wlO (F_MO_drawn_j89 x1 x2 x3 x4 x5 s1 M) (fun r => Frm (fun k j => (k = 94 ∧ (j = 0 ∨ j = 37))) M r.2) := by
  unfold F_MO_drawn_j89
  refine wl_bind (Q_MO_throwsIf ((b2i s1)) 3 M) (fun r6 hr6 => ?_)
  have mr6 : Frm (fun k j => (k = 94 ∧ (j = 0 ∨ j = 37))) M r6.2 := (Frm.rf).tr (Frm.mono hr6 (fun k j hk => by first | omega | exact hk.elim | (dsimp only at hk ⊢; omega)))
  refine wl_if (fun _ => ?_) (fun _ => ?_)
  · exact wl_some mr6
  · refine wl_any (fun r7 => ?_)
    refine wl_if (fun _ => ?_) (fun _ => ?_)
    · refine wl_mono (Q_MO_drawn_j112 x1 x2 x3 x4 x5 false r6.2) (fun ro ho => ?_)
      exact (mr6).tr (Frm.mono ho (fun k j hk => by first | omega | exact hk.elim | (dsimp only at hk ⊢; omega)))
    · refine wl_mono (Q_MO_drawn_j112 x1 x2 x3 x4 x5 true r6.2) (fun ro ho => ?_)
      exact (mr6).tr (Frm.mono ho (fun k j hk => by first | omega | exact hk.elim | (dsimp only at hk ⊢; omega)))
theorem Q_MO_drawn_j50 (x1 : Int32) (x2 : Int32) (x3 : Int32) (x4 : Int32) (x5 : Int32) (s1 : Bool) (M : Mem) : wlO (F_MO_drawn_j50 x1 x2 x3 x4 x5 s1 M) (fun r => Frm (fun k j => (k = 94 ∧ (j = 0 ∨ j = 37))) M r.2) := by
  unfold F_MO_drawn_j50
  refine wl_bind (Q_MO_throwsIf ((b2i s1)) 2 M) (fun r4 hr4 => ?_)
  have mr4 : Frm (fun k j => (k = 94 ∧ (j = 0 ∨ j = 37))) M r4.2 := (Frm.rf).tr (Frm.mono hr4 (fun k j hk => by first | omega | exact hk.elim | (dsimp only at hk ⊢; omega)))
  refine wl_if (fun _ => ?_) (fun _ => ?_)
  · exact wl_some mr4
  · refine wl_any (fun r5 => ?_)
    refine wl_if (fun _ => ?_) (fun _ => ?_)
    · refine wl_mono (Q_MO_drawn_j89 x1 x2 x3 x4 x5 true r4.2) (fun ro ho => ?_)
      exact (mr4).tr (Frm.mono ho (fun k j hk => by first | omega | exact hk.elim | (dsimp only at hk ⊢; omega)))
    · refine wl_if (fun _ => ?_) (fun _ => wl_none)
      refine wl_if (fun _ => ?_) (fun _ => ?_)
      · refine wl_mono (Q_MO_drawn_j89 x1 x2 x3 x4 x5 false r4.2) (fun ro ho => ?_)
        exact (mr4).tr (Frm.mono ho (fun k j hk => by first | omega | exact hk.elim | (dsimp only at hk ⊢; omega)))
      · refine wl_any (fun r16 => ?_)
        refine wl_if (fun _ => ?_) (fun _ => ?_)
        · refine wl_mono (Q_MO_drawn_j89 x1 x2 x3 x4 x5 false r4.2) (fun ro ho => ?_)
          exact (mr4).tr (Frm.mono ho (fun k j hk => by first | omega | exact hk.elim | (dsimp only at hk ⊢; omega)))
        · refine wl_mono (Q_MO_drawn_j89 x1 x2 x3 x4 x5 true r4.2) (fun ro ho => ?_)
          exact (mr4).tr (Frm.mono ho (fun k j hk => by first | omega | exact hk.elim | (dsimp only at hk ⊢; omega)))
theorem Q_MO_drawn_j27 (x1 : Int32) (x2 : Int32) (x3 : Int32) (x4 : Int32) (x5 : Int32) (s1 : Bool) (M : Mem) : wlO (F_MO_drawn_j27 x1 x2 x3 x4 x5 s1 M) (fun r => Frm (fun k j => (k = 94 ∧ (j = 0 ∨ j = 37))) M r.2) := by
  unfold F_MO_drawn_j27
  refine wl_bind (Q_MO_throwsIf ((b2i s1)) 1 M) (fun r2 hr2 => ?_)
  have mr2 : Frm (fun k j => (k = 94 ∧ (j = 0 ∨ j = 37))) M r2.2 := (Frm.rf).tr (Frm.mono hr2 (fun k j hk => by first | omega | exact hk.elim | (dsimp only at hk ⊢; omega)))
  refine wl_if (fun _ => ?_) (fun _ => ?_)
  · exact wl_some mr2
  · refine wl_any (fun r3 => ?_)
    refine wl_if (fun _ => ?_) (fun _ => ?_)
    · refine wl_mono (Q_MO_drawn_j50 x1 x2 x3 x4 x5 false r2.2) (fun ro ho => ?_)
      exact (mr2).tr (Frm.mono ho (fun k j hk => by first | omega | exact hk.elim | (dsimp only at hk ⊢; omega)))
    · refine wl_mono (Q_MO_drawn_j50 x1 x2 x3 x4 x5 true r2.2) (fun ro ho => ?_)
      exact (mr2).tr (Frm.mono ho (fun k j hk => by first | omega | exact hk.elim | (dsimp only at hk ⊢; omega)))
theorem Q_MO_drawn (x1 : Int32) (x2 : Int32) (x3 : Int32) (x4 : Int32) (x5 : Int32) (M : Mem) : wlO (F_MO_drawn x1 x2 x3 x4 x5 M) (fun r => Frm (fun k j => (k = 94 ∧ (j = 0 ∨ j = 37))) M r.2) := by
  unfold F_MO_drawn
  refine wl_any (fun r1 => ?_)
  refine wl_if (fun _ => ?_) (fun _ => ?_)
  · refine wl_mono (Q_MO_drawn_j27 x1 x2 x3 x4 x5 true (mSI M 94 0 0)) (fun ro ho => ?_)
    exact (((Frm.rf).sI (by first | omega | (dsimp only; omega)))).tr (Frm.mono ho (fun k j hk => by first | omega | exact hk.elim | (dsimp only at hk ⊢; omega)))
  · refine wl_any (fun r17 => ?_)
    refine wl_if (fun _ => ?_) (fun _ => ?_)
    · refine wl_mono (Q_MO_drawn_j27 x1 x2 x3 x4 x5 true (mSI M 94 0 0)) (fun ro ho => ?_)
      exact (((Frm.rf).sI (by first | omega | (dsimp only; omega)))).tr (Frm.mono ho (fun k j hk => by first | omega | exact hk.elim | (dsimp only at hk ⊢; omega)))
    · refine wl_mono (Q_MO_drawn_j27 x1 x2 x3 x4 x5 false (mSI M 94 0 0)) (fun ro ho => ?_)
      exact (((Frm.rf).sI (by first | omega | (dsimp only; omega)))).tr (Frm.mono ho (fun k j hk => by first | omega | exact hk.elim | (dsimp only at hk ⊢; omega)))
theorem Q_MO_field_j35 (x1 : Int32) (x2 : Int32) (s1 : Bool) (M : Mem) : wlO (F_MO_field_j35 x1 x2 s1 M) (fun r => Frm (fun k j => (k = 94 ∧ j = 0) ∨ k = 95) M r) := by
  unfold F_MO_field_j35
  refine wl_bind (Q_MO_throwsIf ((b2i s1)) 2 M) (fun r4 hr4 => ?_)
  have mr4 : Frm (fun k j => (k = 94 ∧ j = 0) ∨ k = 95) M r4.2 := (Frm.rf).tr (Frm.mono hr4 (fun k j hk => by first | omega | exact hk.elim | (dsimp only at hk ⊢; omega)))
  refine wl_if (fun _ => ?_) (fun _ => ?_)
  · exact wl_some mr4
  · refine wl_if (fun _ => ?_) (fun _ => wl_none)
    exact wl_some ((mr4).sI (by first | omega | (dsimp only; omega)))
theorem Q_MO_field (x1 : Int32) (x2 : Int32) (M : Mem) : wlO (F_MO_field x1 x2 M) (fun r => Frm (fun k j => (k = 94 ∧ j = 0) ∨ k = 95) M r) := by
  unfold F_MO_field
  refine wl_any (fun r1 => ?_)
  refine wl_bind (Q_MO_throwsIf ((b2i r1)) 1 (mSI M 94 0 0)) (fun r2 hr2 => ?_)
  have mr2 : Frm (fun k j => (k = 94 ∧ j = 0) ∨ k = 95) M r2.2 := (((Frm.rf).sI (by first | omega | (dsimp only; omega)))).tr (Frm.mono hr2 (fun k j hk => by first | omega | exact hk.elim | (dsimp only at hk ⊢; omega)))
  refine wl_if (fun _ => ?_) (fun _ => ?_)
  · exact wl_some mr2
  · refine wl_any (fun r3 => ?_)
    refine wl_if (fun _ => ?_) (fun _ => ?_)
    · refine wl_mono (Q_MO_field_j35 x1 x2 false r2.2) (fun ro ho => ?_)
      exact (mr2).tr (Frm.mono ho (fun k j hk => by first | omega | exact hk.elim | (dsimp only at hk ⊢; omega)))
    · refine wl_mono (Q_MO_field_j35 x1 x2 true r2.2) (fun ro ho => ?_)
      exact (mr2).tr (Frm.mono ho (fun k j hk => by first | omega | exact hk.elim | (dsimp only at hk ⊢; omega)))
theorem Q_MO_rounds_j21 (x1 : Int32) (s1 : Bool) (M : Mem) : wlO (F_MO_rounds_j21 x1 s1 M) (fun r => Frm (fun k j => (k = 94 ∧ j = 0) ∨ k = 95) M r) := by
  unfold F_MO_rounds_j21
  refine wl_bind (Q_MO_throwsIf ((b2i s1)) 1 M) (fun r2 hr2 => ?_)
  have mr2 : Frm (fun k j => (k = 94 ∧ j = 0) ∨ k = 95) M r2.2 := (Frm.rf).tr (Frm.mono hr2 (fun k j hk => by first | omega | exact hk.elim | (dsimp only at hk ⊢; omega)))
  refine wl_if (fun _ => ?_) (fun _ => ?_)
  · exact wl_some mr2
  · refine wl_if (fun _ => ?_) (fun _ => wl_none)
    exact wl_some ((mr2).sI (by first | omega | (dsimp only; omega)))
theorem Q_MO_rounds (x1 : Int32) (M : Mem) : wlO (F_MO_rounds x1 M) (fun r => Frm (fun k j => (k = 94 ∧ j = 0) ∨ k = 95) M r) := by
  unfold F_MO_rounds
  refine wl_any (fun r1 => ?_)
  refine wl_if (fun _ => ?_) (fun _ => ?_)
  · refine wl_mono (Q_MO_rounds_j21 x1 false (mSI M 94 0 0)) (fun ro ho => ?_)
    exact (((Frm.rf).sI (by first | omega | (dsimp only; omega)))).tr (Frm.mono ho (fun k j hk => by first | omega | exact hk.elim | (dsimp only at hk ⊢; omega)))
  · refine wl_mono (Q_MO_rounds_j21 x1 true (mSI M 94 0 0)) (fun ro ho => ?_)
    exact (((Frm.rf).sI (by first | omega | (dsimp only; omega)))).tr (Frm.mono ho (fun k j hk => by first | omega | exact hk.elim | (dsimp only at hk ⊢; omega)))
theorem Q_MO_meet_j27 (x1 : Int32) (x2 : Int32) (s1 : Bool) (M : Mem) : wlO (F_MO_meet_j27 x1 x2 s1 M) (fun r => Frm (fun k j => (k = 94 ∧ j = 0)) M r.2) := by
  unfold F_MO_meet_j27
  refine wl_bind (Q_MO_throwsIf ((b2i s1)) 1 M) (fun r2 hr2 => ?_)
  have mr2 : Frm (fun k j => (k = 94 ∧ j = 0)) M r2.2 := (Frm.rf).tr (Frm.mono hr2 (fun k j hk => by first | omega | exact hk.elim | (dsimp only at hk ⊢; omega)))
  refine wl_if (fun _ => ?_) (fun _ => ?_)
  · exact wl_some mr2
  · refine wl_any (fun r3 => ?_)
    refine wl_bind (Q_MO_throwsIf ((b2i r3)) 2 r2.2) (fun r4 hr4 => ?_)
    have mr4 : Frm (fun k j => (k = 94 ∧ j = 0)) M r4.2 := (mr2).tr (Frm.mono hr4 (fun k j hk => by first | omega | exact hk.elim | (dsimp only at hk ⊢; omega)))
    refine wl_if (fun _ => ?_) (fun _ => ?_)
    · exact wl_some mr4
    · refine wl_any (fun r5 => ?_)
      exact wl_some mr4
theorem Q_MO_meet (x1 : Int32) (x2 : Int32) (M : Mem) : wlO (F_MO_meet x1 x2 M) (fun r => Frm (fun k j => (k = 94 ∧ j = 0)) M r.2) := by
  unfold F_MO_meet
  refine wl_any (fun r1 => ?_)
  refine wl_if (fun _ => ?_) (fun _ => ?_)
  · refine wl_mono (Q_MO_meet_j27 x1 x2 true (mSI M 94 0 0)) (fun ro ho => ?_)
    exact (((Frm.rf).sI (by first | omega | (dsimp only; omega)))).tr (Frm.mono ho (fun k j hk => by first | omega | exact hk.elim | (dsimp only at hk ⊢; omega)))
  · refine wl_any (fun r6 => ?_)
    refine wl_if (fun _ => ?_) (fun _ => ?_)
    · refine wl_mono (Q_MO_meet_j27 x1 x2 true (mSI M 94 0 0)) (fun ro ho => ?_)
      exact (((Frm.rf).sI (by first | omega | (dsimp only; omega)))).tr (Frm.mono ho (fun k j hk => by first | omega | exact hk.elim | (dsimp only at hk ⊢; omega)))
    · refine wl_mono (Q_MO_meet_j27 x1 x2 false (mSI M 94 0 0)) (fun ro ho => ?_)
      exact (((Frm.rf).sI (by first | omega | (dsimp only; omega)))).tr (Frm.mono ho (fun k j hk => by first | omega | exact hk.elim | (dsimp only at hk ⊢; omega)))
theorem Q_MO_growsOnce_j385 (x1 : Int32) (x9 : Int32) (s0 : Bool) (M : Mem) : wlO (F_MO_growsOnce_j385 x1 x9 s0 M) (fun r => (match r with | .inl s => Frm (fun k j => k = 95) M s.2.2 | .inr r => Frm (fun k j => k = 95) M r.2)) := by
  unfold F_MO_growsOnce_j385
  refine wl_if (fun _ => ?_) (fun _ => wl_none)
  refine wl_if (fun _ => ?_) (fun _ => wl_none)
  exact wl_some ((Frm.rf).sI (by first | omega | (dsimp only; omega)))
theorem Q_MO_growsOnce_b334 (x1 : Int32) (z : Bool × Int32 × Mem) : wlO (F_MO_growsOnce_b334 x1 z) (fun r => (match r with | .inl s => Frm (fun k j => k = 95) z.2.2 s.2.2 | .inr r => Frm (fun k j => k = 95) z.2.2 r.2)) := by
  unfold F_MO_growsOnce_b334
  refine wl_if (fun _ => ?_) (fun _ => ?_)
  · exact wl_some Frm.rf
  · refine wl_any (fun r1 => ?_)
    refine wl_if (fun _ => ?_) (fun _ => ?_)
    · exact wl_some Frm.rf
    · refine wl_if (fun _ => ?_) (fun _ => ?_)
      · refine wl_mono (Q_MO_growsOnce_j385 x1 z.2.1 true z.2.2) (fun ro ho => ?_)
        rcases ro with s1 | s1
        · exact (Frm.rf).tr (Frm.mono ho (fun k j hk => by first | omega | exact hk.elim | (dsimp only at hk ⊢; omega)))
        · exact (Frm.rf).tr (Frm.mono ho (fun k j hk => by first | omega | exact hk.elim | (dsimp only at hk ⊢; omega)))
      · refine wl_if (fun _ => ?_) (fun _ => wl_none)
        refine wl_if (fun _ => ?_) (fun _ => wl_none)
        refine wl_if (fun _ => ?_) (fun _ => ?_)
        · refine wl_mono (Q_MO_growsOnce_j385 x1 z.2.1 false z.2.2) (fun ro ho => ?_)
          rcases ro with s2 | s2
          · exact (Frm.rf).tr (Frm.mono ho (fun k j hk => by first | omega | exact hk.elim | (dsimp only at hk ⊢; omega)))
          · exact (Frm.rf).tr (Frm.mono ho (fun k j hk => by first | omega | exact hk.elim | (dsimp only at hk ⊢; omega)))
        · refine wl_mono (Q_MO_growsOnce_j385 x1 z.2.1 true z.2.2) (fun ro ho => ?_)
          rcases ro with s3 | s3
          · exact (Frm.rf).tr (Frm.mono ho (fun k j hk => by first | omega | exact hk.elim | (dsimp only at hk ⊢; omega)))
          · exact (Frm.rf).tr (Frm.mono ho (fun k j hk => by first | omega | exact hk.elim | (dsimp only at hk ⊢; omega)))
theorem Q_MO_growsOnce_l334 (x1 : Int32) (x8 : Bool) (x9 : Int32) (M : Mem) : wlO (F_MO_growsOnce_l334 x1 x8 x9 M) (fun r => Frm (fun k j => k = 95) M r.2) := by
  unfold F_MO_growsOnce_l334
  refine wl_bind (Ψ := fun r => Frm (fun k j => k = 95) M r.2) (wl_iter (P := fun w9 => Frm (fun k j => k = 95) M w9.2.2) (fun w9 hz => wl_mono (Q_MO_growsOnce_b334 x1 w9) (fun x hx => ?_)) FUEL (x8, x9, M) (Frm.rf)) (fun r hr => ?_)
  · rcases x with x | x
    · exact hz.tr (Frm.mono hx (fun k j hk => by first | omega | exact hk.elim | (dsimp only at hk ⊢; omega)))
    · exact (hz).tr (Frm.mono hx (fun k j hk => by first | omega | exact hk.elim | (dsimp only at hk ⊢; omega)))
  exact wl_some hr
theorem Q_MO_growsOnce_j301 (x1 : Int32) (x6 : Int64) (x8 : Bool) (x9 : Int32) (M : Mem) : wlO (F_MO_growsOnce_j301 x1 x6 x8 x9 M) (fun r => (match r with | .inl s => Frm (fun k j => k = 119 ∨ k = 120) M s.2 | .inr r => Frm (fun k j => k = 119 ∨ k = 120) M r)) := by
  unfold F_MO_growsOnce_j301
  refine wl_if (fun _ => ?_) (fun _ => wl_none)
  refine wl_if (fun _ => ?_) (fun _ => wl_none)
  refine wl_if (fun _ => ?_) (fun _ => wl_none)
  exact wl_some ((((Frm.rf).sL (by first | omega | (dsimp only; omega)))).sL (by first | omega | (dsimp only; omega)))
theorem Q_MO_growsOnce_l267 (x1 : Int32) (x6 : Int64) (x8 : Bool) (x9 : Int32) (x10 : Int32) (M : Mem) : wlO (F_MO_growsOnce_l267 x1 x6 x8 x9 x10 M) (fun r => (match r with | .inl s => Frm (fun k j => k = 119 ∨ k = 120) M s.2 | .inr r => Frm (fun k j => k = 119 ∨ k = 120) M r)) := by
  unfold F_MO_growsOnce_l267
  refine wl_any (fun r => ?_)
  refine wl_mono (Q_MO_growsOnce_j301 x1 x6 x8 r M) (fun ro ho => ?_)
  rcases ro with s1 | s1
  · exact (Frm.rf).tr (Frm.mono ho (fun k j hk => by first | omega | exact hk.elim | (dsimp only at hk ⊢; omega)))
  · exact (Frm.rf).tr (Frm.mono ho (fun k j hk => by first | omega | exact hk.elim | (dsimp only at hk ⊢; omega)))
theorem Q_MO_growsOnce_b254 (x1 : Int32) (x8 : Bool) (z : Int64 × Mem) : wlO (F_MO_growsOnce_b254 x1 x8 z) (fun r => (match r with | .inl s => Frm (fun k j => k = 119 ∨ k = 120) z.2 s.2 | .inr r => Frm (fun k j => k = 119 ∨ k = 120) z.2 r)) := by
  unfold F_MO_growsOnce_b254
  refine wl_if (fun _ => ?_) (fun _ => ?_)
  · exact wl_some Frm.rf
  · refine wl_mono (Q_MO_growsOnce_l267 x1 z.1 x8 0 1 z.2) (fun ro ho => ?_)
    rcases ro with s1 | s1
    · exact (Frm.rf).tr (Frm.mono ho (fun k j hk => by first | omega | exact hk.elim | (dsimp only at hk ⊢; omega)))
    · exact (Frm.rf).tr (Frm.mono ho (fun k j hk => by first | omega | exact hk.elim | (dsimp only at hk ⊢; omega)))
theorem Q_MO_growsOnce_l254 (x1 : Int32) (x6 : Int64) (x8 : Bool) (M : Mem) : wlO (F_MO_growsOnce_l254 x1 x6 x8 M) (fun r => Frm (fun k j => k = 95 ∨ k = 119 ∨ k = 120) M r.2) := by
  unfold F_MO_growsOnce_l254
  refine wl_bind (Ψ := fun r => Frm (fun k j => k = 95 ∨ k = 119 ∨ k = 120) M r) (wl_iter (P := fun w9 => Frm (fun k j => k = 95 ∨ k = 119 ∨ k = 120) M w9.2) (fun w9 hz => wl_mono (Q_MO_growsOnce_b254 x1 x8 w9) (fun x hx => ?_)) FUEL (x6, M) (Frm.rf)) (fun r hr => ?_)
  · rcases x with x | x
    · exact hz.tr (Frm.mono hx (fun k j hk => by first | omega | exact hk.elim | (dsimp only at hk ⊢; omega)))
    · exact (hz).tr (Frm.mono hx (fun k j hk => by first | omega | exact hk.elim | (dsimp only at hk ⊢; omega)))
  refine wl_mono (Q_MO_growsOnce_l334 x1 x8 0 r) (fun ro ho => ?_)
  exact (hr).tr (Frm.mono ho (fun k j hk => by first | omega | exact hk.elim | (dsimp only at hk ⊢; omega)))
theorem Q_MO_growsOnce_j216 (x1 : Int32) (x2 : Int64) (x4 : Int64) (x6 : Int64) (x8 : Bool) (x9 : Int32) (s1 : Int32) (s2 : Int64) (M : Mem) : wlO (F_MO_growsOnce_j216 x1 x2 x4 x6 x8 x9 s1 s2 M) (fun r => (match r with | .inl s => Frm (fun k j => k = 119 ∨ k = 120) M s.2.2 | .inr r => Frm (fun k j => k = 119 ∨ k = 120) M r.2)) := by
  unfold F_MO_growsOnce_j216
  refine wl_if (fun _ => ?_) (fun _ => wl_none)
  refine wl_if (fun _ => ?_) (fun _ => wl_none)
  refine wl_if (fun _ => ?_) (fun _ => wl_none)
  refine wl_if (fun _ => ?_) (fun _ => wl_none)
  refine wl_if (fun _ => ?_) (fun _ => wl_none)
  exact wl_some ((((Frm.rf).sL (by first | omega | (dsimp only; omega)))).sL (by first | omega | (dsimp only; omega)))
theorem Q_MO_growsOnce_b177 (x1 : Int32) (x2 : Int64) (x4 : Int64) (x8 : Bool) (z : Int64 × Int32 × Mem) : wlO (F_MO_growsOnce_b177 x1 x2 x4 x8 z) (fun r => (match r with | .inl s => Frm (fun k j => k = 119 ∨ k = 120) z.2.2 s.2.2 | .inr r => Frm (fun k j => k = 119 ∨ k = 120) z.2.2 r.2)) := by
  unfold F_MO_growsOnce_b177
  refine wl_if (fun _ => ?_) (fun _ => ?_)
  · exact wl_some Frm.rf
  · refine wl_any (fun r2 => ?_)
    refine wl_if (fun _ => ?_) (fun _ => ?_)
    · refine wl_mono (Q_MO_growsOnce_j216 x1 x2 x4 z.1 x8 z.2.1 z.2.1 ((-1)) z.2.2) (fun ro ho => ?_)
      rcases ro with s1 | s1
      · exact (Frm.rf).tr (Frm.mono ho (fun k j hk => by first | omega | exact hk.elim | (dsimp only at hk ⊢; omega)))
      · exact (Frm.rf).tr (Frm.mono ho (fun k j hk => by first | omega | exact hk.elim | (dsimp only at hk ⊢; omega)))
    · refine wl_if (fun _ => ?_) (fun _ => wl_none)
      refine wl_if (fun _ => ?_) (fun _ => wl_none)
      refine wl_mono (Q_MO_growsOnce_j216 x1 x2 x4 z.1 x8 z.2.1 z.2.1 (lrm (x4 * (z.2.2.2 119 z.2.1.toNatClampNeg)) x2) z.2.2) (fun ro ho => ?_)
      rcases ro with s2 | s2
      · exact (Frm.rf).tr (Frm.mono ho (fun k j hk => by first | omega | exact hk.elim | (dsimp only at hk ⊢; omega)))
      · exact (Frm.rf).tr (Frm.mono ho (fun k j hk => by first | omega | exact hk.elim | (dsimp only at hk ⊢; omega)))
theorem Q_MO_growsOnce_l177 (x1 : Int32) (x2 : Int64) (x4 : Int64) (x6 : Int64) (x8 : Bool) (x9 : Int32) (M : Mem) : wlO (F_MO_growsOnce_l177 x1 x2 x4 x6 x8 x9 M) (fun r => Frm (fun k j => k = 95 ∨ k = 119 ∨ k = 120) M r.2) := by
  unfold F_MO_growsOnce_l177
  refine wl_bind (Ψ := fun r => Frm (fun k j => k = 95 ∨ k = 119 ∨ k = 120) M r.2) (wl_iter (P := fun w9 => Frm (fun k j => k = 95 ∨ k = 119 ∨ k = 120) M w9.2.2) (fun w9 hz => wl_mono (Q_MO_growsOnce_b177 x1 x2 x4 x8 w9) (fun x hx => ?_)) FUEL (x6, x9, M) (Frm.rf)) (fun r hr => ?_)
  · rcases x with x | x
    · exact hz.tr (Frm.mono hx (fun k j hk => by first | omega | exact hk.elim | (dsimp only at hk ⊢; omega)))
    · exact (hz).tr (Frm.mono hx (fun k j hk => by first | omega | exact hk.elim | (dsimp only at hk ⊢; omega)))
  refine wl_mono (Q_MO_growsOnce_l254 x1 r.1 x8 r.2) (fun ro ho => ?_)
  exact (hr).tr (Frm.mono ho (fun k j hk => by first | omega | exact hk.elim | (dsimp only at hk ⊢; omega)))
theorem Q_MO_growsOnce_j159 (x1 : Int32) (x2 : Int64) (x4 : Int64) (M : Mem) : wlO (F_MO_growsOnce_j159 x1 x2 x4 M) (fun r => Frm (fun k j => k = 95 ∨ k = 119 ∨ k = 120) M r.2) := by
  unfold F_MO_growsOnce_j159
  refine wl_if (fun _ => ?_) (fun _ => ?_)
  · exact wl_some Frm.rf
  · refine wl_mono (Q_MO_growsOnce_l177 x1 x2 x4 x4 false 0 M) (fun ro ho => ?_)
    exact (Frm.rf).tr (Frm.mono ho (fun k j hk => by first | omega | exact hk.elim | (dsimp only at hk ⊢; omega)))
theorem Q_MO_growsOnce_j104 (x1 : Int32) (x2 : Int64) (x4 : Int64) (x6 : Int32) (x7 : Int64) (M : Mem) : wlO (F_MO_growsOnce_j104 x1 x2 x4 x6 x7 M) (fun r => (match r with | .inl s => Frm (fun k j => k = 119) M s.2.2.2 | .inr r => Frm (fun k j => k = 119) M r.2.2)) := by
  unfold F_MO_growsOnce_j104
  refine wl_if (fun _ => ?_) (fun _ => wl_none)
  refine wl_if (fun _ => ?_) (fun _ => wl_none)
  refine wl_if (fun _ => ?_) (fun _ => wl_none)
  refine wl_if (fun _ => ?_) (fun _ => wl_none)
  exact wl_some ((Frm.rf).sL (by first | omega | (dsimp only; omega)))
theorem Q_MO_growsOnce_l47 (x1 : Int32) (x2 : Int64) (x4 : Int64) (x6 : Int32) (x7 : Int64) (x9 : Int32) (M : Mem) : wlO (F_MO_growsOnce_l47 x1 x2 x4 x6 x7 x9 M) (fun r => (match r with | .inl s => Frm (fun k j => k = 119) M s.2.2.2 | .inr r => Frm (fun k j => k = 119) M r.2.2)) := by
  unfold F_MO_growsOnce_l47
  refine wl_any (fun r => ?_)
  refine wl_mono (Q_MO_growsOnce_j104 x1 x2 x4 x6 r M) (fun ro ho => ?_)
  rcases ro with s1 | s1
  · exact (Frm.rf).tr (Frm.mono ho (fun k j hk => by first | omega | exact hk.elim | (dsimp only at hk ⊢; omega)))
  · exact (Frm.rf).tr (Frm.mono ho (fun k j hk => by first | omega | exact hk.elim | (dsimp only at hk ⊢; omega)))
theorem Q_MO_growsOnce_b15 (x1 : Int32) (z : Int64 × Int64 × Int32 × Mem) : wlO (F_MO_growsOnce_b15 x1 z) (fun r => (match r with | .inl s => Frm (fun k j => k = 119) z.2.2.2 s.2.2.2 | .inr r => Frm (fun k j => k = 119) z.2.2.2 r.2.2)) := by
  unfold F_MO_growsOnce_b15
  refine wl_if (fun _ => ?_) (fun _ => ?_)
  · exact wl_some Frm.rf
  · refine wl_if (fun _ => ?_) (fun _ => wl_none)
    refine wl_any (fun r3 => ?_)
    refine wl_if (fun _ => ?_) (fun _ => ?_)
    · exact wl_some ((Frm.rf).sL (by first | omega | (dsimp only; omega)))
    · refine wl_mono (Q_MO_growsOnce_l47 x1 z.1 z.2.1 z.2.2.1 0 0 (mSL z.2.2.2 119 z.2.2.1.toNatClampNeg 0)) (fun ro ho => ?_)
      rcases ro with s1 | s1
      · exact (((Frm.rf).sL (by first | omega | (dsimp only; omega)))).tr (Frm.mono ho (fun k j hk => by first | omega | exact hk.elim | (dsimp only at hk ⊢; omega)))
      · exact (((Frm.rf).sL (by first | omega | (dsimp only; omega)))).tr (Frm.mono ho (fun k j hk => by first | omega | exact hk.elim | (dsimp only at hk ⊢; omega)))
theorem Q_MO_growsOnce_l15 (x1 : Int32) (x2 : Int64) (x4 : Int64) (x6 : Int32) (M : Mem) : wlO (F_MO_growsOnce_l15 x1 x2 x4 x6 M) (fun r => Frm (fun k j => k = 95 ∨ k = 119 ∨ k = 120) M r.2) := by
  unfold F_MO_growsOnce_l15
  refine wl_bind (Ψ := fun r => Frm (fun k j => k = 95 ∨ k = 119 ∨ k = 120) M r.2.2) (wl_iter (P := fun w9 => Frm (fun k j => k = 95 ∨ k = 119 ∨ k = 120) M w9.2.2.2) (fun w9 hz => wl_mono (Q_MO_growsOnce_b15 x1 w9) (fun x hx => ?_)) FUEL (x2, x4, x6, M) (Frm.rf)) (fun r hr => ?_)
  · rcases x with x | x
    · exact hz.tr (Frm.mono hx (fun k j hk => by first | omega | exact hk.elim | (dsimp only at hk ⊢; omega)))
    · exact (hz).tr (Frm.mono hx (fun k j hk => by first | omega | exact hk.elim | (dsimp only at hk ⊢; omega)))
  refine wl_mono (Q_MO_growsOnce_j159 x1 r.1 r.2.1 r.2.2) (fun ro ho => ?_)
  exact (hr).tr (Frm.mono ho (fun k j hk => by first | omega | exact hk.elim | (dsimp only at hk ⊢; omega)))
theorem Q_MO_growsOnce (M : Mem) : wlO (F_MO_growsOnce M) (fun r => Frm (fun k j => k = 95 ∨ k = 119 ∨ k = 120) M r.2) := by
  unfold F_MO_growsOnce
  refine wl_if (fun _ => ?_) (fun _ => wl_none)
  refine wl_mono (Q_MO_growsOnce_l15 (M.1 95 ((5 : Int32)).toNatClampNeg) 0 0 0 M) (fun ro ho => ?_)
  exact (Frm.rf).tr (Frm.mono ho (fun k j hk => by first | omega | exact hk.elim | (dsimp only at hk ⊢; omega)))
theorem Q_MO_grow_b96 (x1 : Int32) (z : Int32 × Int32 × Mem) : wlO (F_MO_grow_b96 x1 z) (fun r => (match r with | .inl s => Frm (fun k j => k = 95 ∨ k = 119 ∨ k = 120) z.2.2 s.2.2 | .inr r => Frm (fun k j => k = 95 ∨ k = 119 ∨ k = 120) z.2.2 r.2)) := by
  unfold F_MO_grow_b96
  refine wl_if (fun _ => ?_) (fun _ => ?_)
  · exact wl_some Frm.rf
  · refine wl_bind (Q_MO_growsOnce z.2.2) (fun r3 hr3 => ?_)
    have mr3 : Frm (fun k j => k = 95 ∨ k = 119 ∨ k = 120) z.2.2 r3.2 := (Frm.rf).tr (Frm.mono hr3 (fun k j hk => by first | omega | exact hk.elim | (dsimp only at hk ⊢; omega)))
    refine wl_if (fun _ => ?_) (fun _ => ?_)
    · exact wl_some mr3
    · exact wl_some mr3
theorem Q_MO_grow_l96 (x1 : Int32) (x2 : Int32) (x3 : Int32) (M : Mem) : wlO (F_MO_grow_l96 x1 x2 x3 M) (fun r => Frm (fun k j => k = 95 ∨ k = 119 ∨ k = 120) M r.2) := by
  unfold F_MO_grow_l96
  refine wl_bind (Ψ := fun r => Frm (fun k j => k = 95 ∨ k = 119 ∨ k = 120) M r.2) (wl_iter (P := fun w9 => Frm (fun k j => k = 95 ∨ k = 119 ∨ k = 120) M w9.2.2) (fun w9 hz => wl_mono (Q_MO_grow_b96 x1 w9) (fun x hx => ?_)) FUEL (x2, x3, M) (Frm.rf)) (fun r hr => ?_)
  · rcases x with x | x
    · exact hz.tr (Frm.mono hx (fun k j hk => by first | omega | exact hk.elim | (dsimp only at hk ⊢; omega)))
    · exact (hz).tr (Frm.mono hx (fun k j hk => by first | omega | exact hk.elim | (dsimp only at hk ⊢; omega)))
  exact wl_some hr
theorem Q_MO_grow_b44 (x1 : Int32) (x2 : Int32) (z : Int32 × Mem) : wlO (F_MO_grow_b44 x1 x2 z) (fun r => (match r with | .inl s => Frm (fun k j => k = 118) z.2 s.2 | .inr r => Frm (fun k j => k = 118) z.2 r)) := by
  unfold F_MO_grow_b44
  refine wl_if (fun _ => ?_) (fun _ => wl_none)
  refine wl_if (fun _ => ?_) (fun _ => ?_)
  · exact wl_some Frm.rf
  · refine wl_any (fun r4 => ?_)
    refine wl_if (fun _ => ?_) (fun _ => ?_)
    · exact wl_some Frm.rf
    · refine wl_any (fun r5 => ?_)
      refine wl_if (fun _ => ?_) (fun _ => wl_none)
      exact wl_some ((Frm.rf).sI (by first | omega | (dsimp only; omega)))
theorem Q_MO_grow_l44 (x1 : Int32) (x2 : Int32) (x3 : Int32) (M : Mem) : wlO (F_MO_grow_l44 x1 x2 x3 M) (fun r => (match r with | .inl s => Frm (fun k j => k = 118) M s.2 | .inr r => Frm (fun k j => k = 118) M r)) := by
  unfold F_MO_grow_l44
  refine wl_bind (Ψ := fun r => Frm (fun k j => k = 118) M r) (wl_iter (P := fun w9 => Frm (fun k j => k = 118) M w9.2) (fun w9 hz => wl_mono (Q_MO_grow_b44 x1 x2 w9) (fun x hx => ?_)) FUEL (x3, M) (Frm.rf)) (fun r hr => ?_)
  · rcases x with x | x
    · exact hz.tr (Frm.mono hx (fun k j hk => by first | omega | exact hk.elim | (dsimp only at hk ⊢; omega)))
    · exact (hz).tr (Frm.mono hx (fun k j hk => by first | omega | exact hk.elim | (dsimp only at hk ⊢; omega)))
  exact wl_some hr
theorem Q_MO_grow_b32 (x1 : Int32) (z : Int32 × Mem) : wlO (F_MO_grow_b32 x1 z) (fun r => (match r with | .inl s => Frm (fun k j => k = 118) z.2 s.2 | .inr r => Frm (fun k j => k = 118) z.2 r)) := by
  unfold F_MO_grow_b32
  refine wl_if (fun _ => ?_) (fun _ => wl_none)
  refine wl_if (fun _ => ?_) (fun _ => ?_)
  · exact wl_some Frm.rf
  · refine wl_mono (Q_MO_grow_l44 x1 z.1 0 z.2) (fun ro ho => ?_)
    rcases ro with s1 | s1
    · exact (Frm.rf).tr (Frm.mono ho (fun k j hk => by first | omega | exact hk.elim | (dsimp only at hk ⊢; omega)))
    · exact (Frm.rf).tr (Frm.mono ho (fun k j hk => by first | omega | exact hk.elim | (dsimp only at hk ⊢; omega)))
theorem Q_MO_grow_l32 (x1 : Int32) (x2 : Int32) (M : Mem) : wlO (F_MO_grow_l32 x1 x2 M) (fun r => Frm (fun k j => k = 95 ∨ k = 118 ∨ k = 119 ∨ k = 120) M r.2) := by
  unfold F_MO_grow_l32
  refine wl_bind (Ψ := fun r => Frm (fun k j => k = 95 ∨ k = 118 ∨ k = 119 ∨ k = 120) M r) (wl_iter (P := fun w9 => Frm (fun k j => k = 95 ∨ k = 118 ∨ k = 119 ∨ k = 120) M w9.2) (fun w9 hz => wl_mono (Q_MO_grow_b32 x1 w9) (fun x hx => ?_)) FUEL (x2, M) (Frm.rf)) (fun r hr => ?_)
  · rcases x with x | x
    · exact hz.tr (Frm.mono hx (fun k j hk => by first | omega | exact hk.elim | (dsimp only at hk ⊢; omega)))
    · exact (hz).tr (Frm.mono hx (fun k j hk => by first | omega | exact hk.elim | (dsimp only at hk ⊢; omega)))
  refine wl_mono (Q_MO_grow_l96 x1 0 0 r) (fun ro ho => ?_)
  exact (hr).tr (Frm.mono ho (fun k j hk => by first | omega | exact hk.elim | (dsimp only at hk ⊢; omega)))
theorem Q_MO_grow_j21 (x1 : Int32) (s1 : Bool) (M : Mem) : wlO (F_MO_grow_j21 x1 s1 M) (fun r => Frm (fun k j => (k = 94 ∧ j = 0) ∨ k = 95 ∨ k = 118 ∨ k = 119 ∨ k = 120) M r.2) := by
  unfold F_MO_grow_j21
  refine wl_bind (Q_MO_throwsIf ((b2i s1)) 1 M) (fun r2 hr2 => ?_)
  have mr2 : Frm (fun k j => (k = 94 ∧ j = 0) ∨ k = 95 ∨ k = 118 ∨ k = 119 ∨ k = 120) M r2.2 := (Frm.rf).tr (Frm.mono hr2 (fun k j hk => by first | omega | exact hk.elim | (dsimp only at hk ⊢; omega)))
  refine wl_if (fun _ => ?_) (fun _ => ?_)
  · exact wl_some mr2
  · refine wl_mono (Q_MO_grow_l32 x1 0 r2.2) (fun ro ho => ?_)
    exact (mr2).tr (Frm.mono ho (fun k j hk => by first | omega | exact hk.elim | (dsimp only at hk ⊢; omega)))
theorem Q_MO_grow (x1 : Int32) (M : Mem) : wlO (F_MO_grow x1 M) (fun r => Frm (fun k j => (k = 94 ∧ j = 0) ∨ k = 95 ∨ k = 118 ∨ k = 119 ∨ k = 120) M r.2) := by
  unfold F_MO_grow
  refine wl_any (fun r1 => ?_)
  refine wl_if (fun _ => ?_) (fun _ => ?_)
  · refine wl_mono (Q_MO_grow_j21 x1 false (mSI M 94 0 0)) (fun ro ho => ?_)
    exact (((Frm.rf).sI (by first | omega | (dsimp only; omega)))).tr (Frm.mono ho (fun k j hk => by first | omega | exact hk.elim | (dsimp only at hk ⊢; omega)))
  · refine wl_mono (Q_MO_grow_j21 x1 true (mSI M 94 0 0)) (fun ro ho => ?_)
    exact (((Frm.rf).sI (by first | omega | (dsimp only; omega)))).tr (Frm.mono ho (fun k j hk => by first | omega | exact hk.elim | (dsimp only at hk ⊢; omega)))
theorem Q_MO_beings (x1 : Int32) (M : Mem) : wlO (F_MO_beings x1 M) (fun r => Frm (fun k j => (k = 94 ∧ j = 0)) M r.2) := by
  unfold F_MO_beings
  refine wl_any (fun r1 => ?_)
  refine wl_bind (Q_MO_throwsIf ((b2i r1)) 1 (mSI M 94 0 0)) (fun r2 hr2 => ?_)
  have mr2 : Frm (fun k j => (k = 94 ∧ j = 0)) M r2.2 := (((Frm.rf).sI (by first | omega | (dsimp only; omega)))).tr (Frm.mono hr2 (fun k j hk => by first | omega | exact hk.elim | (dsimp only at hk ⊢; omega)))
  refine wl_if (fun _ => ?_) (fun _ => ?_)
  · exact wl_some mr2
  · refine wl_if (fun _ => ?_) (fun _ => wl_none)
    exact wl_some mr2
theorem Q_MO_stays_l37 (x1 : Int32) (x2 : Bool) (x3 : Int32) (M : Mem) : wlO (F_MO_stays_l37 x1 x2 x3 M) (fun r => Frm (fun k j => False) M r.2) := by
  unfold F_MO_stays_l37
  refine wl_any (fun r => ?_)
  exact wl_some Frm.rf
theorem Q_MO_stays (x1 : Int32) (M : Mem) : wlO (F_MO_stays x1 M) (fun r => Frm (fun k j => (k = 94 ∧ j = 0)) M r.2) := by
  unfold F_MO_stays
  refine wl_any (fun r1 => ?_)
  refine wl_bind (Q_MO_throwsIf ((b2i r1)) 1 (mSI M 94 0 0)) (fun r2 hr2 => ?_)
  have mr2 : Frm (fun k j => (k = 94 ∧ j = 0)) M r2.2 := (((Frm.rf).sI (by first | omega | (dsimp only; omega)))).tr (Frm.mono hr2 (fun k j hk => by first | omega | exact hk.elim | (dsimp only at hk ⊢; omega)))
  refine wl_if (fun _ => ?_) (fun _ => ?_)
  · exact wl_some mr2
  · refine wl_any (fun r3 => ?_)
    refine wl_bind (Q_MO_throwsIf ((b2i r3)) 2 r2.2) (fun r4 hr4 => ?_)
    have mr4 : Frm (fun k j => (k = 94 ∧ j = 0)) M r4.2 := (mr2).tr (Frm.mono hr4 (fun k j hk => by first | omega | exact hk.elim | (dsimp only at hk ⊢; omega)))
    refine wl_if (fun _ => ?_) (fun _ => ?_)
    · exact wl_some mr4
    · refine wl_mono (Q_MO_stays_l37 x1 true 0 r4.2) (fun ro ho => ?_)
      exact (mr4).tr (Frm.mono ho (fun k j hk => by first | omega | exact hk.elim | (dsimp only at hk ⊢; omega)))
theorem Q_MO_lays_j75 (x1 : Int32) (x2 : Int32) (x3 : Int32) (M : Mem) : wlO (F_MO_lays_j75 x1 x2 x3 M) (fun r => (match r with | .inl s => Frm (fun k j => k = 95) M s.2 | .inr r => Frm (fun k j => k = 95) M r)) := by
  unfold F_MO_lays_j75
  refine wl_if (fun _ => ?_) (fun _ => wl_none)
  exact wl_some ((Frm.rf).sI (by first | omega | (dsimp only; omega)))
theorem Q_MO_lays_b36 (x1 : Int32) (x2 : Int32) (x3 : Int32) (z : Int32 × Mem) : wlO (F_MO_lays_b36 x1 x2 x3 z) (fun r => (match r with | .inl s => Frm (fun k j => k = 95) z.2 s.2 | .inr r => Frm (fun k j => k = 95) z.2 r)) := by
  unfold F_MO_lays_b36
  refine wl_if (fun _ => ?_) (fun _ => ?_)
  · exact wl_some Frm.rf
  · refine wl_if (fun _ => ?_) (fun _ => wl_none)
    exact wl_some ((Frm.rf).sI (by first | omega | (dsimp only; omega)))
theorem Q_MO_lays_l36 (x1 : Int32) (x2 : Int32) (x3 : Int32) (x4 : Int32) (M : Mem) : wlO (F_MO_lays_l36 x1 x2 x3 x4 M) (fun r => (match r with | .inl s => Frm (fun k j => k = 95) M s.2 | .inr r => Frm (fun k j => k = 95) M r)) := by
  unfold F_MO_lays_l36
  refine wl_bind (Ψ := fun r => Frm (fun k j => k = 95) M r) (wl_iter (P := fun w9 => Frm (fun k j => k = 95) M w9.2) (fun w9 hz => wl_mono (Q_MO_lays_b36 x1 x2 x3 w9) (fun x hx => ?_)) FUEL (x4, M) (Frm.rf)) (fun r hr => ?_)
  · rcases x with x | x
    · exact hz.tr (Frm.mono hx (fun k j hk => by first | omega | exact hk.elim | (dsimp only at hk ⊢; omega)))
    · exact (hz).tr (Frm.mono hx (fun k j hk => by first | omega | exact hk.elim | (dsimp only at hk ⊢; omega)))
  refine wl_mono (Q_MO_lays_j75 x1 x2 x3 r) (fun ro ho => ?_)
  rcases ro with s1 | s1
  · exact (hr).tr (Frm.mono ho (fun k j hk => by first | omega | exact hk.elim | (dsimp only at hk ⊢; omega)))
  · exact (hr).tr (Frm.mono ho (fun k j hk => by first | omega | exact hk.elim | (dsimp only at hk ⊢; omega)))
theorem Q_MO_lays_b13 (x1 : Int32) (x2 : Int32) (z : Int32 × Mem) : wlO (F_MO_lays_b13 x1 x2 z) (fun r => (match r with | .inl s => Frm (fun k j => k = 95) z.2 s.2 | .inr r => Frm (fun k j => k = 95) z.2 r)) := by
  unfold F_MO_lays_b13
  refine wl_if (fun _ => ?_) (fun _ => ?_)
  · exact wl_some Frm.rf
  · refine wl_if (fun _ => ?_) (fun _ => wl_none)
    refine wl_mono (Q_MO_lays_l36 x1 x2 z.1 0 (mSI z.2 95 ((x2 + 1) + z.1).toNatClampNeg ((x1 >>> (z.1 &&& 31)) &&& 1))) (fun ro ho => ?_)
    rcases ro with s1 | s1
    · exact (((Frm.rf).sI (by first | omega | (dsimp only; omega)))).tr (Frm.mono ho (fun k j hk => by first | omega | exact hk.elim | (dsimp only at hk ⊢; omega)))
    · exact (((Frm.rf).sI (by first | omega | (dsimp only; omega)))).tr (Frm.mono ho (fun k j hk => by first | omega | exact hk.elim | (dsimp only at hk ⊢; omega)))
theorem Q_MO_lays_l13 (x1 : Int32) (x2 : Int32) (x3 : Int32) (M : Mem) : wlO (F_MO_lays_l13 x1 x2 x3 M) (fun r => Frm (fun k j => k = 95) M r) := by
  unfold F_MO_lays_l13
  refine wl_bind (Ψ := fun r => Frm (fun k j => k = 95) M r) (wl_iter (P := fun w9 => Frm (fun k j => k = 95) M w9.2) (fun w9 hz => wl_mono (Q_MO_lays_b13 x1 x2 w9) (fun x hx => ?_)) FUEL (x3, M) (Frm.rf)) (fun r hr => ?_)
  · rcases x with x | x
    · exact hz.tr (Frm.mono hx (fun k j hk => by first | omega | exact hk.elim | (dsimp only at hk ⊢; omega)))
    · exact (hz).tr (Frm.mono hx (fun k j hk => by first | omega | exact hk.elim | (dsimp only at hk ⊢; omega)))
  exact wl_some hr
theorem Q_MO_lays (x1 : Int32) (M : Mem) : wlO (F_MO_lays x1 M) (fun r => Frm (fun k j => k = 95) M r) := by
  unfold F_MO_lays
  refine wl_if (fun _ => ?_) (fun _ => wl_none)
  refine wl_mono (Q_MO_lays_l13 x1 131 0 (mSI M 95 ((131 : Int32)).toNatClampNeg 2)) (fun ro ho => ?_)
  exact (((Frm.rf).sI (by first | omega | (dsimp only; omega)))).tr (Frm.mono ho (fun k j hk => by first | omega | exact hk.elim | (dsimp only at hk ⊢; omega)))
theorem Q_MO_all_j165 (x2 : Int32) (x3 : Int32) (x4 : Int32) (x5 : Int32) (x6 : Int32) (M : Mem) : wlO (F_MO_all_j165 x2 x3 x4 x5 x6 M) (fun r => Frm (fun k j => False) M r.2) := by
  unfold F_MO_all_j165
  refine wl_if (fun _ => ?_) (fun _ => ?_)
  · exact wl_some Frm.rf
  · refine wl_if (fun _ => ?_) (fun _ => ?_)
    · exact wl_some Frm.rf
    · refine wl_if (fun _ => ?_) (fun _ => ?_)
      · exact wl_some Frm.rf
      · exact wl_some Frm.rf
theorem Q_MO_all_j120 (x1 : Int32) (x2 : Int32) (x3 : Int32) (x4 : Int32) (x5 : Int32) (x6 : Int32) (x7 : Int32) (M : Mem) : wlO (F_MO_all_j120 x1 x2 x3 x4 x5 x6 x7 M) (fun r => (match r with | .inl s => Frm (fun k j => False) M s.2.2.2.2.2 | .inr r => Frm (fun k j => False) M r.2.2.2.2)) := by
  unfold F_MO_all_j120
  refine wl_if (fun _ => ?_) (fun _ => wl_none)
  refine wl_if (fun _ => ?_) (fun _ => wl_none)
  refine wl_if (fun _ => ?_) (fun _ => ?_)
  · refine wl_if (fun _ => ?_) (fun _ => wl_none)
    refine wl_if (fun _ => ?_) (fun _ => wl_none)
    refine wl_if (fun _ => ?_) (fun _ => ?_)
    · exact wl_some Frm.rf
    · exact wl_some Frm.rf
  · exact wl_some Frm.rf
theorem Q_MO_all_b92 (x1 : Int32) (x2 : Int32) (z : Int32 × Int32 × Int32 × Int32 × Int32 × Mem) : wlO (F_MO_all_b92 x1 x2 z) (fun r => (match r with | .inl s => Frm (fun k j => (k = 94 ∧ (j = 15 ∨ j = 16)) ∨ k = 95 ∨ k = 102 ∨ k = 103 ∨ k = 104 ∨ k = 105) z.2.2.2.2.2 s.2.2.2.2.2 | .inr r => Frm (fun k j => (k = 94 ∧ (j = 15 ∨ j = 16)) ∨ k = 95 ∨ k = 102 ∨ k = 103 ∨ k = 104 ∨ k = 105) z.2.2.2.2.2 r.2.2.2.2)) := by
  unfold F_MO_all_b92
  refine wl_if (fun _ => ?_) (fun _ => ?_)
  · exact wl_some Frm.rf
  · refine wl_bind (Q_MO_lays z.2.2.2.2.1 z.2.2.2.2.2) (fun r8 hr8 => ?_)
    have mr8 : Frm (fun k j => (k = 94 ∧ (j = 15 ∨ j = 16)) ∨ k = 95 ∨ k = 102 ∨ k = 103 ∨ k = 104 ∨ k = 105) z.2.2.2.2.2 r8 := (Frm.rf).tr (Frm.mono hr8 (fun k j hk => by first | omega | exact hk.elim | (dsimp only at hk ⊢; omega)))
    refine wl_bind (Q_MO_firstOf x1 8 r8) (fun r9 hr9 => ?_)
    have mr9 : Frm (fun k j => (k = 94 ∧ (j = 15 ∨ j = 16)) ∨ k = 95 ∨ k = 102 ∨ k = 103 ∨ k = 104 ∨ k = 105) z.2.2.2.2.2 r9.2 := (mr8).tr (Frm.mono hr9 (fun k j hk => by first | omega | exact hk.elim | (dsimp only at hk ⊢; omega)))
    refine wl_if (fun _ => ?_) (fun _ => ?_)
    · refine wl_mono (Q_MO_all_j120 x1 x2 z.1 z.2.1 z.2.2.1 z.2.2.2.1 z.2.2.2.2.1 r9.2) (fun ro ho => ?_)
      rcases ro with s1 | s1
      · exact (mr9).tr (Frm.mono ho (fun k j hk => by first | omega | exact hk.elim | (dsimp only at hk ⊢; omega)))
      · exact (mr9).tr (Frm.mono ho (fun k j hk => by first | omega | exact hk.elim | (dsimp only at hk ⊢; omega)))
    · refine wl_mono (Q_MO_all_j120 x1 x2 (z.1 + 1) z.2.1 z.2.2.1 z.2.2.2.2.1 z.2.2.2.2.1 r9.2) (fun ro ho => ?_)
      rcases ro with s2 | s2
      · exact (mr9).tr (Frm.mono ho (fun k j hk => by first | omega | exact hk.elim | (dsimp only at hk ⊢; omega)))
      · exact (mr9).tr (Frm.mono ho (fun k j hk => by first | omega | exact hk.elim | (dsimp only at hk ⊢; omega)))
theorem Q_MO_all_l92 (x1 : Int32) (x2 : Int32) (x3 : Int32) (x4 : Int32) (x5 : Int32) (x6 : Int32) (x7 : Int32) (M : Mem) : wlO (F_MO_all_l92 x1 x2 x3 x4 x5 x6 x7 M) (fun r => Frm (fun k j => (k = 94 ∧ (j = 15 ∨ j = 16)) ∨ k = 95 ∨ k = 102 ∨ k = 103 ∨ k = 104 ∨ k = 105) M r.2) := by
  unfold F_MO_all_l92
  refine wl_bind (Ψ := fun r => Frm (fun k j => (k = 94 ∧ (j = 15 ∨ j = 16)) ∨ k = 95 ∨ k = 102 ∨ k = 103 ∨ k = 104 ∨ k = 105) M r.2.2.2.2) (wl_iter (P := fun w9 => Frm (fun k j => (k = 94 ∧ (j = 15 ∨ j = 16)) ∨ k = 95 ∨ k = 102 ∨ k = 103 ∨ k = 104 ∨ k = 105) M w9.2.2.2.2.2) (fun w9 hz => wl_mono (Q_MO_all_b92 x1 x2 w9) (fun x hx => ?_)) FUEL (x3, x4, x5, x6, x7, M) (Frm.rf)) (fun r hr => ?_)
  · rcases x with x | x
    · exact hz.tr (Frm.mono hx (fun k j hk => by first | omega | exact hk.elim | (dsimp only at hk ⊢; omega)))
    · exact (hz).tr (Frm.mono hx (fun k j hk => by first | omega | exact hk.elim | (dsimp only at hk ⊢; omega)))
  refine wl_mono (Q_MO_all_j165 x2 r.1 r.2.1 r.2.2.1 r.2.2.2.1 r.2.2.2.2) (fun ro ho => ?_)
  exact (hr).tr (Frm.mono ho (fun k j hk => by first | omega | exact hk.elim | (dsimp only at hk ⊢; omega)))
theorem Q_MO_all_j62 (x1 : Int32) (x2 : Int32) (s1 : Bool) (M : Mem) : wlO (F_MO_all_j62 x1 x2 s1 M) (fun r => Frm (fun k j => (k = 94 ∧ (j = 0 ∨ j = 15 ∨ j = 16 ∨ j = 19 ∨ j = 20)) ∨ k = 95 ∨ k = 102 ∨ k = 103 ∨ k = 104 ∨ k = 105 ∨ k = 106 ∨ k = 107 ∨ k = 108 ∨ k = 109) M r.2) := by
  unfold F_MO_all_j62
  refine wl_bind (Q_MO_throwsIf ((b2i s1)) 3 M) (fun r6 hr6 => ?_)
  have mr6 : Frm (fun k j => (k = 94 ∧ (j = 0 ∨ j = 15 ∨ j = 16 ∨ j = 19 ∨ j = 20)) ∨ k = 95 ∨ k = 102 ∨ k = 103 ∨ k = 104 ∨ k = 105 ∨ k = 106 ∨ k = 107 ∨ k = 108 ∨ k = 109) M r6.2 := (Frm.rf).tr (Frm.mono hr6 (fun k j hk => by first | omega | exact hk.elim | (dsimp only at hk ⊢; omega)))
  refine wl_if (fun _ => ?_) (fun _ => ?_)
  · exact wl_some mr6
  · refine wl_bind (Q_MO_answers 1 x1 r6.2) (fun r7 hr7 => ?_)
    have mr7 : Frm (fun k j => (k = 94 ∧ (j = 0 ∨ j = 15 ∨ j = 16 ∨ j = 19 ∨ j = 20)) ∨ k = 95 ∨ k = 102 ∨ k = 103 ∨ k = 104 ∨ k = 105 ∨ k = 106 ∨ k = 107 ∨ k = 108 ∨ k = 109) M r7 := (mr6).tr (Frm.mono hr7 (fun k j hk => by first | omega | exact hk.elim | (dsimp only at hk ⊢; omega)))
    refine wl_mono (Q_MO_all_l92 x1 x2 0 0 ((-1)) ((-1)) 63 r7) (fun ro ho => ?_)
    exact (mr7).tr (Frm.mono ho (fun k j hk => by first | omega | exact hk.elim | (dsimp only at hk ⊢; omega)))
theorem Q_MO_all_j40 (x1 : Int32) (x2 : Int32) (s1 : Bool) (M : Mem) : wlO (F_MO_all_j40 x1 x2 s1 M) (fun r => Frm (fun k j => (k = 94 ∧ (j = 0 ∨ j = 15 ∨ j = 16 ∨ j = 19 ∨ j = 20)) ∨ k = 95 ∨ k = 102 ∨ k = 103 ∨ k = 104 ∨ k = 105 ∨ k = 106 ∨ k = 107 ∨ k = 108 ∨ k = 109) M r.2) := by
  unfold F_MO_all_j40
  refine wl_bind (Q_MO_throwsIf ((b2i s1)) 2 M) (fun r4 hr4 => ?_)
  have mr4 : Frm (fun k j => (k = 94 ∧ (j = 0 ∨ j = 15 ∨ j = 16 ∨ j = 19 ∨ j = 20)) ∨ k = 95 ∨ k = 102 ∨ k = 103 ∨ k = 104 ∨ k = 105 ∨ k = 106 ∨ k = 107 ∨ k = 108 ∨ k = 109) M r4.2 := (Frm.rf).tr (Frm.mono hr4 (fun k j hk => by first | omega | exact hk.elim | (dsimp only at hk ⊢; omega)))
  refine wl_if (fun _ => ?_) (fun _ => ?_)
  · exact wl_some mr4
  · refine wl_any (fun r5 => ?_)
    refine wl_if (fun _ => ?_) (fun _ => ?_)
    · refine wl_mono (Q_MO_all_j62 x1 x2 false r4.2) (fun ro ho => ?_)
      exact (mr4).tr (Frm.mono ho (fun k j hk => by first | omega | exact hk.elim | (dsimp only at hk ⊢; omega)))
    · refine wl_mono (Q_MO_all_j62 x1 x2 true r4.2) (fun ro ho => ?_)
      exact (mr4).tr (Frm.mono ho (fun k j hk => by first | omega | exact hk.elim | (dsimp only at hk ⊢; omega)))
theorem Q_MO_all (x1 : Int32) (x2 : Int32) (M : Mem) : wlO (F_MO_all x1 x2 M) (fun r => Frm (fun k j => (k = 94 ∧ (j = 0 ∨ j = 15 ∨ j = 16 ∨ j = 19 ∨ j = 20)) ∨ k = 95 ∨ k = 102 ∨ k = 103 ∨ k = 104 ∨ k = 105 ∨ k = 106 ∨ k = 107 ∨ k = 108 ∨ k = 109) M r.2) := by
  unfold F_MO_all
  refine wl_any (fun r1 => ?_)
  refine wl_bind (Q_MO_throwsIf ((b2i r1)) 1 (mSI M 94 0 0)) (fun r2 hr2 => ?_)
  have mr2 : Frm (fun k j => (k = 94 ∧ (j = 0 ∨ j = 15 ∨ j = 16 ∨ j = 19 ∨ j = 20)) ∨ k = 95 ∨ k = 102 ∨ k = 103 ∨ k = 104 ∨ k = 105 ∨ k = 106 ∨ k = 107 ∨ k = 108 ∨ k = 109) M r2.2 := (((Frm.rf).sI (by first | omega | (dsimp only; omega)))).tr (Frm.mono hr2 (fun k j hk => by first | omega | exact hk.elim | (dsimp only at hk ⊢; omega)))
  refine wl_if (fun _ => ?_) (fun _ => ?_)
  · exact wl_some mr2
  · refine wl_any (fun r3 => ?_)
    refine wl_if (fun _ => ?_) (fun _ => ?_)
    · refine wl_mono (Q_MO_all_j40 x1 x2 true r2.2) (fun ro ho => ?_)
      exact (mr2).tr (Frm.mono ho (fun k j hk => by first | omega | exact hk.elim | (dsimp only at hk ⊢; omega)))
    · refine wl_any (fun r10 => ?_)
      refine wl_if (fun _ => ?_) (fun _ => ?_)
      · refine wl_mono (Q_MO_all_j40 x1 x2 false r2.2) (fun ro ho => ?_)
        exact (mr2).tr (Frm.mono ho (fun k j hk => by first | omega | exact hk.elim | (dsimp only at hk ⊢; omega)))
      · refine wl_mono (Q_MO_all_j40 x1 x2 true r2.2) (fun ro ho => ?_)
        exact (mr2).tr (Frm.mono ho (fun k j hk => by first | omega | exact hk.elim | (dsimp only at hk ⊢; omega)))
theorem Q_MO_begin_l68 (x1 : Int32) (x2 : Int32) (x3 : Int32) (x4 : Int32) (x5 : Int32) (M : Mem) : wlO (F_MO_begin_l68 x1 x2 x3 x4 x5 M) (fun r => Frm (fun k j => False) M r.2) := by
  unfold F_MO_begin_l68
  refine wl_any (fun r => ?_)
  exact wl_some Frm.rf
theorem Q_MO_begin_j27 (x1 : Int32) (x2 : Int32) (s1 : Bool) (M : Mem) : wlO (F_MO_begin_j27 x1 x2 s1 M) (fun r => Frm (fun k j => (k = 94 ∧ (j = 0 ∨ j = 15 ∨ j = 16 ∨ j = 19 ∨ j = 20)) ∨ k = 102 ∨ k = 103 ∨ k = 104 ∨ k = 105) M r.2) := by
  unfold F_MO_begin_j27
  refine wl_bind (Q_MO_throwsIf ((b2i s1)) 1 M) (fun r2 hr2 => ?_)
  have mr2 : Frm (fun k j => (k = 94 ∧ (j = 0 ∨ j = 15 ∨ j = 16 ∨ j = 19 ∨ j = 20)) ∨ k = 102 ∨ k = 103 ∨ k = 104 ∨ k = 105) M r2.2 := (Frm.rf).tr (Frm.mono hr2 (fun k j hk => by first | omega | exact hk.elim | (dsimp only at hk ⊢; omega)))
  refine wl_if (fun _ => ?_) (fun _ => ?_)
  · exact wl_some mr2
  · refine wl_any (fun r3 => ?_)
    refine wl_bind (Q_MO_throwsIf ((b2i r3)) 2 r2.2) (fun r4 hr4 => ?_)
    have mr4 : Frm (fun k j => (k = 94 ∧ (j = 0 ∨ j = 15 ∨ j = 16 ∨ j = 19 ∨ j = 20)) ∨ k = 102 ∨ k = 103 ∨ k = 104 ∨ k = 105) M r4.2 := (mr2).tr (Frm.mono hr4 (fun k j hk => by first | omega | exact hk.elim | (dsimp only at hk ⊢; omega)))
    refine wl_if (fun _ => ?_) (fun _ => ?_)
    · exact wl_some mr4
    · refine wl_bind (Q_MO_plainTomorrow r4.2) (fun r5 hr5 => ?_)
      have mr5 : Frm (fun k j => (k = 94 ∧ (j = 0 ∨ j = 15 ∨ j = 16 ∨ j = 19 ∨ j = 20)) ∨ k = 102 ∨ k = 103 ∨ k = 104 ∨ k = 105) M r5 := (mr4).tr (Frm.mono hr5 (fun k j hk => by first | omega | exact hk.elim | (dsimp only at hk ⊢; omega)))
      refine wl_bind (Q_MO_worths x1 x2 r5) (fun r6 hr6 => ?_)
      have mr6 : Frm (fun k j => (k = 94 ∧ (j = 0 ∨ j = 15 ∨ j = 16 ∨ j = 19 ∨ j = 20)) ∨ k = 102 ∨ k = 103 ∨ k = 104 ∨ k = 105) M r6 := (mr5).tr (Frm.mono hr6 (fun k j hk => by first | omega | exact hk.elim | (dsimp only at hk ⊢; omega)))
      refine wl_mono (Q_MO_begin_l68 x1 x2 0 0 0 r6) (fun ro ho => ?_)
      exact (mr6).tr (Frm.mono ho (fun k j hk => by first | omega | exact hk.elim | (dsimp only at hk ⊢; omega)))
theorem Q_MO_begin (x1 : Int32) (x2 : Int32) (M : Mem) : wlO (F_MO_begin x1 x2 M) (fun r => Frm (fun k j => (k = 94 ∧ (j = 0 ∨ j = 15 ∨ j = 16 ∨ j = 19 ∨ j = 20)) ∨ k = 102 ∨ k = 103 ∨ k = 104 ∨ k = 105) M r.2) := by
  unfold F_MO_begin
  refine wl_any (fun r1 => ?_)
  refine wl_if (fun _ => ?_) (fun _ => ?_)
  · refine wl_mono (Q_MO_begin_j27 x1 x2 true (mSI M 94 0 0)) (fun ro ho => ?_)
    exact (((Frm.rf).sI (by first | omega | (dsimp only; omega)))).tr (Frm.mono ho (fun k j hk => by first | omega | exact hk.elim | (dsimp only at hk ⊢; omega)))
  · refine wl_any (fun r9 => ?_)
    refine wl_if (fun _ => ?_) (fun _ => ?_)
    · refine wl_mono (Q_MO_begin_j27 x1 x2 true (mSI M 94 0 0)) (fun ro ho => ?_)
      exact (((Frm.rf).sI (by first | omega | (dsimp only; omega)))).tr (Frm.mono ho (fun k j hk => by first | omega | exact hk.elim | (dsimp only at hk ⊢; omega)))
    · refine wl_mono (Q_MO_begin_j27 x1 x2 false (mSI M 94 0 0)) (fun ro ho => ?_)
      exact (((Frm.rf).sI (by first | omega | (dsimp only; omega)))).tr (Frm.mono ho (fun k j hk => by first | omega | exact hk.elim | (dsimp only at hk ⊢; omega)))
theorem Q_MO_villager_j57 (x1 : Int32) (x2 : Int32) (s1 : Bool) (M : Mem) : wlO (F_MO_villager_j57 x1 x2 s1 M) (fun r => Frm (fun k j => (k = 94 ∧ j = 0) ∨ k = 95) M r.2) := by
  unfold F_MO_villager_j57
  refine wl_bind (Q_MO_throwsIf ((b2i s1)) 2 M) (fun r3 hr3 => ?_)
  have mr3 : Frm (fun k j => (k = 94 ∧ j = 0) ∨ k = 95) M r3.2 := (Frm.rf).tr (Frm.mono hr3 (fun k j hk => by first | omega | exact hk.elim | (dsimp only at hk ⊢; omega)))
  refine wl_if (fun _ => ?_) (fun _ => ?_)
  · exact wl_some mr3
  · refine wl_if (fun _ => ?_) (fun _ => wl_none)
    refine wl_if (fun _ => ?_) (fun _ => wl_none)
    refine wl_if (fun _ => ?_) (fun _ => wl_none)
    refine wl_if (fun _ => ?_) (fun _ => wl_none)
    refine wl_if (fun _ => ?_) (fun _ => wl_none)
    exact wl_some ((((((mr3).sI (by first | omega | (dsimp only; omega)))).sI (by first | omega | (dsimp only; omega)))).sI (by first | omega | (dsimp only; omega)))
theorem Q_MO_villager_j32 (x1 : Int32) (x2 : Int32) (s1 : Bool) (M : Mem) : wlO (F_MO_villager_j32 x1 x2 s1 M) (fun r => Frm (fun k j => (k = 94 ∧ j = 0) ∨ k = 95) M r.2) := by
  unfold F_MO_villager_j32
  refine wl_bind (Q_MO_throwsIf ((b2i s1)) 1 M) (fun r2 hr2 => ?_)
  have mr2 : Frm (fun k j => (k = 94 ∧ j = 0) ∨ k = 95) M r2.2 := (Frm.rf).tr (Frm.mono hr2 (fun k j hk => by first | omega | exact hk.elim | (dsimp only at hk ⊢; omega)))
  refine wl_if (fun _ => ?_) (fun _ => ?_)
  · exact wl_some mr2
  · refine wl_if (fun _ => ?_) (fun _ => wl_none)
    refine wl_if (fun _ => ?_) (fun _ => ?_)
    · refine wl_mono (Q_MO_villager_j57 x1 x2 true r2.2) (fun ro ho => ?_)
      exact (mr2).tr (Frm.mono ho (fun k j hk => by first | omega | exact hk.elim | (dsimp only at hk ⊢; omega)))
    · refine wl_mono (Q_MO_villager_j57 x1 x2 false r2.2) (fun ro ho => ?_)
      exact (mr2).tr (Frm.mono ho (fun k j hk => by first | omega | exact hk.elim | (dsimp only at hk ⊢; omega)))
theorem Q_MO_villager (x1 : Int32) (x2 : Int32) (M : Mem) : wlO (F_MO_villager x1 x2 M) (fun r => Frm (fun k j => (k = 94 ∧ j = 0) ∨ k = 95) M r.2) := by
  unfold F_MO_villager
  refine wl_any (fun r1 => ?_)
  refine wl_if (fun _ => ?_) (fun _ => ?_)
  · refine wl_any (fun r4 => ?_)
    refine wl_if (fun _ => ?_) (fun _ => ?_)
    · refine wl_mono (Q_MO_villager_j32 x1 x2 false (mSI M 94 0 0)) (fun ro ho => ?_)
      exact (((Frm.rf).sI (by first | omega | (dsimp only; omega)))).tr (Frm.mono ho (fun k j hk => by first | omega | exact hk.elim | (dsimp only at hk ⊢; omega)))
    · refine wl_mono (Q_MO_villager_j32 x1 x2 true (mSI M 94 0 0)) (fun ro ho => ?_)
      exact (((Frm.rf).sI (by first | omega | (dsimp only; omega)))).tr (Frm.mono ho (fun k j hk => by first | omega | exact hk.elim | (dsimp only at hk ⊢; omega)))
  · refine wl_mono (Q_MO_villager_j32 x1 x2 true (mSI M 94 0 0)) (fun ro ho => ?_)
    exact (((Frm.rf).sI (by first | omega | (dsimp only; omega)))).tr (Frm.mono ho (fun k j hk => by first | omega | exact hk.elim | (dsimp only at hk ⊢; omega)))
theorem Q_MO_edgeOf (x1 : Int32) (x2 : Int32) (M : Mem) : wlO (F_MO_edgeOf x1 x2 M) (fun r => Frm (fun k j => (k = 94 ∧ (j = 15 ∨ j = 16))) M r) := by
  unfold F_MO_edgeOf
  refine wl_if (fun _ => ?_) (fun _ => wl_none)
  refine wl_if (fun _ => ?_) (fun _ => wl_none)
  refine wl_if (fun _ => ?_) (fun _ => ?_)
  · refine wl_if (fun _ => ?_) (fun _ => ?_)
    · refine wl_bind (Q_MO_tells (((M.1 95 (552 + (2 * x1)).toNatClampNeg) - (M.1 95 ((552 + (2 * x1)) + 1).toNatClampNeg)).toInt64) (((x2 - 1).toInt64) * ((M.1 95 ((552 + (2 * x1)) + 1).toNatClampNeg).toInt64)) M) (fun r1 hr1 => ?_)
      have mr1 : Frm (fun k j => (k = 94 ∧ (j = 15 ∨ j = 16))) M r1 := (Frm.rf).tr (Frm.mono hr1 (fun k j hk => by first | omega | exact hk.elim | (dsimp only at hk ⊢; omega)))
      exact wl_some mr1
    · refine wl_bind (Q_MO_tells 1 1 M) (fun r2 hr2 => ?_)
      have mr2 : Frm (fun k j => (k = 94 ∧ (j = 15 ∨ j = 16))) M r2 := (Frm.rf).tr (Frm.mono hr2 (fun k j hk => by first | omega | exact hk.elim | (dsimp only at hk ⊢; omega)))
      exact wl_some mr2
  · refine wl_bind (Q_MO_tells 0 1 M) (fun r3 hr3 => ?_)
    have mr3 : Frm (fun k j => (k = 94 ∧ (j = 15 ∨ j = 16))) M r3 := (Frm.rf).tr (Frm.mono hr3 (fun k j hk => by first | omega | exact hk.elim | (dsimp only at hk ⊢; omega)))
    exact wl_some mr3
theorem Q_MO_villageEdge_j28 (x1 : Int32) (x2 : Int32) (s1 : Bool) (M : Mem) : wlO (F_MO_villageEdge_j28 x1 x2 s1 M) (fun r => Frm (fun k j => (k = 94 ∧ (j = 0 ∨ j = 15 ∨ j = 16))) M r.2) := by
  unfold F_MO_villageEdge_j28
  refine wl_bind (Q_MO_throwsIf ((b2i s1)) 1 M) (fun r2 hr2 => ?_)
  have mr2 : Frm (fun k j => (k = 94 ∧ (j = 0 ∨ j = 15 ∨ j = 16))) M r2.2 := (Frm.rf).tr (Frm.mono hr2 (fun k j hk => by first | omega | exact hk.elim | (dsimp only at hk ⊢; omega)))
  refine wl_if (fun _ => ?_) (fun _ => ?_)
  · exact wl_some mr2
  · refine wl_if (fun _ => ?_) (fun _ => wl_none)
    refine wl_bind (Q_MO_edgeOf x1 (r2.2.1 95 ((8 : Int32)).toNatClampNeg) r2.2) (fun r3 hr3 => ?_)
    have mr3 : Frm (fun k j => (k = 94 ∧ (j = 0 ∨ j = 15 ∨ j = 16))) M r3 := (mr2).tr (Frm.mono hr3 (fun k j hk => by first | omega | exact hk.elim | (dsimp only at hk ⊢; omega)))
    refine wl_if (fun _ => ?_) (fun _ => ?_)
    · exact wl_some mr3
    · exact wl_some mr3
theorem Q_MO_villageEdge (x1 : Int32) (x2 : Int32) (M : Mem) : wlO (F_MO_villageEdge x1 x2 M) (fun r => Frm (fun k j => (k = 94 ∧ (j = 0 ∨ j = 15 ∨ j = 16))) M r.2) := by
  unfold F_MO_villageEdge
  refine wl_if (fun _ => ?_) (fun _ => wl_none)
  refine wl_any (fun r1 => ?_)
  refine wl_if (fun _ => ?_) (fun _ => ?_)
  · refine wl_mono (Q_MO_villageEdge_j28 x1 x2 false (mSI M 94 0 0)) (fun ro ho => ?_)
    exact (((Frm.rf).sI (by first | omega | (dsimp only; omega)))).tr (Frm.mono ho (fun k j hk => by first | omega | exact hk.elim | (dsimp only at hk ⊢; omega)))
  · refine wl_mono (Q_MO_villageEdge_j28 x1 x2 true (mSI M 94 0 0)) (fun ro ho => ?_)
    exact (((Frm.rf).sI (by first | omega | (dsimp only; omega)))).tr (Frm.mono ho (fun k j hk => by first | omega | exact hk.elim | (dsimp only at hk ⊢; omega)))
theorem Q_MO_isHeld_b4 (x1 : Int32) (z : Bool × Int32 × Mem) : wlO (F_MO_isHeld_b4 x1 z) (fun r => (match r with | .inl s => Frm (fun k j => (k = 94 ∧ (j = 15 ∨ j = 16))) z.2.2 s.2.2 | .inr r => Frm (fun k j => (k = 94 ∧ (j = 15 ∨ j = 16))) z.2.2 r.2)) := by
  unfold F_MO_isHeld_b4
  refine wl_if (fun _ => ?_) (fun _ => wl_none)
  refine wl_if (fun _ => ?_) (fun _ => ?_)
  · exact wl_some Frm.rf
  · refine wl_if (fun _ => ?_) (fun _ => ?_)
    · exact wl_some Frm.rf
    · refine wl_any (fun r1 => ?_)
      refine wl_bind (Q_MO_edgeOf z.2.1 r1 z.2.2) (fun r2 hr2 => ?_)
      have mr2 : Frm (fun k j => (k = 94 ∧ (j = 15 ∨ j = 16))) z.2.2 r2 := (Frm.rf).tr (Frm.mono hr2 (fun k j hk => by first | omega | exact hk.elim | (dsimp only at hk ⊢; omega)))
      refine wl_if (fun _ => ?_) (fun _ => ?_)
      · refine wl_if (fun _ => ?_) (fun _ => ?_)
        · exact wl_some mr2
        · refine wl_if (fun _ => ?_) (fun _ => wl_none)
          refine wl_if (fun _ => ?_) (fun _ => wl_none)
          refine wl_if (fun _ => ?_) (fun _ => ?_)
          · exact wl_some mr2
          · exact wl_some mr2
      · exact wl_some mr2
theorem Q_MO_isHeld_l4 (x1 : Int32) (x2 : Bool) (x3 : Int32) (M : Mem) : wlO (F_MO_isHeld_l4 x1 x2 x3 M) (fun r => Frm (fun k j => (k = 94 ∧ (j = 15 ∨ j = 16))) M r.2) := by
  unfold F_MO_isHeld_l4
  refine wl_bind (Ψ := fun r => Frm (fun k j => (k = 94 ∧ (j = 15 ∨ j = 16))) M r.2) (wl_iter (P := fun w9 => Frm (fun k j => (k = 94 ∧ (j = 15 ∨ j = 16))) M w9.2.2) (fun w9 hz => wl_mono (Q_MO_isHeld_b4 x1 w9) (fun x hx => ?_)) FUEL (x2, x3, M) (Frm.rf)) (fun r hr => ?_)
  · rcases x with x | x
    · exact hz.tr (Frm.mono hx (fun k j hk => by first | omega | exact hk.elim | (dsimp only at hk ⊢; omega)))
    · exact (hz).tr (Frm.mono hx (fun k j hk => by first | omega | exact hk.elim | (dsimp only at hk ⊢; omega)))
  exact wl_some hr
theorem Q_MO_isHeld (x1 : Int32) (M : Mem) : wlO (F_MO_isHeld x1 M) (fun r => Frm (fun k j => (k = 94 ∧ (j = 15 ∨ j = 16))) M r.2) := by
  unfold F_MO_isHeld
  refine wl_mono (Q_MO_isHeld_l4 x1 true 0 M) (fun ro ho => ?_)
  exact (Frm.rf).tr (Frm.mono ho (fun k j hk => by first | omega | exact hk.elim | (dsimp only at hk ⊢; omega)))
theorem Q_MO_weak_j59 (x6 : Int32) (M : Mem) : wlO (F_MO_weak_j59 x6 M) (fun r => (match r with | .inl s => Frm (fun k j => False) M s.2.2.2.2 | .inr r => Frm (fun k j => False) M r.2)) := by
  unfold F_MO_weak_j59
  exact wl_some Frm.rf
theorem Q_MO_weak_b10 (z : Int32 × Int64 × Int64 × Int32 × Mem) : wlO (F_MO_weak_b10 z) (fun r => (match r with | .inl s => Frm (fun k j => (k = 94 ∧ (j = 15 ∨ j = 16))) z.2.2.2.2 s.2.2.2.2 | .inr r => Frm (fun k j => (k = 94 ∧ (j = 15 ∨ j = 16))) z.2.2.2.2 r.2)) := by
  unfold F_MO_weak_b10
  refine wl_if (fun _ => ?_) (fun _ => wl_none)
  refine wl_if (fun _ => ?_) (fun _ => ?_)
  · exact wl_some Frm.rf
  · refine wl_if (fun _ => ?_) (fun _ => wl_none)
    refine wl_bind (Q_MO_edgeOf z.2.2.2.1 (z.2.2.2.2.1 95 ((8 : Int32)).toNatClampNeg) z.2.2.2.2) (fun r1 hr1 => ?_)
    have mr1 : Frm (fun k j => (k = 94 ∧ (j = 15 ∨ j = 16))) z.2.2.2.2 r1 := (Frm.rf).tr (Frm.mono hr1 (fun k j hk => by first | omega | exact hk.elim | (dsimp only at hk ⊢; omega)))
    refine wl_if (fun _ => ?_) (fun _ => ?_)
    · refine wl_mono (Q_MO_weak_j59 z.2.2.2.1 r1) (fun ro ho => ?_)
      rcases ro with s1 | s1
      · exact (mr1).tr (Frm.mono ho (fun k j hk => by first | omega | exact hk.elim | (dsimp only at hk ⊢; omega)))
      · exact (mr1).tr (Frm.mono ho (fun k j hk => by first | omega | exact hk.elim | (dsimp only at hk ⊢; omega)))
    · refine wl_if (fun _ => ?_) (fun _ => ?_)
      · refine wl_mono (Q_MO_weak_j59 z.2.2.2.1 r1) (fun ro ho => ?_)
        rcases ro with s2 | s2
        · exact (mr1).tr (Frm.mono ho (fun k j hk => by first | omega | exact hk.elim | (dsimp only at hk ⊢; omega)))
        · exact (mr1).tr (Frm.mono ho (fun k j hk => by first | omega | exact hk.elim | (dsimp only at hk ⊢; omega)))
      · exact wl_some mr1
theorem Q_MO_weak_l10 (x1 : Int32) (x2 : Int64) (x4 : Int64) (x6 : Int32) (M : Mem) : wlO (F_MO_weak_l10 x1 x2 x4 x6 M) (fun r => Frm (fun k j => (k = 94 ∧ (j = 15 ∨ j = 16))) M r.2) := by
  unfold F_MO_weak_l10
  refine wl_bind (Ψ := fun r => Frm (fun k j => (k = 94 ∧ (j = 15 ∨ j = 16))) M r.2) (wl_iter (P := fun w9 => Frm (fun k j => (k = 94 ∧ (j = 15 ∨ j = 16))) M w9.2.2.2.2) (fun w9 hz => wl_mono (Q_MO_weak_b10  w9) (fun x hx => ?_)) FUEL (x1, x2, x4, x6, M) (Frm.rf)) (fun r hr => ?_)
  · rcases x with x | x
    · exact hz.tr (Frm.mono hx (fun k j hk => by first | omega | exact hk.elim | (dsimp only at hk ⊢; omega)))
    · exact (hz).tr (Frm.mono hx (fun k j hk => by first | omega | exact hk.elim | (dsimp only at hk ⊢; omega)))
  exact wl_some hr
theorem Q_MO_weak (M : Mem) : wlO (F_MO_weak M) (fun r => Frm (fun k j => (k = 94 ∧ (j = 15 ∨ j = 16))) M r.2) := by
  unfold F_MO_weak
  refine wl_mono (Q_MO_weak_l10 ((-1)) 0 1 0 M) (fun ro ho => ?_)
  exact (Frm.rf).tr (Frm.mono ho (fun k j hk => by first | omega | exact hk.elim | (dsimp only at hk ⊢; omega)))
theorem Q_MO_village_b74 (x2 : Int32) (z : Int32 × Int32 × Mem) : wlO (F_MO_village_b74 x2 z) (fun r => (match r with | .inl s => Frm (fun k j => (k = 94 ∧ (j = 15 ∨ j = 16))) z.2.2 s.2.2 | .inr r => Frm (fun k j => (k = 94 ∧ (j = 15 ∨ j = 16))) z.2.2 r.2)) := by
  unfold F_MO_village_b74
  refine wl_if (fun _ => ?_) (fun _ => ?_)
  · exact wl_some Frm.rf
  · refine wl_any (fun r3 => ?_)
    refine wl_any (fun r4 => ?_)
    refine wl_if (fun _ => ?_) (fun _ => ?_)
    · exact wl_some Frm.rf
    · refine wl_bind (Q_MO_isHeld (x2 &&& (z.2.1 ^^^ ((-1)))) z.2.2) (fun r5 hr5 => ?_)
      have mr5 : Frm (fun k j => (k = 94 ∧ (j = 15 ∨ j = 16))) z.2.2 r5.2 := (Frm.rf).tr (Frm.mono hr5 (fun k j hk => by first | omega | exact hk.elim | (dsimp only at hk ⊢; omega)))
      refine wl_if (fun _ => ?_) (fun _ => ?_)
      · exact wl_some mr5
      · exact wl_some mr5
theorem Q_MO_village_l74 (x2 : Int32) (x3 : Int32) (x4 : Int32) (M : Mem) : wlO (F_MO_village_l74 x2 x3 x4 M) (fun r => Frm (fun k j => (k = 94 ∧ (j = 15 ∨ j = 16))) M r.2) := by
  unfold F_MO_village_l74
  refine wl_bind (Ψ := fun r => Frm (fun k j => (k = 94 ∧ (j = 15 ∨ j = 16))) M r.2) (wl_iter (P := fun w9 => Frm (fun k j => (k = 94 ∧ (j = 15 ∨ j = 16))) M w9.2.2) (fun w9 hz => wl_mono (Q_MO_village_b74 x2 w9) (fun x hx => ?_)) FUEL (x3, x4, M) (Frm.rf)) (fun r hr => ?_)
  · rcases x with x | x
    · exact hz.tr (Frm.mono hx (fun k j hk => by first | omega | exact hk.elim | (dsimp only at hk ⊢; omega)))
    · exact (hz).tr (Frm.mono hx (fun k j hk => by first | omega | exact hk.elim | (dsimp only at hk ⊢; omega)))
  exact wl_some hr
theorem Q_MO_village_j20 (x1 : Int32) (s1 : Bool) (M : Mem) : wlO (F_MO_village_j20 x1 s1 M) (fun r => Frm (fun k j => (k = 94 ∧ (j = 0 ∨ j = 15 ∨ j = 16))) M r.2) := by
  unfold F_MO_village_j20
  refine wl_bind (Q_MO_throwsIf ((b2i s1)) 1 M) (fun r2 hr2 => ?_)
  have mr2 : Frm (fun k j => (k = 94 ∧ (j = 0 ∨ j = 15 ∨ j = 16))) M r2.2 := (Frm.rf).tr (Frm.mono hr2 (fun k j hk => by first | omega | exact hk.elim | (dsimp only at hk ⊢; omega)))
  refine wl_if (fun _ => ?_) (fun _ => ?_)
  · exact wl_some mr2
  · refine wl_if (fun _ => ?_) (fun _ => wl_none)
    refine wl_if (fun _ => ?_) (fun _ => ?_)
    · refine wl_bind (Q_MO_weak r2.2) (fun r7 hr7 => ?_)
      have mr7 : Frm (fun k j => (k = 94 ∧ (j = 0 ∨ j = 15 ∨ j = 16))) M r7.2 := (mr2).tr (Frm.mono hr7 (fun k j hk => by first | omega | exact hk.elim | (dsimp only at hk ⊢; omega)))
      exact wl_some mr7
    · refine wl_if (fun _ => ?_) (fun _ => ?_)
      · refine wl_bind (Q_MO_isHeld ((1 <<< ((r2.2.1 95 ((8 : Int32)).toNatClampNeg) &&& 31)) - 1) r2.2) (fun r6 hr6 => ?_)
        have mr6 : Frm (fun k j => (k = 94 ∧ (j = 0 ∨ j = 15 ∨ j = 16))) M r6.2 := (mr2).tr (Frm.mono hr6 (fun k j hk => by first | omega | exact hk.elim | (dsimp only at hk ⊢; omega)))
        refine wl_if (fun _ => ?_) (fun _ => ?_)
        · exact wl_some mr6
        · exact wl_some mr6
      · refine wl_mono (Q_MO_village_l74 ((1 <<< ((r2.2.1 95 ((8 : Int32)).toNatClampNeg) &&& 31)) - 1) ((1 <<< ((r2.2.1 95 ((8 : Int32)).toNatClampNeg) &&& 31)) - 1) 0 r2.2) (fun ro ho => ?_)
        exact (mr2).tr (Frm.mono ho (fun k j hk => by first | omega | exact hk.elim | (dsimp only at hk ⊢; omega)))
theorem Q_MO_village (x1 : Int32) (M : Mem) : wlO (F_MO_village x1 M) (fun r => Frm (fun k j => (k = 94 ∧ (j = 0 ∨ j = 15 ∨ j = 16))) M r.2) := by
  unfold F_MO_village
  refine wl_any (fun r1 => ?_)
  refine wl_if (fun _ => ?_) (fun _ => ?_)
  · refine wl_mono (Q_MO_village_j20 x1 false (mSI M 94 0 0)) (fun ro ho => ?_)
    exact (((Frm.rf).sI (by first | omega | (dsimp only; omega)))).tr (Frm.mono ho (fun k j hk => by first | omega | exact hk.elim | (dsimp only at hk ⊢; omega)))
  · refine wl_mono (Q_MO_village_j20 x1 true (mSI M 94 0 0)) (fun ro ho => ?_)
    exact (((Frm.rf).sI (by first | omega | (dsimp only; omega)))).tr (Frm.mono ho (fun k j hk => by first | omega | exact hk.elim | (dsimp only at hk ⊢; omega)))
theorem Q_MO_count_l86 (x2 : Int32) (x3 : Int32) (M : Mem) : wlO (F_MO_count_l86 x2 x3 M) (fun r => Frm (fun k j => False) M r.2) := by
  unfold F_MO_count_l86
  refine wl_any (fun r => ?_)
  exact wl_some Frm.rf
theorem Q_MO_count_l141 (x2 : Int32) (x3 : Int32) (M : Mem) : wlO (F_MO_count_l141 x2 x3 M) (fun r => Frm (fun k j => False) M r.2) := by
  unfold F_MO_count_l141
  refine wl_any (fun r => ?_)
  exact wl_some Frm.rf
theorem Q_MO_count (x1 : Int32) (M : Mem) : wlO (F_MO_count x1 M) (fun r => Frm (fun k j => (k = 94 ∧ (j = 0 ∨ j = 35 ∨ j = 36)) ∨ k = 114 ∨ k = 115 ∨ k = 116 ∨ k = 117) M r.2) := by
  unfold F_MO_count
  refine wl_if (fun _ => ?_) (fun _ => ?_)
  · refine wl_any (fun r1 => ?_)
    exact wl_some ((Frm.rf).sI (by first | omega | (dsimp only; omega)))
  · refine wl_if (fun _ => ?_) (fun _ => ?_)
    · refine wl_if (fun _ => ?_) (fun _ => wl_none)
      exact wl_some ((Frm.rf).sI (by first | omega | (dsimp only; omega)))
    · refine wl_if (fun _ => ?_) (fun _ => ?_)
      · refine wl_mono (Q_MO_count_l86 0 0 (mSI M 94 0 0)) (fun ro ho => ?_)
        exact (((Frm.rf).sI (by first | omega | (dsimp only; omega)))).tr (Frm.mono ho (fun k j hk => by first | omega | exact hk.elim | (dsimp only at hk ⊢; omega)))
      · refine wl_if (fun _ => ?_) (fun _ => ?_)
        · refine wl_if (fun _ => ?_) (fun _ => wl_none)
          exact wl_some ((Frm.rf).sI (by first | omega | (dsimp only; omega)))
        · refine wl_if (fun _ => ?_) (fun _ => ?_)
          · refine wl_if (fun _ => ?_) (fun _ => wl_none)
            exact wl_some ((Frm.rf).sI (by first | omega | (dsimp only; omega)))
          · refine wl_if (fun _ => ?_) (fun _ => ?_)
            · refine wl_if (fun _ => ?_) (fun _ => wl_none)
              exact wl_some ((Frm.rf).sI (by first | omega | (dsimp only; omega)))
            · refine wl_if (fun _ => ?_) (fun _ => ?_)
              · refine wl_if (fun _ => ?_) (fun _ => wl_none)
                exact wl_some ((Frm.rf).sI (by first | omega | (dsimp only; omega)))
              · refine wl_if (fun _ => ?_) (fun _ => ?_)
                · refine wl_if (fun _ => ?_) (fun _ => wl_none)
                  exact wl_some ((Frm.rf).sI (by first | omega | (dsimp only; omega)))
                · refine wl_if (fun _ => ?_) (fun _ => ?_)
                  · refine wl_mono (Q_MO_count_l141 0 0 (mSI M 94 0 0)) (fun ro ho => ?_)
                    exact (((Frm.rf).sI (by first | omega | (dsimp only; omega)))).tr (Frm.mono ho (fun k j hk => by first | omega | exact hk.elim | (dsimp only at hk ⊢; omega)))
                  · refine wl_if (fun _ => ?_) (fun _ => ?_)
                    · refine wl_if (fun _ => ?_) (fun _ => wl_none)
                      exact wl_some ((Frm.rf).sI (by first | omega | (dsimp only; omega)))
                    · refine wl_if (fun _ => ?_) (fun _ => ?_)
                      · refine wl_if (fun _ => ?_) (fun _ => wl_none)
                        exact wl_some ((Frm.rf).sI (by first | omega | (dsimp only; omega)))
                      · refine wl_if (fun _ => ?_) (fun _ => ?_)
                        · refine wl_bind (Q_MO_body (mSI M 94 0 0)) (fun r3 hr3 => ?_)
                          have mr3 : Frm (fun k j => (k = 94 ∧ (j = 0 ∨ j = 35 ∨ j = 36)) ∨ k = 114 ∨ k = 115 ∨ k = 116 ∨ k = 117) M r3 := (((Frm.rf).sI (by first | omega | (dsimp only; omega)))).tr (Frm.mono hr3 (fun k j hk => by first | omega | exact hk.elim | (dsimp only at hk ⊢; omega)))
                          exact wl_some mr3
                        · exact wl_some ((Frm.rf).sI (by first | omega | (dsimp only; omega)))
