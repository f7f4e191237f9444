/-! ===== values: mild, the reference's persons ===== -/
def gainP (W : Nat → Int32) (A a b c d : Nat) (p q : Int) (D pe : Nat) : Prop := (∃ k, gainW W A pe (if pe = 0 then a else b) (if pe = 0 then b else a) p q (br W a b pe) (br W c d pe) 0 D k) ∨ ∃ l, 1 ≤ l ∧ l ≤ D ∧ ∃ k, gainW W A pe (if pe = 0 then c else d) (if pe = 0 then d else c) p q (br W a b pe) (br W c d pe) l D k
theorem N_73V {a b c d D A : Nat} {p q : Int} {M : Mem} (h : RIW (M.1 95)) (hA : M.1 95 0 = iI (A : Int)) (a3 : A ≤ 3) (ha : a < 3) (hb : b < 3) (hc : c < 3) (hd : d < 3) (hP : M.1 94 19 = iI p) (hQ : M.1 94 20 = iI q) (p0 : 1 ≤ p) (pq : p < q) (q9 : q ≤ 9) (hD : D ≤ 9) : wpO (F_MO_mild_l73 (iI (a : Int)) (iI (b : Int)) (iI (c : Int)) (iI (d : Int)) (iI (D : Int)) false 0 M) (fun x => (x = .inl (iI (D : Int) + 1) ∧ ∃ pe, pe < 2 ∧ gainP (M.1 95) A a b c d p q D pe) ∨ (x = .inr (.inl (iI (D : Int))) ∧ ¬ ∃ pe, pe < 2 ∧ gainP (M.1 95) A a b c d p q D pe)) := by
  have l2 : (2 : Int32) = iI 2 := rfl
  unfold F_MO_mild_l73
  refine wp_bind (Ψ := fun r => r = true ↔ ∃ pe, pe < 2 ∧ gainP (M.1 95) A a b c d p q D pe) ?_ (fun r hr => ?_)
  · refine wp_iterS (P := fun k z => k ≤ 2 ∧ z.2 = iI (k : Int) ∧ (z.1 = true ↔ ∃ pe, pe < k ∧ gainP (M.1 95) A a b c d p q D pe)) 2 ?_ _ _ ⟨by omega, rfl, ⟨fun w => Bool.noConfusion w, fun ⟨pe, h1, _⟩ => absurd h1 (Nat.not_lt_zero _)⟩⟩ (FUEL_big (by decide))
    rintro k ⟨z1, z2⟩ hk ⟨k2, e2, e1⟩
    dsimp only at e1 e2
    subst e2
    unfold F_MO_mild_b73
    dsimp only
    refine wp_if (fun cc => wp_some ?_) (fun cc => ?_)
    · rw [l2, iI_le (by omega) (by omega) (by omega) (by omega)] at cc
      have q : k = 2 := by omega
      rw [q] at e1
      exact e1
    rw [l2, iI_le (by omega) (by omega) (by omega) (by omega)] at cc
    have kk : k < 2 := by omega
    have bk := h.br a b k ha hb kk
    have bt := h.br c d k hc hd kk
    rw [N_brings ha hb kk, bs, N_brings hc hd kk, bs]
    have l151 := fun x6 : Bool => N_151V (a := a) (b := b) (x6 := x6) (D := D) h hA a3 kk hc hd hP hQ p0 pq q9 bk.1 bk.2 bt.1 bt.2 hD
    have upg : (∃ pe, pe < k ∧ gainP (M.1 95) A a b c d p q D pe) → ∃ pe, pe < k + 1 ∧ gainP (M.1 95) A a b c d p q D pe := fun ⟨pe, h1, h2⟩ => ⟨pe, by omega, h2⟩
    refine wp_if (fun z => ?_) (fun z => ?_)
    · refine wp_mono (l151 true) (fun x hx => ?_)
      obtain ⟨r, rfl, hr⟩ := hx
      exact ⟨kk, by omega, rfl, ⟨fun _ => upg (e1.mp z), fun _ => hr.mpr (Or.inl rfl)⟩⟩
    have fin : ∀ own y : Nat, own < 3 → y < 3 → own = (if k = 0 then a else b) → y = (if k = 0 then b else a) → wpO (F_MO_mild_j128 (iI (a : Int)) (iI (b : Int)) (iI (c : Int)) (iI (d : Int)) (iI (D : Int)) (iI (k : Int)) (iI (br (M.1 95) a b k)) (iI (br (M.1 95) c d k)) (iI (k : Int)) (iI (own : Int)) (iI (y : Int)) M) (sumP (fun s' => k < 2 ∧ (k + 1 ≤ 2 ∧ s'.2 = iI ((k + 1 : Nat) : Int) ∧ (s'.1 = true ↔ ∃ pe, pe < k + 1 ∧ gainP (M.1 95) A a b c d p q D pe))) (fun r => r = true ↔ ∃ pe, pe < 2 ∧ gainP (M.1 95) A a b c d p q D pe)) := by
      intro own y ho hy eo ey
      have g0 : wpO (F_MO_gainsMildly (iI (k : Int)) (iI (own : Int)) (iI (y : Int)) (iI (br (M.1 95) a b k)) (iI (br (M.1 95) c d k)) 0 (iI (D : Int)) M) (fun b' => b' = true ↔ ∃ k', gainW (M.1 95) A k own y p q (br (M.1 95) a b k) (br (M.1 95) c d k) 0 D k') := N_gainsV (l := 0) h hA a3 kk hy ho hP hQ p0 pq q9 bk.1 bk.2 bt.1 bt.2 (Nat.zero_le _) hD
      unfold F_MO_mild_j128
      refine wp_bind g0 (fun r7 h7 => ?_)
      rw [eo, ey] at h7
      refine wp_if (fun w => ?_) (fun w => ?_)
      · refine wp_mono (l151 true) (fun x hx => ?_)
        obtain ⟨r, rfl, hr⟩ := hx
        exact ⟨kk, by omega, rfl, ⟨fun _ => ⟨k, by omega, Or.inl (h7.mp w)⟩, fun _ => hr.mpr (Or.inl rfl)⟩⟩
      · refine wp_mono (l151 false) (fun x hx => ?_)
        obtain ⟨r, rfl, hr⟩ := hx
        refine ⟨kk, by omega, rfl, ⟨fun v => ?_, fun v => ?_⟩⟩
        · rcases hr.mp v with u | u
          · exact Bool.noConfusion u
          · exact ⟨k, by omega, Or.inr u⟩
        · obtain ⟨pe, h1, h2⟩ := v
          by_cases e : pe = k
          · rw [e] at h2
            rcases h2 with u | u
            · exact absurd (h7.mpr u) w
            · exact hr.mpr (Or.inr u)
          · exact absurd (e1.mpr ⟨pe, by omega, h2⟩) z
    have hp2 : k = 0 ∨ k = 1 := by omega
    rcases hp2 with rfl | rfl
    · refine wp_t rfl ?_
      unfold F_MO_mild_j118
      exact wp_t rfl (fin a b ha hb rfl rfl)
    · refine wp_f (by decide) ?_
      unfold F_MO_mild_j118
      exact wp_f (by decide) (fin b a hb ha rfl rfl)
  · unfold F_MO_mild_j221
    exact wp_if (fun w => wp_some (Or.inl ⟨rfl, hr.mp w⟩)) (fun w => wp_some (Or.inr ⟨rfl, fun v => w (hr.mpr v)⟩))
