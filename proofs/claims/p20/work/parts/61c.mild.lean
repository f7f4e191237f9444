/-! ===== values: mild, the reference's days of a threat ===== -/
theorem N_151V {a b c d pe D A : Nat} {keep thr p q : Int} {x6 : Bool} {M : Mem} (h : RIW (M.1 95)) (hA : M.1 95 0 = iI (A : Int)) (a3 : A ≤ 3) (hpe : pe < 2) (hc : c < 3) (hd : d < 3) (hP : M.1 94 19 = iI p) (hQ : M.1 94 20 = iI q) (p0 : 1 ≤ p) (pq : p < q) (q9 : q ≤ 9) (k1 : -99 ≤ keep) (k2 : keep ≤ 99) (t1 : -99 ≤ thr) (t2 : thr ≤ 99) (hD : D ≤ 9) : wpO (F_MO_mild_l151 (iI (a : Int)) (iI (b : Int)) (iI (c : Int)) (iI (d : Int)) (iI (D : Int)) x6 (iI (pe : Int)) (iI keep) (iI thr) 1 M) (fun x => ∃ r, x = .inl (r, iI ((pe + 1 : Nat) : Int)) ∧ (r = true ↔ (x6 = true ∨ ∃ l, 1 ≤ l ∧ l ≤ D ∧ ∃ k, gainW (M.1 95) A pe (if pe = 0 then c else d) (if pe = 0 then d else c) p q keep thr l D k))) := by
  generalize hG : (fun l => ∃ k, gainW (M.1 95) A pe (if pe = 0 then c else d) (if pe = 0 then d else c) p q keep thr l D k) = G
  have eG : ∀ l, (∃ k, gainW (M.1 95) A pe (if pe = 0 then c else d) (if pe = 0 then d else c) p q keep thr l D k) = G l := fun l => by rw [← hG]
  simp only [eG]
  unfold F_MO_mild_l151
  refine wp_bind (Ψ := fun r => r = true ↔ (x6 = true ∨ ∃ l, 1 ≤ l ∧ l ≤ D ∧ G l)) ?_ (fun r hr => wp_some ⟨r, by rw [iI_succ], hr⟩)
  refine wp_iterS (P := fun k z => k ≤ D ∧ z.2 = iI ((k + 1 : Nat) : Int) ∧ (z.1 = true ↔ (x6 = true ∨ ∃ l, 1 ≤ l ∧ l ≤ k ∧ G l))) 9 ?_ _ _ ⟨Nat.zero_le _, rfl, ⟨fun w => Or.inl w, fun w => w.resolve_right (fun ⟨l, h1, h2, _⟩ => by omega)⟩⟩ (FUEL_big (by decide))
  rintro k ⟨z1, z2⟩ hk ⟨kD, e2, e1⟩
  dsimp only at e1 e2
  subst e2
  unfold F_MO_mild_b151
  dsimp only
  refine wp_if (fun cc => wp_some ?_) (fun cc => ?_)
  · rw [iI_lt (by omega) (by omega) (by omega) (by omega)] at cc
    have q : k = D := by omega
    rw [q] at e1
    exact e1
  rw [iI_lt (by omega) (by omega) (by omega) (by omega)] at cc
  have kD1 : k + 1 ≤ D := by omega
  have k9 : k < 9 := by omega
  refine wp_if (fun z => wp_some ⟨k9, kD1, iI_succ (k + 1), ⟨fun _ => ?_, fun _ => rfl⟩⟩) (fun z => ?_)
  · rcases e1.mp z with w | ⟨l, h1, h2, h3⟩
    · exact Or.inl w
    · exact Or.inr ⟨l, h1, by omega, h3⟩
  have old : ¬ (x6 = true ∨ ∃ l, 1 ≤ l ∧ l ≤ k ∧ G l) := fun w => z (e1.mpr w)
  have fin : ∀ (own y : Nat), own < 3 → y < 3 → (∃ k', gainW (M.1 95) A pe own y p q keep thr (k + 1) D k') = G (k + 1) → wpO (F_MO_mild_j188 (iI (a : Int)) (iI (b : Int)) (iI (c : Int)) (iI (d : Int)) (iI (D : Int)) (iI (pe : Int)) (iI keep) (iI thr) (iI ((k + 1 : Nat) : Int)) (iI (pe : Int)) (iI (own : Int)) (iI (y : Int)) M) (sumP (fun s' => k < 9 ∧ (k + 1 ≤ D ∧ s'.2 = iI ((k + 1 + 1 : Nat) : Int) ∧ (s'.1 = true ↔ (x6 = true ∨ ∃ l, 1 ≤ l ∧ l ≤ k + 1 ∧ G l)))) (fun r => r = true ↔ (x6 = true ∨ ∃ l, 1 ≤ l ∧ l ≤ D ∧ G l))) := by
    intro own y ho hy eg
    unfold F_MO_mild_j188
    refine wp_bind (N_gainsV (own := own) (y := y) (l := k + 1) h hA a3 hpe hy ho hP hQ p0 pq q9 k1 k2 t1 t2 kD1 hD) (fun r6 h6 => ?_)
    rw [eg] at h6
    refine wp_if (fun w => wp_some ⟨k9, kD1, iI_succ (k + 1), ⟨fun _ => Or.inr ⟨k + 1, by omega, Nat.le_refl _, h6.mp w⟩, fun _ => rfl⟩⟩) (fun w => wp_some ⟨k9, kD1, iI_succ (k + 1), ⟨fun v => Bool.noConfusion v, fun v => ?_⟩⟩)
    exfalso
    rcases v with v | ⟨l, h1, h2, h3⟩
    · exact old (Or.inl v)
    · by_cases e : l = k + 1
      · rw [e] at h3
        exact w (h6.mpr h3)
      · exact old (Or.inr ⟨l, h1, by omega, h3⟩)
  have hp2 : pe = 0 ∨ pe = 1 := by omega
  rcases hp2 with rfl | rfl
  · refine wp_t rfl ?_
    unfold F_MO_mild_j177
    exact wp_t rfl (fin c d hc hd (eG (k + 1)))
  · refine wp_f (by decide) ?_
    unfold F_MO_mild_j177
    exact wp_f (by decide) (fin d c hd hc (eG (k + 1)))
