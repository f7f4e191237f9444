/-! ===== the reference's calls: what all of them have in common ===== -/
/-- two ends -/
abbrev sumP {σ ρ : Type} (A : σ → Prop) (B : ρ → Prop) : σ ⊕ ρ → Prop := fun x => match x with | .inl s => A s | .inr r => B r
theorem wp_iterS {σ ρ : Type} {body : σ → Option (σ ⊕ ρ)} (P : Nat → σ → Prop) {Φ : ρ → Prop} (n : Nat) (hs : ∀ k s, k ≤ n → P k s → wpO (body s) (sumP (fun s' => k < n ∧ P (k + 1) s') Φ)) : ∀ (N : Nat) (s : σ), P 0 s → n < N → wpO (iter body N s) Φ := wp_iter P n (fun k s hk hp => wp_mono (hs k s hk hp) (fun x hx => by rcases x with x | x <;> exact hx))
theorem wp_thr {α : Type} {r : Bool} {c : Int32} {M : Mem} {K : Bool × Mem → Option α} {Φ : α → Prop} (ht : r = true → wpO (K (true, mSI M 94 0 c)) Φ) (hf : r = false → wpO (K (false, M)) Φ) : wpO ((F_MO_throwsIf (b2i r) c M).bind K) Φ := by
  cases r with
  | true => rw [S_throws_t, bs]; exact ht rfl
  | false => rw [S_throws_f, bs]; exact hf rfl
theorem thr_f {α : Type} {M : Mem} {A B : Option α} {Φ : α → Prop} (h : wpO B Φ) : wpO (if ((false, M) : Bool × Mem).1 = true then A else B) Φ := by
  rw [if_f1]
  exact h
theorem thr_t {α : Type} {M : Mem} {A B : Option α} {Φ : α → Prop} (h : wpO A Φ) : wpO (if ((true, M) : Bool × Mem).1 = true then A else B) Φ := h
theorem wp_ff {α : Type} {X Y : Option α} {Φ : α → Prop} (h : wpO Y Φ) : wpO (if false = true then X else Y) Φ := h
theorem wp_tt {α : Type} {X Y : Option α} {Φ : α → Prop} (h : wpO X Φ) : wpO (if true = true then X else Y) Φ := h
theorem wp_noWay {α : Type} {x : Int32} {M : Mem} {K : Bool → Option α} {Φ : α → Prop} (hR : RIW (M.1 95)) (ht : wpO (K true) Φ) (hf : ∀ w : Nat, x = iI (w : Int) → (w : Int) < (M.1 95 5).toInt → wpO (K false) Φ) : wpO ((F_MO_noWay x M).bind K) Φ := by
  have r5 := hR.ways
  rw [S_noWay (by rw [le_i, li0]; omega), bs]
  by_cases h : 0 ≤ x ∧ x < M.1 95 5
  · rw [decide_eq_true h]
    obtain ⟨h1, h2⟩ := h
    rw [le_i, li0] at h1
    rw [lt_i] at h2
    exact hf x.toInt.toNat (iI_nat h1) (by omega)
  · rw [decide_eq_false h]
    exact ht
theorem wp_noAct {α : Type} {x : Int32} {M : Mem} {K : Bool → Option α} {Φ : α → Prop} (hR : RIW (M.1 95)) (ht : wpO (K true) Φ) (hf : ∀ w : Nat, x = iI (w : Int) → (w : Int) < (M.1 95 0).toInt → wpO (K false) Φ) : wpO ((F_MO_noAct x M).bind K) Φ := by
  have r5 := hR.acts
  rw [S_noAct (by rw [le_i, li0]; omega), bs]
  by_cases h : 0 ≤ x ∧ x < M.1 95 0
  · rw [decide_eq_true h]
    obtain ⟨h1, h2⟩ := h
    rw [le_i, li0] at h1
    rw [lt_i] at h2
    exact hf x.toInt.toNat (iI_nat h1) (by omega)
  · rw [decide_eq_false h]
    exact ht
theorem wp_within {α : Type} {x a b : Int32} {M : Mem} {K : Bool → Option α} {Φ : α → Prop} (ht : a ≤ x → x ≤ b → wpO (K true) Φ) (hf : ¬ (a ≤ x ∧ x ≤ b) → wpO (K false) Φ) : wpO ((F_MO_within x a b M).bind K) Φ := by
  rw [S_within, bs]
  by_cases h : a ≤ x ∧ x ≤ b
  · rw [decide_eq_true h]
    exact ht h.1 h.2
  · rw [decide_eq_false h]
    exact hf h
theorem wp_noPerson {α : Type} {x : Int32} {M : Mem} {K : Bool → Option α} {Φ : α → Prop} (ht : wpO (K true) Φ) (hf : ∀ w : Nat, x = iI (w : Int) → w < 2 → wpO (K false) Φ) : wpO ((F_MO_noPerson x M).bind K) Φ := by
  rw [S_noPerson, bs]
  by_cases h : 0 ≤ x ∧ x ≤ 1
  · rw [decide_eq_true h]
    obtain ⟨h1, h2⟩ := h
    rw [le_i, li0] at h1
    rw [le_i, li1] at h2
    exact hf x.toInt.toNat (iI_nat h1) (by omega)
  · rw [decide_eq_false h]
    exact ht
theorem wp_ways {α : Type} {x y : Int32} {M : Mem} {J : Bool → Option α} {Φ : α → Prop} (hR : RIW (M.1 95)) (ht : wpO (J true) Φ) (hf : ∀ a b : Nat, x = iI (a : Int) → y = iI (b : Int) → (a : Int) < (M.1 95 5).toInt → (b : Int) < (M.1 95 5).toInt → wpO (J false) Φ) : wpO ((F_MO_noWay x M).bind fun r1 => if r1 = true then J true else (F_MO_noWay y M).bind fun r2 => if r2 = true then J true else J false) Φ :=
  wp_noWay hR (wp_tt ht) (fun a e1 ha => wp_ff (wp_noWay hR (wp_tt ht) (fun b e2 hb => wp_ff (hf a b e1 e2 ha hb))))
theorem iI_of_le {x : Int32} {n : Int} (h1 : (0 : Int32) ≤ x) (h2 : x.toInt ≤ n) : ∃ k : Nat, x = iI (k : Int) ∧ (k : Int) ≤ n := by
  rw [le_i, li0] at h1
  exact ⟨x.toInt.toNat, iI_nat h1, by omega⟩
theorem wp_noMood {α : Type} {x y : Int32} {M : Mem} {K : Bool → Option α} {Φ : α → Prop} (hR : RIW (M.1 95)) (ht : wpO (K true) Φ) (hf : ∀ w m : Nat, x = iI (w : Int) → y = iI (m : Int) → (w : Int) < (M.1 95 5).toInt → m < mo (M.1 95) w → wpO (K false) Φ) : wpO ((F_MO_noMood x y M).bind K) Φ := by
  have key : wpO (F_MO_noMood x y M) (fun r => r = true ∨ (r = false ∧ ∃ w m : Nat, x = iI (w : Int) ∧ y = iI (m : Int) ∧ (w : Int) < (M.1 95 5).toInt ∧ m < mo (M.1 95) w)) := by
    unfold F_MO_noMood
    refine wp_noWay hR (wp_tt (wp_some (Or.inl rfl))) (fun w e hw => wp_ff ?_)
    have r5 := hR.ways
    have hA := hR.way w hw
    obtain ⟨m1, m2, m3⟩ := hA.moK
    subst e
    rw [N_moods (by omega) hA, bs]
    refine wp_within (fun q1 q2 => wp_tt (wp_some (Or.inr ⟨rfl, ?_⟩))) (fun _ => wp_ff (wp_some (Or.inl rfl)))
    rw [le_i, li0] at q1
    rw [l32_1, iI_sub, le_i, iI_toInt (by omega) (by omega)] at q2
    exact ⟨w, y.toInt.toNat, rfl, iI_nat q1, hw, by omega⟩
  refine wp_bind key (fun r hr => ?_)
  rcases hr with rfl | ⟨rfl, w, m, h1, h2, h3, h4⟩
  · exact ht
  · exact hf w m h1 h2 h3 h4
/-- to-morrow as it is told -/
def plM (M : Mem) : Mem := mSI (mSI M 94 19 (M.1 95 1)) 94 20 (M.1 95 2)
theorem N_plain (M : Mem) : F_MO_plainTomorrow M = some (plM M) := by
  unfold F_MO_plainTomorrow
  rw [if_pos ib1, if_pos ib2, tn1, tn2]
  rfl
theorem plM_w (M : Mem) : (plM M).1 95 = M.1 95 := rfl
theorem plM_P (M : Mem) : (plM M).1 94 19 = iI ((M.1 95 1).toInt) := by
  show (mSI (mSI M 94 19 (M.1 95 1)) 94 20 (M.1 95 2)).1 94 19 = _
  rw [mI_ix (by decide), mI_hit, iI_of]
theorem plM_Q (M : Mem) : (plM M).1 94 20 = iI ((M.1 95 2).toInt) := by
  show (mSI (mSI M 94 19 (M.1 95 1)) 94 20 (M.1 95 2)).1 94 20 = _
  rw [mI_hit, iI_of]
theorem RIW.w8 {W : Nat → Int32} (h : RIW W) {w : Nat} (hw : (w : Int) < (W 5).toInt) : w ≤ 8 := by
  have := h.ways
  omega
theorem E_mood {x y z : Int32} {M : Mem} (h : RIW (M.1 95)) : wpO (F_MO_mood x y z M) (fun _ => True) := by
  have h0 : RIW ((mSI M 94 0 0).1 95) := h
  have bad : wpO (F_MO_mood_j37 x y z true (mSI M 94 0 0)) (fun _ => True) := by
    unfold F_MO_mood_j37
    exact wp_thr (fun _ => thr_t (wp_some trivial)) (fun q => nomatch q)
  have good : ∀ w : Nat, x = iI (w : Int) → (w : Int) < ((mSI M 94 0 0).1 95 5).toInt → ((2 ≤ z ∧ z ≤ 5) → ∃ m : Nat, y = iI (m : Int) ∧ m < mo ((mSI M 94 0 0).1 95) w) → wpO (F_MO_mood_j37 x y z false (mSI M 94 0 0)) (fun _ => True) := by
    intro w e hw hm
    have hA := h0.way w hw
    have w8 := h0.w8 hw
    unfold F_MO_mood_j37
    refine wp_thr (fun q => nomatch q) (fun _ => thr_f ?_)
    dsimp only
    have j59 : ∀ s : Bool, (s = false → z ≤ 5 ∧ 0 ≤ z) → wpO (F_MO_mood_j59 x y z s (mSI M 94 0 0)) (fun _ => True) := by
      intro s hs
      unfold F_MO_mood_j59
      refine wp_thr (fun _ => thr_t (wp_some trivial)) (fun q => thr_f ?_)
      obtain ⟨z5, z0⟩ := hs q
      dsimp only
      subst e
      refine wp_if (fun _ => ?_) (fun n0 => wp_if (fun _ => ?_) (fun n1 => ?_))
      · rw [N_moods w8 hA, bs]
        exact wp_some trivial
      · rw [N_isBarred w8 hA, bs]
        exact wp_if (fun _ => wp_some trivial) (fun _ => wp_some trivial)
      · have z2 : 2 ≤ z := by
          rw [le_i, li0] at z0
          rw [le_i, li2]
          have a0 : z.toInt ≠ 0 := fun q => n0 (by rw [← iI_of z, q]; rfl)
          have a1 : z.toInt ≠ 1 := fun q => n1 (by rw [← iI_of z, q]; rfl)
          omega
        obtain ⟨m, e2, hm2⟩ := hm ⟨z2, z5⟩
        have m3 := hA.moK.2.1
        subst e2
        refine wp_if (fun _ => ?_) (fun n2 => ?_)
        · rw [N_doesW w8 hA hm2, bs]
          exact wp_some trivial
        · rw [le_i, li2] at z2
          rw [le_i, li5] at z5
          have a2 : z.toInt ≠ 2 := fun q => n2 (by rw [← iI_of z, q]; rfl)
          have e3 : z - 3 = iI ((z.toInt.toNat - 3 : Nat) : Int) := by
            have e4 : z - 3 = iI (z.toInt - 3) := by rw [l32_3, ← iI_sub, iI_of]
            rw [e4]
            congr 1
            omega
          rw [e3, N_goesW w8 hA hm2 (by omega), bs]
          exact wp_some trivial
    refine wp_within (fun q1 q2 => wp_tt (j59 false (fun _ => ⟨q2, q1⟩))) (fun _ => wp_ff (j59 true (fun q => nomatch q)))
  unfold F_MO_mood
  refine wp_noWay h0 (wp_tt bad) (fun w e hw => wp_ff ?_)
  refine wp_within (fun q1 q2 => wp_tt ?_) (fun n => wp_ff (good w e hw (fun q => absurd q n)))
  exact wp_noMood h0 (wp_tt bad) (fun w2 m e2 e3 hw2 hm => wp_ff (good w2 e2 hw2 (fun _ => ⟨m, e3, hm⟩)))
theorem RIW.pq {W : Nat → Int32} (h : RIW W) : 1 ≤ (W 1).toInt ∧ (W 1).toInt < (W 2).toInt ∧ (W 2).toInt ≤ 12 := by
  have := h.tom
  omega
theorem N_worthsP {a b : Nat} {M : Mem} (h : RIW (M.1 95)) (ha : (a : Int) < (M.1 95 5).toInt) (hb : (b : Int) < (M.1 95 5).toInt) : wpO (F_MO_worths (iI (a : Int)) (iI (b : Int)) (plM M)) (fun M' => frW (plM M) M' ∧ ∀ s p, stW (M.1 95) a b s → p < 2 → wOK (M.1 95) a b (M.1 95 1).toInt (M.1 95 2).toInt M' s p) :=
  N_worths (M := plM M) (h.w8 ha) (h.w8 hb) (h.way a ha) (h.way b hb) h.br (plM_P M) (plM_Q M) h.pq.1 h.pq.2.1 h.pq.2.2
theorem N_firstP {a b : Nat} {M : Mem} (h : RIW (M.1 95)) (ha : (a : Int) < (M.1 95 5).toInt) (hb : (b : Int) < (M.1 95 5).toInt) : wpO (F_MO_firstOf (iI (a : Int)) (iI (b : Int)) (plM M)) (fun r => frW (plM M) r.2 ∧ ∀ s p, stW (M.1 95) a b s → p < 2 → wOK (M.1 95) a b (M.1 95 1).toInt (M.1 95 2).toInt r.2 s p) :=
  N_firstOf (M := plM M) (h.w8 ha) (h.w8 hb) (h.way a ha) (h.way b hb) h.br h.acts (plM_P M) (plM_Q M) h.pq.1 h.pq.2.1 h.pq.2.2
theorem N_areB {a b : Nat} {M : Mem} (h : RIW (M.1 95)) (ha : (a : Int) < (M.1 95 5).toInt) (hb : (b : Int) < (M.1 95 5).toInt) : F_MO_areBarred (iI (a : Int)) (iI (b : Int)) M = some (barW (M.1 95) a || barW (M.1 95) b) := N_areBarred (h.w8 ha) (h.w8 hb) (h.way a ha) (h.way b hb)
theorem E_hold {x y : Int32} {M : Mem} (h : RIW (M.1 95)) : wpO (F_MO_hold x y M) (fun _ => True) := by
  have h0 : RIW ((mSI M 94 0 0).1 95) := h
  unfold F_MO_hold
  refine wp_ways (J := fun s => F_MO_hold_j27 x y s (mSI M 94 0 0)) h0 ?_ (fun a b e1 e2 ha hb => ?_)
  · show wpO (F_MO_hold_j27 x y true (mSI M 94 0 0)) _
    unfold F_MO_hold_j27
    exact wp_thr (fun _ => thr_t (wp_some trivial)) (fun q => nomatch q)
  · show wpO (F_MO_hold_j27 x y false (mSI M 94 0 0)) _
    subst e1
    subst e2
    unfold F_MO_hold_j27
    refine wp_thr (fun q => nomatch q) (fun _ => thr_f ?_)
    dsimp only
    rw [N_areB h0 ha hb, bs]
    refine wp_thr (fun _ => thr_t (wp_some trivial)) (fun _ => thr_f ?_)
    dsimp only
    rw [N_plain, bs]
    exact wp_bind (N_firstP h0 ha hb) (fun r _ => wp_if (fun _ => wp_some trivial) (fun _ => wp_some trivial))
theorem E_first {x y : Int32} {M : Mem} (h : RIW (M.1 95)) : wpO (F_MO_first x y M) (fun _ => True) := by
  have h0 : RIW ((mSI M 94 0 0).1 95) := h
  unfold F_MO_first
  refine wp_ways (J := fun s => F_MO_first_j27 x y s (mSI M 94 0 0)) h0 ?_ (fun a b e1 e2 ha hb => ?_)
  · show wpO (F_MO_first_j27 x y true (mSI M 94 0 0)) _
    unfold F_MO_first_j27
    exact wp_thr (fun _ => thr_t (wp_some trivial)) (fun q => nomatch q)
  · show wpO (F_MO_first_j27 x y false (mSI M 94 0 0)) _
    subst e1
    subst e2
    unfold F_MO_first_j27
    refine wp_thr (fun q => nomatch q) (fun _ => thr_f ?_)
    dsimp only
    rw [N_areB h0 ha hb, bs]
    refine wp_thr (fun _ => thr_t (wp_some trivial)) (fun _ => thr_f ?_)
    dsimp only
    rw [N_plain, bs]
    exact wp_bind (N_firstP h0 ha hb) (fun r _ => wp_some trivial)
theorem at18 {x y p : Nat} (hx : x < 3) (hy : y < 3) (hp : p < 2) : inb ((2 * ((3 * iI (x : Int)) + iI (y : Int))) + iI (p : Int)) 18 := by
  have e : (2 * ((3 * iI (x : Int)) + iI (y : Int))) + iI (p : Int) = iI ((2 * (3 * x + y) + p : Nat) : Int) := by
    rw [l32_2, l32_3, iI_mul, iI_add, iI_mul, iI_add]
    rfl
  rw [e]
  exact inb_iI (by omega) (by omega) (by omega)
theorem E_worth {x1 x2 x3 x4 x5 x6 : Int32} {M : Mem} (h : RIW (M.1 95)) : wpO (F_MO_worth x1 x2 x3 x4 x5 x6 M) (fun _ => True) := by
  have h0 : RIW ((mSI M 94 0 0).1 95) := h
  have bad : wpO (F_MO_worth_j38 x1 x2 x3 x4 x5 x6 true (mSI M 94 0 0)) (fun _ => True) := by
    unfold F_MO_worth_j38
    exact wp_thr (fun _ => thr_t (wp_some trivial)) (fun q => nomatch q)
  unfold F_MO_worth
  refine wp_noMood h0 (wp_tt bad) (fun a s e1 e2 ha hs => wp_ff ?_)
  refine wp_noMood h0 (wp_tt bad) (fun b t e3 e4 hb ht => wp_ff ?_)
  refine wp_noPerson (wp_tt bad) (fun p e5 hp => wp_ff ?_)
  clear bad
  subst e1
  subst e2
  subst e3
  subst e4
  subst e5
  have s3 := (h0.way a ha).moK.2.1
  have t3 := (h0.way b hb).moK.2.1
  unfold F_MO_worth_j38
  refine wp_thr (fun q => nomatch q) (fun _ => thr_f ?_)
  dsimp only
  rw [N_areB h0 ha hb, bs]
  refine wp_thr (fun _ => thr_t (wp_some trivial)) (fun _ => thr_f ?_)
  dsimp only
  rw [N_plain, bs]
  refine wp_bind (N_worthsP h0 ha hb) (fun r _ => wp_if (fun _ => wp_t (at18 (by omega) (by omega) hp) (wp_some trivial)) (fun _ => wp_t (at18 (by omega) (by omega) hp) (wp_some trivial)))
theorem E_judge {x y : Int32} {M : Mem} (h : RIW (M.1 95)) : wpO (F_MO_judge x y M) (fun _ => True) := by
  have h0 : RIW ((mSI M 94 0 0).1 95) := h
  unfold F_MO_judge
  refine wp_ways (J := fun s => F_MO_judge_j27 x y s (mSI M 94 0 0)) h0 ?_ (fun a b e1 e2 ha hb => ?_)
  · show wpO (F_MO_judge_j27 x y true (mSI M 94 0 0)) _
    unfold F_MO_judge_j27
    exact wp_thr (fun _ => thr_t (wp_some trivial)) (fun q => nomatch q)
  · show wpO (F_MO_judge_j27 x y false (mSI M 94 0 0)) _
    subst e1
    subst e2
    unfold F_MO_judge_j27
    refine wp_thr (fun q => nomatch q) (fun _ => thr_f ?_)
    dsimp only
    have j56 : ∀ s : Bool, wpO (F_MO_judge_j56 (iI (a : Int)) (iI (b : Int)) s (mSI M 94 0 0)) (fun _ => True) := by
      intro s
      unfold F_MO_judge_j56
      refine wp_thr (fun _ => thr_t (wp_some trivial)) (fun _ => thr_f ?_)
      exact wp_mono (N_judge h0 (h0.w8 ha) (h0.w8 hb) (h0.way a ha) (h0.way b hb)) (fun _ _ => trivial)
    rw [N_areB h0 ha hb, bs]
    refine wp_if (fun _ => j56 true) (fun _ => ?_)
    exact wp_bind (N_rowIsBarred h0) (fun r _ => wp_if (fun _ => j56 true) (fun _ => j56 false))
theorem E_brought {x : Int32} {M : Mem} (h : RIW (M.1 95)) : wpO (F_MO_brought x M) (fun _ => True) := by
  have h0 : RIW ((mSI M 94 0 0).1 95) := h
  unfold F_MO_brought
  refine wp_noPerson (wp_thr (fun _ => thr_t (wp_some trivial)) (fun q => nomatch q)) (fun p e hp => ?_)
  subst e
  refine wp_thr (fun q => nomatch q) (fun _ => thr_f ?_)
  exact wp_mono (N_brought h0 hp) (fun _ _ => trivial)
theorem or_ff {a b : Bool} (h : (a || b) = false) : a = false ∧ b = false := by
  cases a <;> cases b <;> first | exact ⟨rfl, rfl⟩ | exact nomatch h
theorem E_drawn {x1 x2 x3 x4 x5 : Int32} {M : Mem} (h : RIW (M.1 95)) : wpO (F_MO_drawn x1 x2 x3 x4 x5 M) (fun _ => True) := by
  have h0 : RIW ((mSI M 94 0 0).1 95) := h
  unfold F_MO_drawn
  refine wp_ways (J := fun s => F_MO_drawn_j27 x1 x2 x3 x4 x5 s (mSI M 94 0 0)) h0 ?_ (fun a b e1 e2 ha hb => ?_)
  · show wpO (F_MO_drawn_j27 x1 x2 x3 x4 x5 true (mSI M 94 0 0)) _
    unfold F_MO_drawn_j27
    exact wp_thr (fun _ => thr_t (wp_some trivial)) (fun q => nomatch q)
  · show wpO (F_MO_drawn_j27 x1 x2 x3 x4 x5 false (mSI M 94 0 0)) _
    subst e1
    subst e2
    unfold F_MO_drawn_j27
    refine wp_thr (fun q => nomatch q) (fun _ => thr_f ?_)
    dsimp only
    have j89 : ∀ s : Bool, (s = false → x3.toInt ≤ 100 ∧ barW ((mSI M 94 0 0).1 95) a = false ∧ barW ((mSI M 94 0 0).1 95) b = false ∧ (¬ (mSI M 94 0 0).1 95 3 = 0 → ((mSI M 94 0 0).1 95 0).toInt = 2)) → wpO (F_MO_drawn_j89 (iI (a : Int)) (iI (b : Int)) x3 x4 x5 s (mSI M 94 0 0)) (fun _ => True) := by
      intro s hs
      unfold F_MO_drawn_j89
      refine wp_thr (fun _ => thr_t (wp_some trivial)) (fun q => thr_f ?_)
      obtain ⟨s1, s2, s3, s4⟩ := hs q
      dsimp only
      refine wp_within (fun q1 q2 => wp_tt ?_) (fun _ => wp_ff ?_)
      · unfold F_MO_drawn_j112
        refine wp_thr (fun q => nomatch q) (fun _ => thr_f ?_)
        dsimp only
        obtain ⟨w, e5, hw⟩ := iI_of_le (n := 3) q1 (by rw [le_i, li3] at q2; exact q2)
        subst e5
        exact wp_mono (N_drawn (M := mSI (mSI M 94 0 0) 94 37 x4) h0 (h0.w8 ha) (h0.w8 hb) (h0.way a ha) (h0.way b hb) s2 s3 s4 s1 (by omega)) (fun _ _ => trivial)
      · unfold F_MO_drawn_j112
        exact wp_thr (fun _ => thr_t (wp_some trivial)) (fun q => nomatch q)
    refine wp_within (fun q1 q2 => wp_tt ?_) (fun _ => wp_ff ?_)
    · unfold F_MO_drawn_j50
      refine wp_thr (fun q => nomatch q) (fun _ => thr_f ?_)
      dsimp only
      rw [N_areB h0 ha hb, bs]
      refine wp_if (fun _ => j89 true (fun q => nomatch q)) (fun nb => ?_)
      have hb2 : (barW ((mSI M 94 0 0).1 95) a || barW ((mSI M 94 0 0).1 95) b) = false := by
        cases hq : (barW ((mSI M 94 0 0).1 95) a || barW ((mSI M 94 0 0).1 95) b) with
        | true => exact absurd hq nb
        | false => rfl
      obtain ⟨b1, b2⟩ := or_ff hb2
      have x100 : x3.toInt ≤ 100 := by
        rw [le_i] at q2
        have : (100 : Int32).toInt = 100 := by decide
        omega
      refine wp_t ib3 ?_
      have hm := h0.mis
      have hac := h0.acts
      refine wp_if (fun c => j89 false (fun _ => ⟨x100, b1, b2, fun n3 => ?_⟩)) (fun _ => ?_)
      · exfalso
        simp only [tn3] at c
        rw [le_i, li0] at c
        exact n3 (by rw [← iI_of ((mSI M 94 0 0).1 95 3), show ((mSI M 94 0 0).1 95 3).toInt = 0 by omega]; rfl)
      · rw [S_actMany, bs]
        refine wp_if (fun c => j89 false (fun _ => ⟨x100, b1, b2, fun _ => ?_⟩)) (fun _ => j89 true (fun q => nomatch q))
        rw [le_i, li2] at c
        omega
    · unfold F_MO_drawn_j50
      exact wp_thr (fun _ => thr_t (wp_some trivial)) (fun q => nomatch q)
theorem E_meet {x y : Int32} {M : Mem} (h : RIW (M.1 95)) : wpO (F_MO_meet x y M) (fun _ => True) := by
  have h0 : RIW ((mSI M 94 0 0).1 95) := h
  unfold F_MO_meet
  refine wp_ways (J := fun s => F_MO_meet_j27 x y s (mSI M 94 0 0)) h0 ?_ (fun a b e1 e2 ha hb => ?_)
  · show wpO (F_MO_meet_j27 x y true (mSI M 94 0 0)) _
    unfold F_MO_meet_j27
    exact wp_thr (fun _ => thr_t (wp_some trivial)) (fun q => nomatch q)
  · show wpO (F_MO_meet_j27 x y false (mSI M 94 0 0)) _
    subst e1
    subst e2
    unfold F_MO_meet_j27
    refine wp_thr (fun q => nomatch q) (fun _ => thr_f ?_)
    dsimp only
    rw [N_areB h0 ha hb, bs]
    refine wp_thr (fun _ => thr_t (wp_some trivial)) (fun _ => thr_f ?_)
    dsimp only
    exact wp_bind (N_meets (h0.w8 ha) (h0.w8 hb) (h0.way a ha) (h0.way b hb) h0.rnds.2) (fun r _ => wp_some trivial)
theorem E_stays {x : Int32} {M : Mem} (h : RIW (M.1 95)) : wpO (F_MO_stays x M) (fun _ => True) := by
  have h0 : RIW ((mSI M 94 0 0).1 95) := h
  unfold F_MO_stays
  refine wp_noWay h0 (wp_thr (fun _ => thr_t (wp_some trivial)) (fun q => nomatch q)) (fun a e1 ha => ?_)
  subst e1
  refine wp_thr (fun q => nomatch q) (fun _ => thr_f ?_)
  dsimp only
  rw [N_isBarred (h0.w8 ha) (h0.way a ha), bs]
  refine wp_thr (fun _ => thr_t (wp_some trivial)) (fun _ => thr_f ?_)
  dsimp only
  exact wp_mono (N_stays h0 ha) (fun _ _ => trivial)
theorem E_beings {x : Int32} {M : Mem} (h : RIW (M.1 95)) : wpO (F_MO_beings x M) (fun _ => True) := by
  have h0 : RIW ((mSI M 94 0 0).1 95) := h
  have r5 := h0.ways
  unfold F_MO_beings
  refine wp_noWay h0 (wp_thr (fun _ => thr_t (wp_some trivial)) (fun q => nomatch q)) (fun a e1 ha => ?_)
  subst e1
  refine wp_thr (fun q => nomatch q) (fun _ => thr_f ?_)
  dsimp only
  have e : 144 + iI (a : Int) = iI ((144 + a : Nat) : Int) := by
    rw [l32_144, iI_add]
    rfl
  rw [e]
  exact wp_t (inb_iI (by omega) (by omega) (by omega)) (wp_some trivial)
