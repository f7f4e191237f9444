/-! ===== doubt: the reference's rows, told exactly ===== -/
def adT (T : Nat → Int) (to : Nat) (w : Int) : Nat → Int := fun k => if k = to then T k + w else T k
theorem adT_v {T : Nat → Int} {to : Nat} {w : Int} {k : Nat} : adT T to w k = T k + (if k = to then w else 0) := by
  unfold adT
  by_cases q : k = to
  · rw [if_pos q, if_pos q]
  · rw [if_neg q, if_neg q, Int.add_zero]
/-- chances, by where one comes: after t of the four ways to see -/
def TRt (n : Nat) (W : Nat → Int32) (a b i j : Nat) (f e : Int) : Nat → Nat → Int
  | 0 => fun _ => 0
  | t + 1 => adT (TRt n W a b i j f e t) (n * gz W a i (if t % 2 = 1 then 1 - dz W b j else dz W b j) + gz W b j (if t / 2 = 1 then 1 - dz W a i else dz W a i)) ((if t % 2 = 1 then e else f - e) * (if t / 2 = 1 then e else f - e))
def rowV (N : Mem) (all s : Nat) (P q f : Int) (T : Nat → Int) : Prop := ∀ k, k < all → N.2 110 (4 * s + k) = lI ((if s = k then q * f * f else 0) - P * T k)
theorem rowV.add {N : Mem} {all s to : Nat} {P q f w : Int} {T : Nat → Int} (h : rowV N all s P q f T) (hto : to < all) : rowV (mSL N 110 (4 * s + to) (N.2 110 (4 * s + to) - lI (P * w))) all s P q f (adT T to w) := fun k hk => by
  unfold adT
  by_cases c : k = to
  · rw [if_pos c, c, mL_hit, h to hto, lI_sub, Int.mul_add]
    congr 1
    omega
  · rw [if_neg c, mL_ix (by omega)]
    exact h k hk
theorem rowV.off {N : Mem} {all s s2 i : Nat} {P q f : Int} {T : Nat → Int} {v : Int64} (h : rowV N all s2 P q f T) (h4 : all ≤ 4) (hs : s2 < s) (hi : 4 * s ≤ i) : rowV (mSL N 110 i v) all s2 P q f T := fun k hk => by
  rw [mL_ix (by omega)]
  exact h k hk
theorem R_doubts {a b : Nat} {P q f e : Int} {M : Mem} (ha : a ≤ 8) (hb : b ≤ 8) (hA : WOKW (M.1 95) a) (hB : WOKW (M.1 95) b) (a2 : mo (M.1 95) a ≤ 2) (b2 : mo (M.1 95) b ≤ 2) (hd1 : ∀ m, m < mo (M.1 95) a → dz (M.1 95) a m ≤ 1) (hd2 : ∀ m, m < mo (M.1 95) b → dz (M.1 95) b m ≤ 1) (hF : M.1 95 4 = iI f) (hE : M.1 95 3 = iI e) (hP : M.1 94 19 = iI P) (hQ : M.1 94 20 = iI q) (e1 : 0 ≤ e) (e2 : e < f) (f9 : f ≤ 9) (p1 : 1 ≤ P) (p2 : P < q) (q9 : q ≤ 9) : wpO (F_MO_doubts (iI (a : Int)) (iI (b : Int)) M) (fun N => N.1 = M.1 ∧ ∀ s, s < mo (M.1 95) a * mo (M.1 95) b → rowV N (mo (M.1 95) a * mo (M.1 95) b) s P q f (TRt (mo (M.1 95) b) (M.1 95) a b (s / mo (M.1 95) b) (s % mo (M.1 95) b) f e 4)) := by
  have n1 := hB.moK.1
  have h4 : mo (M.1 95) a * mo (M.1 95) b ≤ 2 * 2 := Nat.mul_le_mul a2 b2
  have nA : F_MO_moodsOf (iI (a : Int)) M = some (iI (mo (M.1 95) a : Int)) := N_moods ha hA
  have nB : F_MO_moodsOf (iI (b : Int)) M = some (iI (mo (M.1 95) b : Int)) := N_moods hb hB
  unfold F_MO_doubts
  refine wp_t ib4 (wp_t ib3 ?_)
  simp only [tn3, tn4]
  rw [nB, bs, nA, bs, hF, hE, iI_l (by omega) (by omega), iI_l (by omega) (by omega), iI_mulN]
  have hdiv : ∀ s, s < mo (M.1 95) a * mo (M.1 95) b → s / mo (M.1 95) b < mo (M.1 95) a ∧ s % mo (M.1 95) b < mo (M.1 95) b := fun s hs => ⟨Nat.div_lt_of_lt_mul (by rw [Nat.mul_comm]; exact hs), Nat.mod_lt _ (by omega)⟩
  generalize hall : mo (M.1 95) a * mo (M.1 95) b = all at *
  generalize hnb : mo (M.1 95) b = n at *
  have l0 : (0 : Int32) = iI 0 := rfl
  have z0 : (0 : Int64) = lI 0 := rfl
  have hne : ¬ iI (n : Int) = 0 := by rw [l0, iI_eq] <;> omega
  unfold F_MO_doubts_l37
  refine wp_bind (Ψ := fun N => N.1 = M.1 ∧ ∀ s, s < all → rowV N all s P q f (TRt n (M.1 95) a b (s / n) (s % n) f e 4)) ?_ (fun r hr => wp_some hr)
  refine wp_iterS (P := fun s z => z.1 = iI (s : Int) ∧ z.2.1 = M.1 ∧ ∀ s2, s2 < s → rowV z.2 all s2 P q f (TRt n (M.1 95) a b (s2 / n) (s2 % n) f e 4)) all ?_ _ _ ⟨rfl, rfl, fun s2 h => absurd h (Nat.not_lt_zero _)⟩ (FUEL_big (by omega))
  rintro s ⟨z1, N⟩ hs ⟨i1, m1, m2⟩
  dsimp only at i1 m1 m2
  subst i1
  unfold F_MO_doubts_b37
  dsimp only
  refine wp_if (fun c => wp_some ⟨m1, fun s2 h => m2 s2 ?_⟩) (fun c => ?_)
  · rw [iI_le (by omega) (by omega) (by omega) (by omega)] at c
    omega
  rw [iI_le (by omega) (by omega) (by omega) (by omega)] at c
  have e4 : ∀ k : Nat, (4 * iI (s : Int)) + iI (k : Int) = iI ((4 * s + k : Nat) : Int) := fun k => by
    rw [l32_4, iI_mul, iI_add]
    rfl
  unfold F_MO_doubts_l47
  refine wp_bind (Ψ := fun N => N.1 = M.1 ∧ (∀ s2, s2 < s → rowV N all s2 P q f (TRt n (M.1 95) a b (s2 / n) (s2 % n) f e 4)) ∧ rowV N all s P q f (fun _ => 0)) ?_ (fun N2 h2 => ?_)
  · refine wp_iterS (P := fun k z => z.1 = iI (k : Int) ∧ z.2.1 = M.1 ∧ (∀ s2, s2 < s → rowV z.2 all s2 P q f (TRt n (M.1 95) a b (s2 / n) (s2 % n) f e 4)) ∧ ∀ j, j < k → z.2.2 110 (4 * s + j) = lI (if s = j then q * f * f else 0)) all ?_ _ _ ⟨rfl, m1, m2, fun j h => absurd h (Nat.not_lt_zero _)⟩ (FUEL_big (by omega))
    rintro k ⟨z1, N2⟩ hk ⟨i1, o1, o2, o3⟩
    dsimp only at i1 o1 o2 o3
    subst i1
    unfold F_MO_doubts_b47
    dsimp only
    refine wp_if (fun c2 => wp_some ⟨o1, o2, fun j hj => ?_⟩) (fun c2 => ?_)
    · rw [iI_le (by omega) (by omega) (by omega) (by omega)] at c2
      show N2.2 110 (4 * s + j) = lI ((if s = j then q * f * f else 0) - P * 0)
      rw [o3 j (by omega), Int.mul_zero, Int.sub_zero]
    rw [iI_le (by omega) (by omega) (by omega) (by omega)] at c2
    rw [e4]
    have i16 : inb (iI ((4 * s + k : Nat) : Int)) 16 := inb_iI (by omega) (by omega) (by omega)
    have put : ∀ v : Int, v = (if s = k then q * f * f else 0) → wpO (some (Sum.inl (iI (k : Int) + 1, mSL N2 110 (iI ((4 * s + k : Nat) : Int)).toNatClampNeg (lI v))) : Option ((Int32 × Mem) ⊕ Mem)) (sumP (fun s' => k < all ∧ s'.1 = iI ((k + 1 : Nat) : Int) ∧ s'.2.1 = M.1 ∧ (∀ s2, s2 < s → rowV s'.2 all s2 P q f (TRt n (M.1 95) a b (s2 / n) (s2 % n) f e 4)) ∧ ∀ j, j < k + 1 → s'.2.2 110 (4 * s + j) = lI (if s = j then q * f * f else 0)) (fun N => N.1 = M.1 ∧ (∀ s2, s2 < s → rowV N all s2 P q f (TRt n (M.1 95) a b (s2 / n) (s2 % n) f e 4)) ∧ rowV N all s P q f (fun _ => 0))) := by
      intro v hv
      rw [clN (by omega)]
      refine wp_some ⟨by omega, iI_succ k, o1, fun s2 h => (o2 s2 h).off (by omega) h (by omega), fun j hj => ?_⟩
      show (mSL N2 110 (4 * s + k) (lI v)).2 110 (4 * s + j) = _
      by_cases qj : j = k
      · rw [qj, mL_hit, hv]
      · rw [mL_ix (by omega)]
        exact o3 j (by omega)
    refine wp_if (fun c3 => wp_t i16 ?_) (fun c3 => wp_t i16 ?_)
    · rw [iI_eq (by omega) (by omega) (by omega) (by omega)] at c3
      rw [o1, hQ, iI_l (by omega) (by omega), lI_mul, lI_mul]
      exact put _ (by rw [if_pos (by omega)])
    · rw [iI_eq (by omega) (by omega) (by omega) (by omega)] at c3
      rw [z0]
      exact put _ (by rw [if_neg (by omega)])
  obtain ⟨o1, o2, o3⟩ := h2
  obtain ⟨d1, d2⟩ := hdiv s (by omega)
  have o95 : N2.1 95 = M.1 95 := by rw [o1]
  unfold F_MO_doubts_j92
  rw [idivN (by omega) (by omega), irmN (by omega) (by omega)]
  refine wp_t hne ?_
  rw [N_doesW (M := N2) ha (by rw [o95]; exact hA) (by rw [o95]; exact d1), bs]
  refine wp_t hne ?_
  rw [N_doesW (M := N2) hb (by rw [o95]; exact hB) (by rw [o95, hnb]; exact d2), bs, o95]
  have x1 := hd1 _ d1
  have y1 := hd2 _ d2
  generalize hx : dz (M.1 95) a (s / n) = x at *
  generalize hy : dz (M.1 95) b (s % n) = y at *
  unfold F_MO_doubts_l119
  refine wp_bind (Ψ := fun N => N.1 = M.1 ∧ (∀ s2, s2 < s → rowV N all s2 P q f (TRt n (M.1 95) a b (s2 / n) (s2 % n) f e 4)) ∧ rowV N all s P q f (TRt n (M.1 95) a b (s / n) (s % n) f e 4)) ?_ (fun N3 h3 => wp_some ⟨by omega, iI_succ s, h3.1, fun s2 h => ?_⟩)
  · -- one step: where it goes, its weight
    have go : ∀ (N3 : Mem) (T : Nat → Int) (u v : Int) (yy xx : Nat) (w1 w2 : Int64), N3.1 = M.1 → (∀ s2, s2 < s → rowV N3 all s2 P q f (TRt n (M.1 95) a b (s2 / n) (s2 % n) f e 4)) → rowV N3 all s P q f T → yy ≤ 1 → xx ≤ 1 → w1 = lI u → w2 = lI v → n * gz (M.1 95) a (s / n) yy + gz (M.1 95) b (s % n) xx < all ∧ F_MO_goes (iI (a : Int)) (iI ((s / n : Nat) : Int)) (iI (yy : Int)) N3 = some (iI (gz (M.1 95) a (s / n) yy : Int)) ∧ F_MO_goes (iI (b : Int)) (iI ((s % n : Nat) : Int)) (iI (xx : Int)) N3 = some (iI (gz (M.1 95) b (s % n) xx : Int)) ∧ (4 * iI (s : Int)) + ((iI (n : Int) * iI (gz (M.1 95) a (s / n) yy : Int)) + iI (gz (M.1 95) b (s % n) xx : Int)) = iI ((4 * s + (n * gz (M.1 95) a (s / n) yy + gz (M.1 95) b (s % n) xx) : Nat) : Int) ∧ (mSL N3 110 (4 * s + (n * gz (M.1 95) a (s / n) yy + gz (M.1 95) b (s % n) xx)) (N3.2 110 (4 * s + (n * gz (M.1 95) a (s / n) yy + gz (M.1 95) b (s % n) xx)) - (((N3.1 94 19).toInt64 * w1) * w2))).1 = M.1 ∧ (∀ s2, s2 < s → rowV (mSL N3 110 (4 * s + (n * gz (M.1 95) a (s / n) yy + gz (M.1 95) b (s % n) xx)) (N3.2 110 (4 * s + (n * gz (M.1 95) a (s / n) yy + gz (M.1 95) b (s % n) xx)) - (((N3.1 94 19).toInt64 * w1) * w2))) all s2 P q f (TRt n (M.1 95) a b (s2 / n) (s2 % n) f e 4)) ∧ rowV (mSL N3 110 (4 * s + (n * gz (M.1 95) a (s / n) yy + gz (M.1 95) b (s % n) xx)) (N3.2 110 (4 * s + (n * gz (M.1 95) a (s / n) yy + gz (M.1 95) b (s % n) xx)) - (((N3.1 94 19).toInt64 * w1) * w2))) all s P q f (adT T (n * gz (M.1 95) a (s / n) yy + gz (M.1 95) b (s % n) xx) (u * v)) := by
      intro N3 T u v yy xx w1 w2 r1 r2 r3 hyy hxx hw1 hw2
      have r95 : N3.1 95 = M.1 95 := by rw [r1]
      have ga := (hA.gzK (m := s / n) (s := yy) d1 (by omega)).1
      have gb := (hB.gzK (m := s % n) (s := xx) (by omega) (by omega)).1
      rw [hnb] at gb
      have hto : n * gz (M.1 95) a (s / n) yy + gz (M.1 95) b (s % n) xx < all := by
        have q1 : n * (gz (M.1 95) a (s / n) yy + 1) ≤ n * mo (M.1 95) a := Nat.mul_le_mul_left _ ga
        rw [Nat.mul_add, Nat.mul_one, Nat.mul_comm n (mo (M.1 95) a), hall] at q1
        omega
      refine ⟨hto, ?_, ?_, ?_, r1, fun s2 h => (r2 s2 h).off (by omega) h (by omega), ?_⟩
      · rw [N_goesW (M := N3) ha (by rw [r95]; exact hA) (by rw [r95]; exact d1) (by omega), r95]
      · rw [N_goesW (M := N3) hb (by rw [r95]; exact hB) (by rw [r95, hnb]; exact d2) (by omega), r95]
      · rw [iI_mulN, iI_add, l32_4, iI_mul, iI_add]
        rfl
      · rw [r1, hP, iI_l (by omega) (by omega), hw1, hw2, lI_mul, lI_mul, Int.mul_assoc]
        exact r3.add hto
    have tr0 : TRt n (M.1 95) a b (s / n) (s % n) f e (0 + 1) = adT (TRt n (M.1 95) a b (s / n) (s % n) f e 0) (n * gz (M.1 95) a (s / n) y + gz (M.1 95) b (s % n) x) ((f - e) * (f - e)) := by
      rw [← hx, ← hy]
      rfl
    have tr1 : TRt n (M.1 95) a b (s / n) (s % n) f e (1 + 1) = adT (TRt n (M.1 95) a b (s / n) (s % n) f e 1) (n * gz (M.1 95) a (s / n) (1 - y) + gz (M.1 95) b (s % n) x) (e * (f - e)) := by
      rw [← hx, ← hy]
      rfl
    have tr2 : TRt n (M.1 95) a b (s / n) (s % n) f e (2 + 1) = adT (TRt n (M.1 95) a b (s / n) (s % n) f e 2) (n * gz (M.1 95) a (s / n) y + gz (M.1 95) b (s % n) (1 - x)) ((f - e) * e) := by
      rw [← hx, ← hy]
      rfl
    have tr3 : TRt n (M.1 95) a b (s / n) (s % n) f e (3 + 1) = adT (TRt n (M.1 95) a b (s / n) (s % n) f e 3) (n * gz (M.1 95) a (s / n) (1 - y) + gz (M.1 95) b (s % n) (1 - x)) (e * e) := by
      rw [← hx, ← hy]
      rfl
    have fe : lI f - lI e = lI (f - e) := lI_sub f e
    refine wp_iterS (P := fun k z => z.1 = iI (k : Int) ∧ z.2.1 = M.1 ∧ (∀ s2, s2 < s → rowV z.2 all s2 P q f (TRt n (M.1 95) a b (s2 / n) (s2 % n) f e 4)) ∧ rowV z.2 all s P q f (TRt n (M.1 95) a b (s / n) (s % n) f e k)) 4 ?_ _ _ ⟨rfl, o1, o2, o3⟩ (FUEL_big (by decide))
    rintro k ⟨z1, N3⟩ hk ⟨i1, r1, r2, r3⟩
    dsimp only at i1 r1 r2 r3
    subst i1
    unfold F_MO_doubts_b119
    dsimp only
    have hk5 : k = 0 ∨ k = 1 ∨ k = 2 ∨ k = 3 ∨ k = 4 := by omega
    rcases hk5 with rfl | rfl | rfl | rfl | rfl
    · obtain ⟨g1, g2, g3, g4, g5, g6, g7⟩ := go N3 _ (f - e) (f - e) y x (lI f - lI e) (lI f - lI e) r1 r2 r3 (by omega) (by omega) fe fe
      rw [← tr0] at g7
      generalize n * gz (M.1 95) a (s / n) y + gz (M.1 95) b (s % n) x = to at *
      have i16 : inb (iI ((4 * s + to : Nat) : Int)) 16 := inb_iI (by omega) (by omega) (by omega)
      refine wp_f (by decide) (wp_t hne (wp_f (by decide) ?_))
      unfold F_MO_doubts_j151
      rw [idivN (by omega) (by omega), g2, bs]
      refine wp_t hne (wp_f (by decide) ?_)
      unfold F_MO_doubts_j179
      rw [irmN (by omega) (by omega), g3, bs, g4]
      refine wp_t i16 (wp_f (by decide) ?_)
      unfold F_MO_doubts_j220
      simp only [clN (n := 4 * s + to) (by omega)]
      refine wp_f (by decide) (wp_t i16 (wp_some ⟨by decide, iI_succ 0, g5, g6, g7⟩))
    · obtain ⟨g1, g2, g3, g4, g5, g6, g7⟩ := go N3 _ e (f - e) (1 - y) x (lI e) (lI f - lI e) r1 r2 r3 (by omega) (by omega) rfl fe
      rw [← tr1] at g7
      generalize n * gz (M.1 95) a (s / n) (1 - y) + gz (M.1 95) b (s % n) x = to at *
      have i16 : inb (iI ((4 * s + to : Nat) : Int)) 16 := inb_iI (by omega) (by omega) (by omega)
      refine wp_f (by decide) (wp_t hne (wp_t (by decide) ?_))
      unfold F_MO_doubts_j151
      rw [idivN (by omega) (by omega), one_sub y1, g2, bs]
      refine wp_t hne (wp_f (by decide) ?_)
      unfold F_MO_doubts_j179
      rw [irmN (by omega) (by omega), g3, bs, g4]
      refine wp_t i16 (wp_t (by decide) ?_)
      unfold F_MO_doubts_j220
      simp only [clN (n := 4 * s + to) (by omega)]
      refine wp_f (by decide) (wp_t i16 (wp_some ⟨by decide, iI_succ 1, g5, g6, g7⟩))
    · obtain ⟨g1, g2, g3, g4, g5, g6, g7⟩ := go N3 _ (f - e) e y (1 - x) (lI f - lI e) (lI e) r1 r2 r3 (by omega) (by omega) fe rfl
      rw [← tr2] at g7
      generalize n * gz (M.1 95) a (s / n) y + gz (M.1 95) b (s % n) (1 - x) = to at *
      have i16 : inb (iI ((4 * s + to : Nat) : Int)) 16 := inb_iI (by omega) (by omega) (by omega)
      refine wp_f (by decide) (wp_t hne (wp_f (by decide) ?_))
      unfold F_MO_doubts_j151
      rw [idivN (by omega) (by omega), g2, bs]
      refine wp_t hne (wp_t (by decide) ?_)
      unfold F_MO_doubts_j179
      rw [irmN (by omega) (by omega), one_sub x1, g3, bs, g4]
      refine wp_t i16 (wp_f (by decide) ?_)
      unfold F_MO_doubts_j220
      simp only [clN (n := 4 * s + to) (by omega)]
      refine wp_t (by decide) (wp_t i16 (wp_some ⟨by decide, iI_succ 2, g5, g6, g7⟩))
    · obtain ⟨g1, g2, g3, g4, g5, g6, g7⟩ := go N3 _ e e (1 - y) (1 - x) (lI e) (lI e) r1 r2 r3 (by omega) (by omega) rfl rfl
      rw [← tr3] at g7
      generalize n * gz (M.1 95) a (s / n) (1 - y) + gz (M.1 95) b (s % n) (1 - x) = to at *
      have i16 : inb (iI ((4 * s + to : Nat) : Int)) 16 := inb_iI (by omega) (by omega) (by omega)
      refine wp_f (by decide) (wp_t hne (wp_t (by decide) ?_))
      unfold F_MO_doubts_j151
      rw [idivN (by omega) (by omega), one_sub y1, g2, bs]
      refine wp_t hne (wp_t (by decide) ?_)
      unfold F_MO_doubts_j179
      rw [irmN (by omega) (by omega), one_sub x1, g3, bs, g4]
      refine wp_t i16 (wp_t (by decide) ?_)
      unfold F_MO_doubts_j220
      simp only [clN (n := 4 * s + to) (by omega)]
      refine wp_t (by decide) (wp_t i16 (wp_some ⟨by decide, iI_succ 3, g5, g6, g7⟩))
    · exact wp_t (by decide) (wp_some ⟨r1, r2, r3⟩)
  · by_cases qs : s2 = s
    · rw [qs]
      exact h3.2.2
    · exact h3.2.1 s2 (by omega)
