/-! ===== lots: the class's trials, by their value ===== -/
theorem lWeak {A : Nat} {g : Nat → Nat → Int} {w Y : Nat → Int} {s e up U : Int} (a2 : 2 ≤ A) (a3 : A ≤ 3) (hw : ∀ k, k < 3 → 0 ≤ s * w k) (hY : ∀ k, k < 3 → 0 ≤ e * Y k) (zw : ∀ k, k < 3 → A ≤ k → w k = 0) (zY : ∀ k, k < 3 → A ≤ k → Y k = 0) (hu : ∀ x, x < A → up ≤ s * lSc g w x A) (hv : ∀ k, k < A → e * lSr g Y k A ≤ U) : up * (e * l3 Y) ≤ U * (s * l3 w) := by
  have c : A = 2 ∨ A = 3 := by omega
  rcases c with rfl | rfl
  · have p0 := Int.mul_nonneg (hY 0 (by decide)) (show 0 ≤ s * lSc g w 0 2 - up by have := hu 0 (by decide); omega)
    have p1 := Int.mul_nonneg (hY 1 (by decide)) (show 0 ≤ s * lSc g w 1 2 - up by have := hu 1 (by decide); omega)
    have q0 := Int.mul_nonneg (hw 0 (by decide)) (show 0 ≤ U - e * lSr g Y 0 2 by have := hv 0 (by decide); omega)
    have q1 := Int.mul_nonneg (hw 1 (by decide)) (show 0 ≤ U - e * lSr g Y 1 2 by have := hv 1 (by decide); omega)
    have z1 := zw 2 (by decide) (by decide)
    have z2 := zY 2 (by decide) (by decide)
    have key : U * (s * l3 w) = up * (e * l3 Y) + (e * Y 0 * (s * lSc g w 0 2 - up) + e * Y 1 * (s * lSc g w 1 2 - up) + s * w 0 * (U - e * lSr g Y 0 2) + s * w 1 * (U - e * lSr g Y 1 2)) := by
      rw [l3_e, l3_e, z1, z2, lSc2, lSc2, lSr2, lSr2]
      grind
    rw [key]
    omega
  · have p0 := Int.mul_nonneg (hY 0 (by decide)) (show 0 ≤ s * lSc g w 0 3 - up by have := hu 0 (by decide); omega)
    have p1 := Int.mul_nonneg (hY 1 (by decide)) (show 0 ≤ s * lSc g w 1 3 - up by have := hu 1 (by decide); omega)
    have p2 := Int.mul_nonneg (hY 2 (by decide)) (show 0 ≤ s * lSc g w 2 3 - up by have := hu 2 (by decide); omega)
    have q0 := Int.mul_nonneg (hw 0 (by decide)) (show 0 ≤ U - e * lSr g Y 0 3 by have := hv 0 (by decide); omega)
    have q1 := Int.mul_nonneg (hw 1 (by decide)) (show 0 ≤ U - e * lSr g Y 1 3 by have := hv 1 (by decide); omega)
    have q2 := Int.mul_nonneg (hw 2 (by decide)) (show 0 ≤ U - e * lSr g Y 2 3 by have := hv 2 (by decide); omega)
    have key : U * (s * l3 w) = up * (e * l3 Y) + (e * Y 0 * (s * lSc g w 0 3 - up) + e * Y 1 * (s * lSc g w 1 3 - up) + e * Y 2 * (s * lSc g w 2 3 - up) + s * w 0 * (U - e * lSr g Y 0 3) + s * w 1 * (U - e * lSr g Y 1 3) + s * w 2 * (U - e * lSr g Y 2 3)) := by
      rw [l3_e, l3_e, lSc3, lSc3, lSc3, lSr3, lSr3, lSr3]
      grind
    rw [key]
    omega
/-- the way that is to be found: its facts -/
def lTgt (A : Nat) (g : Nat → Nat → Int) (X Y : Nat → Int) (v e : Int) : Prop := (e = 1 ∨ e = -1) ∧ 0 < e * l3 X ∧ l3 Y = l3 X ∧ (∀ k, k < 3 → A ≤ k → X k = 0 ∧ Y k = 0) ∧ ∀ k, k < A → lCond A g X Y v e k
theorem lWay.sum {A : Nat} {g : Nat → Nat → Int} {X Y : Nat → Int} {v : Int} (a3 : A ≤ 3) (h : lWay A g X Y v) : l3 Y = l3 X ∧ ∀ k, k < 3 → A ≤ k → X k = 0 ∧ Y k = 0 := by
  rcases h with ⟨i, m, hi, hm, rfl, rfl, rfl⟩ | ⟨i, j, m, l, hij, hj, hml, hl, rfl, rfl, rfl⟩ | ⟨rfl, rfl, rfl, rfl⟩
  · refine ⟨by rw [l3_x1 (by omega), l3_x1 (by omega)], fun k _ hk => ?_⟩
    unfold x1F
    rw [if_neg (by omega), if_neg (by omega)]
    exact ⟨rfl, rfl⟩
  · refine ⟨?_, fun k _ hk => ?_⟩
    · rw [l3_x2 (by omega) (by omega) (by omega), l3_y2 (by omega) (by omega) (by omega)]
      omega
    · unfold x2F y2F
      rw [if_neg (by omega), if_neg (by omega), if_neg (by omega), if_neg (by omega)]
      exact ⟨rfl, rfl⟩
  · refine ⟨?_, fun k h1 h2 => absurd h2 (by omega)⟩
    rw [l3_x3, l3_y3]
    grind
/-- the best that has been tried, as the class keeps it; b: what is to be found has been tried -/
def lJ (U D0 : Int) (b : Prop) (N : Mem) : Prop := ∃ u d : Int, N.2 68 3 = lI u ∧ N.2 68 4 = lI d ∧ (0 ≤ d ∧ d ≤ 176418) ∧ (d ≠ 0 → (-17465382 ≤ u ∧ u ≤ 17465382) ∧ u * D0 ≤ U * d) ∧ (b → 0 < d ∧ U * d ≤ u * D0)
theorem lJ.mono {U D0 : Int} {b b' : Prop} {N : Mem} (h : lJ U D0 b N) (hb : b' → b) : lJ U D0 b' N := by
  obtain ⟨u, d, h1, h2, h3, h4, h5⟩ := h
  exact ⟨u, d, h1, h2, h3, h4, fun q => h5 (hb q)⟩
theorem lJ.cg {U D0 : Int} {b : Prop} {N N' : Mem} (h : lJ U D0 b N) (e : N'.2 68 = N.2 68) : lJ U D0 b N' := by
  obtain ⟨u, d, h1, h2, h3⟩ := h
  exact ⟨u, d, by rw [e]; exact h1, by rw [e]; exact h2, h3⟩
def lGm (A : Nat) (g : Nat → Nat → Int) (M : Mem) : Prop := M.1 1 0 = iI (A : Int) ∧ ∀ k x, k < 3 → x < 3 → M.2 70 (3 * k + x) = lI (g k x)
theorem lGm.sm {A : Nat} {g : Nat → Nat → Int} {M N : Mem} (h : lGm A g M) (f : Same (fun k => k = 68 ∨ k = 72) M N) : lGm A g N := by
  refine ⟨((f 1 (by omega)).1 0).trans h.1, fun k x hk hx => ?_⟩
  rw [(f 70 (by omega)).2]
  exact h.2 k x hk hx
theorem C_rowN {a n i : Nat} {M : Mem} (h : i < n) (hn : n < 1000) : F_Row_at a n (iI (i : Int)) M = some (M.2 a i) := by
  rw [V_Row_at (by omega) (by omega) hn]
  rfl
theorem C_game {A k x : Nat} {g : Nat → Nat → Int} {M : Mem} (h : lGm A g M) (hk : k < 3) (hx : x < 3) : F_Row_at 70 9 ((3 * iI (k : Int)) + iI (x : Int)) M = some (lI (g k x)) := by
  have e : (3 * iI (k : Int)) + iI (x : Int) = iI ((3 * k + x : Nat) : Int) := by
    rw [l32_3, iI_mul, iI_add]
    rfl
  rw [e, C_rowN (by omega) (by decide), h.2 k x hk hx]
theorem C_mixBrings {A x : Nat} {g : Nat → Nat → Int} {w : Nat → Int} {M : Mem} (a3 : A ≤ 3) (h : lGm A g M) (hx : x < 3) (hw : ∀ k, k < 3 → M.2 72 k = lI (w k)) : F_Day_mixBrings (iI (x : Int)) M = some (lI (lSc g w x A)) := by
  apply wp_of
  unfold F_Day_mixBrings F_Day_mixBrings_l5
  refine wp_bind (Ψ := fun r => r = lI (lSc g w x A)) ?_ (fun r hr => wp_some hr)
  refine wp_iterS (P := fun k z => k ≤ A ∧ z.1 = lI (lSc g w x k) ∧ z.2 = iI (k : Int)) A ?_ _ _ ⟨Nat.zero_le _, rfl, rfl⟩ (FUEL_big (by omega))
  rintro k ⟨z1, z2⟩ hk ⟨kA, h1, h2⟩
  dsimp only at h1 h2
  subst h1
  subst h2
  unfold F_Day_mixBrings_b5
  dsimp only
  rw [h.1]
  refine wp_if (fun c => wp_some ?_) (fun c => ?_)
  · rw [iI_le (by omega) (by omega) (by omega) (by omega)] at c
    rw [show k = A by omega]
  rw [iI_le (by omega) (by omega) (by omega) (by omega)] at c
  rw [C_rowN (by omega) (by decide), bs, C_game h (by omega) hx, bs, hw k (by omega), lI_mul, lI_add]
  exact wp_some ⟨by omega, by omega, rfl, iI_succ k⟩
theorem lSc_le {g : Nat → Nat → Int} {w : Nat → Int} {x : Nat} (hg : ∀ i m, i < 3 → m < 3 → -99 ≤ g i m ∧ g i m ≤ 99) (hx : x < 3) (hw : ∀ k, k < 3 → -58806 ≤ w k ∧ w k ≤ 58806) : ∀ n : Nat, n ≤ 3 → -(5821794 * (n : Int)) ≤ lSc g w x n ∧ lSc g w x n ≤ 5821794 * (n : Int)
  | 0, _ => by
    show -(5821794 * ((0 : Nat) : Int)) ≤ 0 ∧ 0 ≤ 5821794 * ((0 : Nat) : Int)
    omega
  | n + 1, hn => by
    have ih := lSc_le hg hx hw n (by omega)
    have m := mulb (hw n (by omega)).1 (hw n (by omega)).2 (hg n x (by omega) hx).1 (hg n x (by omega) hx).2
    show -(5821794 * ((n + 1 : Nat) : Int)) ≤ lSc g w x n + w n * g n x ∧ lSc g w x n + w n * g n x ≤ 5821794 * ((n + 1 : Nat) : Int)
    omega
theorem C_min (a b : Int) (M : Mem) (a1 : -9223372036854775808 ≤ a) (a2 : a < 9223372036854775808) (b1 : -9223372036854775808 ≤ b) (b2 : b < 9223372036854775808) : F_Math_min_JJJ (lI a) (lI b) M = some (lI (min a b)) := by
  unfold F_Math_min_JJJ
  by_cases h : b < a
  · rw [if_pos (by rw [lI_lt] <;> omega), show min a b = b by omega]
  · rw [if_neg (by rw [lI_lt] <;> omega), show min a b = a by omega]
theorem C_tryMix {A : Nat} {g : Nat → Nat → Int} {X Y w : Nat → Int} {v e : Int} {b : Prop} {M : Mem} (a2 : 2 ≤ A) (a3 : A ≤ 3) (hg : ∀ i m, i < 3 → m < 3 → -99 ≤ g i m ∧ g i m ≤ 99) (hT : lTgt A g X Y v e) (hG : lGm A g M) (hw : ∀ k, k < 3 → M.2 72 k = lI (w k)) (bw : ∀ k, k < 3 → -58806 ≤ w k ∧ w k ≤ 58806) (zw : ∀ k, k < 3 → A ≤ k → w k = 0) (hJ : lJ (e * v) (e * l3 X) b M) : wpO (F_Day_tryMix M) (fun N => lJ (e * v) (e * l3 X) (b ∨ ∀ k, k < 3 → w k = X k) N ∧ Same (fun k => k = 68) M N) := by
  obtain ⟨he, hpos, hXY, hz, hc⟩ := hT
  have z0 : (0 : Int64) = lI 0 := rfl
  have pX : ∀ k, k < 3 → 0 ≤ e * X k := fun k hk => by
    rcases Nat.lt_or_ge k A with q | q
    · exact (hc k q).1.1
    · rw [(hz k hk q).1]
      omega
  have pY : ∀ k, k < 3 → 0 ≤ e * Y k := fun k hk => by
    rcases Nat.lt_or_ge k A with q | q
    · exact (hc k q).1.2
    · rw [(hz k hk q).2]
      omega
  have r0 : F_Row_at 72 3 0 M = some (lI (w 0)) := by
    rw [← hw 0 (by decide)]
    exact C_rowN (i := 0) (by decide) (by decide)
  have r1 : F_Row_at 72 3 1 M = some (lI (w 1)) := by
    rw [← hw 1 (by decide)]
    exact C_rowN (i := 1) (by decide) (by decide)
  have r2 : F_Row_at 72 3 2 M = some (lI (w 2)) := by
    rw [← hw 2 (by decide)]
    exact C_rowN (i := 2) (by decide) (by decide)
  have b0 := bw 0 (by decide)
  have b1 := bw 1 (by decide)
  have b2 := bw 2 (by decide)
  have core : ∀ (s32 : Int32) (s : Int), s32.toInt64 = lI s → (s = 1 ∨ s = -1) → 0 ≤ s * l3 w → wpO (F_Day_tryMix_j38 (lI (l3 w)) s32 M) (fun N => lJ (e * v) (e * l3 X) (b ∨ ∀ k, k < 3 → w k = X k) N ∧ Same (fun k => k = 68) M N) := by
    intro s32 s es hs hS
    have bS : -176418 ≤ l3 w ∧ l3 w ≤ 176418 := by
      rw [l3_e]
      omega
    have sb : ∀ x : Int, -58806 ≤ x → x ≤ 58806 → -58806 ≤ s * x ∧ s * x ≤ 58806 := fun x h1 h2 => by
      rcases hs with rfl | rfl <;> omega
    have s0 := sb _ b0.1 b0.2
    have s1 := sb _ b1.1 b1.2
    have s2 := sb _ b2.1 b2.2
    have sS : s * l3 w ≤ 176418 := by
      rcases hs with rfl | rfl <;> omega
    have e3 : (∀ k, k < 3 → w k = X k) → l3 w = l3 X := fun q => by
      rw [l3_e, l3_e, q 0 (by decide), q 1 (by decide), q 2 (by decide)]
    have se : (∀ k, k < 3 → w k = X k) → l3 w ≠ 0 ∧ s = e := fun q => by
      rw [e3 q] at hS ⊢
      rcases he with rfl | rfl <;> rcases hs with rfl | rfl <;> constructor <;> omega
    have skip : ¬ (∀ k, k < 3 → w k = X k) → wpO (some M) (fun N => lJ (e * v) (e * l3 X) (b ∨ ∀ k, k < 3 → w k = X k) N ∧ Same (fun k => k = 68) M N) := fun no =>
      wp_some ⟨hJ.mono (fun q => q.elim id (fun w => absurd w no)), Same.rfl'⟩
    unfold F_Day_tryMix_j38
    refine wp_if (fun c => skip (fun q => ?_)) (fun c => ?_)
    · rw [z0, lI_eq (by omega) (by omega) (by omega) (by omega)] at c
      exact (se q).1 c
    rw [z0, lI_eq (by omega) (by omega) (by omega) (by omega)] at c
    rw [r0, bs, es, lI_mul]
    refine wp_if (fun c0 => skip (fun q => ?_)) (fun c0 => ?_)
    · rw [z0, lI_lt (by omega) (by omega) (by omega) (by omega)] at c0
      have p := pX 0 (by decide)
      rw [← (se q).2, ← q 0 (by decide)] at p
      omega
    rw [z0, lI_lt (by omega) (by omega) (by omega) (by omega)] at c0
    rw [r1, bs, lI_mul]
    refine wp_if (fun c1 => skip (fun q => ?_)) (fun c1 => ?_)
    · rw [z0, lI_lt (by omega) (by omega) (by omega) (by omega)] at c1
      have p := pX 1 (by decide)
      rw [← (se q).2, ← q 1 (by decide)] at p
      omega
    rw [z0, lI_lt (by omega) (by omega) (by omega) (by omega)] at c1
    rw [r2, bs, lI_mul]
    refine wp_if (fun c2 => ?_) (fun c2 => skip (fun q => ?_))
    rotate_left
    · rw [z0, lI_le (by omega) (by omega) (by omega) (by omega)] at c2
      have p := pX 2 (by decide)
      rw [← (se q).2, ← q 2 (by decide)] at p
      omega
    rw [z0, lI_le (by omega) (by omega) (by omega) (by omega)] at c2
    have sw : ∀ k, k < 3 → 0 ≤ s * w k := fun k hk => by
      rcases m3c hk with rfl | rfl | rfl
      · omega
      · omega
      · exact c2
    have Spos : 0 < s * l3 w := by
      rcases hs with rfl | rfl <;> omega
    have mb : F_Day_mixBrings 0 M = some (lI (lSc g w 0 A)) := C_mixBrings (x := 0) a3 hG (by decide) hw
    have lb : ∀ x, x < 3 → -17465382 ≤ s * lSc g w x A ∧ s * lSc g w x A ≤ 17465382 := fun x hx => by
      have := lSc_le hg hx bw A a3
      rcases hs with rfl | rfl <;> omega
    rw [mb, bs, lI_mul, lI_mul]
    unfold F_Day_tryMix_l113
    refine wp_bind (Ψ := fun r => ∃ up, r = lI up ∧ (∀ x, x < A → up ≤ s * lSc g w x A) ∧ ∃ x, x < A ∧ up = s * lSc g w x A) ?_ (fun r hr => ?_)
    · refine wp_iterS (P := fun k z => k + 1 ≤ A ∧ z.2 = iI ((k + 1 : Nat) : Int) ∧ ∃ up, z.1 = lI up ∧ (∀ x, x < k + 1 → up ≤ s * lSc g w x A) ∧ ∃ x, x < A ∧ up = s * lSc g w x A) A ?_ _ _ ⟨by omega, rfl, _, rfl, fun x hx => by rw [show x = 0 by omega]; exact Int.le_refl _, 0, by omega, rfl⟩ (FUEL_big (by omega))
      rintro k ⟨z1, z2⟩ hk ⟨kA, h2, up, h1, h3, x0, h4, h5⟩
      dsimp only at h1 h2
      subst h1
      subst h2
      unfold F_Day_tryMix_b113
      dsimp only
      rw [hG.1]
      refine wp_if (fun c => wp_some ⟨up, rfl, fun x hx => ?_, x0, h4, h5⟩) (fun c => ?_)
      · rw [iI_le (by omega) (by omega) (by omega) (by omega)] at c
        exact h3 x (by omega)
      rw [iI_le (by omega) (by omega) (by omega) (by omega)] at c
      have l1 := lb x0 (by omega)
      have l2 := lb (k + 1) (by omega)
      rw [C_mixBrings (x := k + 1) a3 hG (by omega) hw, bs, es, lI_mul, C_min _ _ _ (by omega) (by omega) (by omega) (by omega), bs]
      refine wp_some ⟨by omega, by omega, iI_succ (k + 1), min up (s * lSc g w (k + 1) A), rfl, fun x hx => ?_, ?_⟩
      · by_cases q : x = k + 1
        · rw [q]
          omega
        · have := h3 x (by omega)
          omega
      · rcases Int.lt_or_le (s * lSc g w (k + 1) A) up with q | q
        · exact ⟨k + 1, by omega, by omega⟩
        · exact ⟨x0, h4, by omega⟩
    · obtain ⟨up, rfl, u1, x0, u2, u3⟩ := hr
      have ub := lb x0 (by omega)
      have weak := lWeak (U := e * v) a2 a3 sw pY zw (fun k hk h => (hz k hk h).2) u1 (fun k hk => (hc k hk).2.1)
      rw [hXY] at weak
      have tgt : (∀ k, k < 3 → w k = X k) → e * v ≤ up ∧ s * l3 w = e * l3 X := fun q => by
        obtain ⟨-, q2⟩ := se q
        refine ⟨?_, by rw [q2, e3 q]⟩
        have t := (hc x0 u2).2.2
        have ww : lSc g w x0 A = lSc g X x0 A := by
          have : ∀ n, n ≤ 3 → lSc g w x0 n = lSc g X x0 n := fun n => by
            induction n with
            | zero => exact fun _ => rfl
            | succ n ih =>
              intro hn
              show lSc g w x0 n + w n * g n x0 = lSc g X x0 n + X n * g n x0
              rw [ih (by omega), q n (by omega)]
          exact this A a3
        rw [u3, q2, ww]
        exact t
      obtain ⟨u, d, hu, hd, hd2, hd3, hb⟩ := hJ
      generalize s * l3 w = S at *
      generalize e * v = U at *
      generalize hD0 : e * l3 X = D0 at *
      have setJ : (b → U * S ≤ up * D0) → wpO (some (mSL (mSL M 68 3 (lI up)) 68 4 (lI S))) (fun N => lJ U D0 (b ∨ ∀ k, k < 3 → w k = X k) N ∧ Same (fun k => k = 68) M N) := fun hb2 => by
        refine wp_some ⟨⟨up, S, ?_, mL_hit, ⟨by omega, by omega⟩, fun _ => ⟨ub.elim (fun a b => by rw [u3]; exact ⟨a, b⟩), weak⟩, fun q => ⟨Spos, ?_⟩⟩, ?_⟩
        · rw [mL_ix (by decide), mL_hit]
        · rcases q with q | q
          · exact hb2 q
          · obtain ⟨t1, t2⟩ := tgt q
            rw [t2]
            exact Int.mul_le_mul_of_nonneg_right t1 (by omega)
        · exact Same.sL (k := 68) (Same.sL (k := 68) (Same.rfl' (S := fun k => k = 68) (M := M)) rfl) rfl
      unfold F_Day_tryMix_j147
      rw [hd, hu]
      refine wp_if (fun c => setJ (fun q => ?_)) (fun c => ?_)
      · rw [z0, lI_eq (by omega) (by omega) (by omega) (by omega)] at c
        have := (hb q).1
        omega
      rw [z0, lI_eq (by omega) (by omega) (by omega) (by omega)] at c
      obtain ⟨hu2, hu3⟩ := hd3 c
      have m1 := mulb (a := up) (b := d) (m := 17465382) (n := 176418) (by omega) (by omega) (by omega) (by omega)
      have m2 := mulb (a := u) (b := S) (m := 17465382) (n := 176418) (by omega) (by omega) (by omega) (by omega)
      rw [lI_mul, lI_mul]
      refine wp_if (fun c3 => ?_) (fun c3 => setJ (fun q => ?_))
      · rw [lI_le (by omega) (by omega) (by omega) (by omega)] at c3
        refine wp_some ⟨⟨u, d, hu, hd, hd2, hd3, fun q => ?_⟩, Same.rfl'⟩
        rcases q with q | q
        · exact hb q
        · obtain ⟨t1, t2⟩ := tgt q
          have t3 := Int.mul_le_mul_of_nonneg_right t1 hd2.1
          rw [t2] at c3
          exact ⟨by omega, by omega⟩
      · rw [lI_le (by omega) (by omega) (by omega) (by omega)] at c3
        obtain ⟨q1, q2⟩ := hb q
        have t1 := Int.mul_le_mul_of_nonneg_right q2 (show 0 ≤ S by omega)
        have t2 := Int.mul_le_mul_of_nonneg_right (show u * S ≤ up * d by omega) (show 0 ≤ D0 by omega)
        have t3 : (U * S) * d ≤ (up * D0) * d := by
          have x1 : U * d * S = U * S * d := by grind
          have x2 : u * D0 * S = u * S * D0 := by grind
          have x3 : up * d * D0 = up * D0 * d := by grind
          omega
        exact Int.le_of_mul_le_mul_right t3 q1
  unfold F_Day_tryMix
  rw [r0, bs, r1, bs, r2, bs, lI_add, lI_add]
  have bS : -176418 ≤ l3 w ∧ l3 w ≤ 176418 := by
    rw [l3_e]
    omega
  show wpO (if 0 ≤ lI (l3 w) then F_Day_tryMix_j38 (lI (l3 w)) 1 M else F_Day_tryMix_j38 (lI (l3 w)) (-1) M) _
  refine wp_if (fun c => core 1 1 (by decide) (Or.inl rfl) ?_) (fun c => core (-1) (-1) (by decide) (Or.inr rfl) ?_)
  · rw [z0, lI_le (by omega) (by omega) (by omega) (by omega)] at c
    omega
  · rw [z0, lI_le (by omega) (by omega) (by omega) (by omega)] at c
    omega
theorem C_setW {i j : Nat} {a b : Int} {M : Mem} (hi : i < 3) (hj : j < 3) : wpO (F_Day_setWeights (iI (i : Int)) (lI a) (iI (j : Int)) (lI b) M) (fun N => Same (fun k => k = 72) M N ∧ ∀ k, k < 3 → N.2 72 k = lI ((if k = i then a else 0) + (if k = j then b else 0))) := by
  have z0 : (0 : Int64) = lI 0 := rfl
  unfold F_Day_setWeights
  refine wp_bind (V_Row_setAll (by decide)) (fun N hN => ?_)
  obtain ⟨h1, h2⟩ := hN
  rw [V_Row_add (by omega) (by omega) (by decide), bs, V_Row_add (by omega) (by omega) (by decide), bs, show ((i : Nat) : Int).toNat = i from rfl, show ((j : Nat) : Int).toNat = j from rfl]
  refine wp_some ⟨(h2.sL rfl).sL rfl, fun k hk => ?_⟩
  have n1 : ∀ t, t < 3 → (mSL N 72 i (N.2 72 i + lI a)).2 72 t = lI (if t = i then a else 0) := fun t ht => by
    by_cases q : t = i
    · rw [if_pos q, q, mL_hit, h1 i hi, z0, lI_add, Int.zero_add]
    · rw [if_neg q, mL_ix q, h1 t ht]
      exact z0
  generalize mSL N 72 i (N.2 72 i + lI a) = N1 at *
  by_cases q : k = j
  · rw [q, mL_hit, n1 j hj, lI_add, if_pos (show j = j from rfl)]
  · rw [mL_ix q, n1 k hk, if_neg q, Int.add_zero]
