/-! ===== values: held, few, village ===== -/
theorem tb0 : ∀ j : Nat, j < 6 → nbit 0 j = true := by decide +kernel
theorem tb2 : ∀ n : Nat, n < 7 → ∀ b : Nat, b < 2 ^ n → nrow (2 ^ n - 1 - b) + nrow b = n ∧ ∀ k : Nat, k < n → nbit (2 ^ n - 1 - b) k = !nbit b k := by decide +kernel
theorem tb3 : ∀ n : Nat, n < 7 → ∀ b : Nat, b < 2 ^ n → anot (2 ^ n - 1) b = 2 ^ n - 1 - b := by decide +kernel
theorem tb4 : ∀ n : Nat, n < 7 → nrow (2 ^ n - 1) = n ∧ ∀ b : Nat, b < 2 ^ n → n ≤ nrow b → b = 2 ^ n - 1 := by decide +kernel
theorem tb5 : ∀ n : Nat, n < 7 → 1 ≤ 2 ^ n ∧ 2 ^ n ≤ 64 := by decide +kernel
theorem nbit_t {s k : Nat} (h : ((iI (s : Int) >>> (iI (k : Int) &&& 31)) &&& 1) = 0) : nbit s k = true := decide_eq_true h
theorem nbit_f {s k : Nat} (h : ¬ ((iI (s : Int) >>> (iI (k : Int) &&& 31)) &&& 1) = 0) : nbit s k = false := decide_eq_false h
def ok1 (W : Nat → Int32) (m k : Nat) : Prop := wU W m k * (W 2).toInt ≤ (W 1).toInt * wD W m k
def heldU (W : Nat → Int32) (m s k : Nat) : Prop := ∀ j : Nat, j < k → nbit s j = false → ok1 W m j
def heldS (W : Nat → Int32) (n s : Nat) : Prop := heldU W (nrow s) s n
theorem heldU_t {W : Nat → Int32} {m s k : Nat} (h : nbit s k = true) : heldU W m s k ↔ heldU W m s (k + 1) := by
  constructor
  · intro q j hj hb
    rcases Nat.lt_or_ge j k with w | w
    · exact q j w hb
    · have e : j = k := by omega
      rw [e, h] at hb
      exact absurd hb (by decide)
  · intro q j hj
    exact q j (by omega)
theorem heldU_f {W : Nat → Int32} {m s k : Nat} (h : nbit s k = false) : (heldU W m s k ∧ ok1 W m k) ↔ heldU W m s (k + 1) := by
  constructor
  · intro q j hj hb
    rcases Nat.lt_or_ge j k with w | w
    · exact q.1 j w hb
    · rw [show j = k by omega]
      exact q.2
  · intro q
    exact ⟨fun j hj => q j (by omega), q k (by omega) h⟩
theorem ok1_no {W : Nat → Int32} (h : RIW W) {m k : Nat} (hk : (k : Int) < (W 8).toInt) (hm : m ≤ 64) (q : wD W m k ≤ wU W m k) : ¬ ok1 W m k := by
  obtain ⟨⟨u1, u2⟩, u3, u4⟩ := wb (k := k) (m := m) h hk hm
  have hp := h.2.1
  unfold ok1
  intro w
  have e1 : wD W m k * (W 2).toInt ≤ wU W m k * (W 2).toInt := Int.mul_le_mul_of_nonneg_right q (by omega)
  have e2 : wD W m k * ((W 1).toInt + 1) ≤ wD W m k * (W 2).toInt := Int.mul_le_mul_of_nonneg_left (by omega) (by omega)
  rw [Int.mul_add, Int.mul_one, Int.mul_comm] at e2
  omega
theorem N_isHeldV {s n : Nat} {M : Mem} (h : RIW (M.1 95)) (h8 : M.1 95 8 = iI (n : Int)) (hn : n ≤ 6) (hs : s < 64) : wpO (F_MO_isHeld (iI (s : Int)) M) (fun r => (r.1 = true ↔ heldS (M.1 95) n s) ∧ sameV M r.2) := by
  have t8 : (M.1 95 8).toInt = n := by rw [h8, iI_toInt (by omega) (by omega)]
  have hp := h.2.1
  unfold F_MO_isHeld F_MO_isHeld_l4
  refine wp_bind (Ψ := fun r => (r.1 = true ↔ heldS (M.1 95) n s) ∧ sameV M r.2) ?_ (fun r hr => wp_some hr)
  refine wp_iterS (P := fun k z => k ≤ n ∧ (z.1 = true ↔ heldU (M.1 95) (nrow s) s k) ∧ z.2.1 = iI (k : Int) ∧ sameV M z.2.2) 6 ?_ _ _ ⟨Nat.zero_le _, ⟨fun _ j q => absurd q (Nat.not_lt_zero _), fun _ => rfl⟩, rfl, rfl, rfl, rfl⟩ (FUEL_big (by decide))
  rintro k ⟨z1, z2, N⟩ hk ⟨kn, e1, e2, m⟩
  dsimp only at e1 e2 m
  subst e2
  unfold F_MO_isHeld_b4
  dsimp only
  refine wp_t ib8 ?_
  simp only [tn8]
  rw [m.1, h8]
  refine wp_if (fun c => wp_some ?_) (fun c => ?_)
  · rw [iI_le (by omega) (by omega) (by omega) (by omega)] at c
    have q : k = n := by omega
    subst q
    exact ⟨e1, m⟩
  rw [iI_le (by omega) (by omega) (by omega) (by omega)] at c
  refine wp_if (fun d => wp_some ⟨by omega, by omega, e1.trans (heldU_t (nbit_t d)), iI_succ k, m⟩) (fun d => ?_)
  have nb := nbit_f d
  have st := heldU_f (W := M.1 95) (m := nrow s) nb
  have n6 := (vtab1 s hs).2
  rw [bc_eq, bs, (vtab1 s hs).1, N_edgeW (M := N) (k := k) (m := nrow s) (by rw [m.1]; exact h) (by rw [m.1]; omega) (by omega), bs, m.1]
  obtain ⟨⟨u1, u2⟩, u3, u4⟩ := wb (k := k) (m := nrow s) h (by omega) (by omega)
  have mX : sameV M (mSL (mSL N 94 15 (lI (wU (M.1 95) (nrow s) k))) 94 16 (lI (wD (M.1 95) (nrow s) k))) := m.w (by decide) (by decide) _ _
  have x15 : (mSL (mSL N 94 15 (lI (wU (M.1 95) (nrow s) k))) 94 16 (lI (wD (M.1 95) (nrow s) k))).2 94 15 = lI (wU (M.1 95) (nrow s) k) := by rw [mL_ix (by decide), mL_hit]
  have x16 : (mSL (mSL N 94 15 (lI (wU (M.1 95) (nrow s) k))) 94 16 (lI (wD (M.1 95) (nrow s) k))).2 94 16 = lI (wD (M.1 95) (nrow s) k) := mL_hit
  generalize mSL (mSL N 94 15 (lI (wU (M.1 95) (nrow s) k))) 94 16 (lI (wD (M.1 95) (nrow s) k)) = X at *
  have no : ¬ ok1 (M.1 95) (nrow s) k → ((false = true) ↔ heldU (M.1 95) (nrow s) s (k + 1)) := fun q => ⟨fun w => Bool.noConfusion w, fun w => absurd (st.mpr w).2 q⟩
  have kk : k < 6 := by omega
  have kn1 : k + 1 ≤ n := by omega
  refine wp_if (fun z => ?_) (fun z => wp_some ⟨kk, kn1, ⟨fun w => Bool.noConfusion w, fun w => absurd (e1.mpr (st.mpr w).1) z⟩, iI_succ k, mX⟩)
  rw [x15, x16]
  refine wp_if (fun g => wp_some ⟨kk, kn1, no (ok1_no h (by omega) (by omega) ?_), iI_succ k, mX⟩) (fun g => wp_t ib1 (wp_t ib2 ?_))
  · rw [lI_le (by omega) (by omega) (by omega) (by omega)] at g
    exact g
  simp only [tn1, tn2]
  rw [mX.1, i64, i64, lI_mul, lI_mul]
  have p1 := mulb (a := (M.1 95 1).toInt) (b := wD (M.1 95) (nrow s) k) (m := 9) (n := 6435) (by omega) (by omega) (by omega) (by omega)
  have p2 := mulb (a := wU (M.1 95) (nrow s) k) (b := (M.1 95 2).toInt) (m := 999) (n := 9) (by omega) (by omega) (by omega) (by omega)
  refine wp_if (fun w => wp_some ⟨kk, kn1, no ?_, iI_succ k, mX⟩) (fun w => wp_some ⟨kk, kn1, ⟨fun _ => st.mp ⟨e1.mp z, ?_⟩, fun _ => rfl⟩, iI_succ k, mX⟩)
  · rw [lI_lt (by omega) (by omega) (by omega) (by omega)] at w
    unfold ok1
    omega
  · rw [lI_lt (by omega) (by omega) (by omega) (by omega)] at w
    unfold ok1
    omega
theorem C_isHeldV {b n : Nat} {M : Mem} (hr : relV M n) (h : RIW (M.1 95)) (hb : b < 2 ^ n) : wpO (F_Bridge_isHeldWithout (iI (b : Int)) M) (fun r => (r.1 = true ↔ heldS (M.1 95) n (2 ^ n - 1 - b)) ∧ sameV M r.2) := by
  have f8 := hr.1
  have h8 := hr.2.1
  have hn := hr.2.2.1
  have f1 := hr.2.2.2.1
  have f2 := hr.2.2.2.2.1
  have t8 : (M.1 95 8).toInt = n := by rw [h8, iI_toInt (by omega) (by omega)]
  have hp := h.2.1
  obtain ⟨tb, tc⟩ := tb2 n (by omega) b hb
  have t5 := tb5 n (by omega)
  have eb1 := (vtab1 b (by omega)).1
  unfold F_Bridge_isHeldWithout
  rw [bc_eq, bs, eb1, f8, iI_sub, show ((n : Int) - (nrow b : Int)) = ((nrow (2 ^ n - 1 - b) : Nat) : Int) by omega]
  have n6 : nrow (2 ^ n - 1 - b) ≤ 6 := by omega
  unfold F_Bridge_isHeldWithout_l15
  unfold heldS
  generalize 2 ^ n - 1 - b = S at *
  refine wp_bind (Ψ := sumP (fun r => ¬ heldU (M.1 95) (nrow S) S n ∧ sameV M r) (fun r => heldU (M.1 95) (nrow S) S n ∧ sameV M r)) ?_ (fun q hq => ?_)
  · refine wp_iterS (P := fun k z => k ≤ n ∧ heldU (M.1 95) (nrow S) S k ∧ z.1 = iI (k : Int) ∧ sameV M z.2) 6 ?_ _ _ ⟨Nat.zero_le _, fun j q => absurd q (Nat.not_lt_zero _), rfl, rfl, rfl, rfl⟩ (FUEL_big (by decide))
    rintro k ⟨z1, N⟩ hk ⟨kn, e1, e2, m⟩
    dsimp only at e1 e2 m
    subst e2
    unfold F_Bridge_isHeldWithout_b15
    dsimp only
    rw [m.1, f8]
    refine wp_if (fun c => wp_some ?_) (fun c => ?_)
    · rw [iI_le (by omega) (by omega) (by omega) (by omega)] at c
      have q : k = n := by omega
      subst q
      exact ⟨e1, m⟩
    rw [iI_le (by omega) (by omega) (by omega) (by omega)] at c
    have kn2 : k < n := by omega
    refine wp_if (fun d => ?_) (fun d => wp_some ⟨by omega, by omega, (heldU_t ?_).mp e1, iI_succ k, m⟩)
    · have nb : nbit S k = false := by rw [tc k kn2, nbit_t d]; rfl
      have st := heldU_f (W := M.1 95) (m := nrow S) nb
      rw [C_edgeW (M := N) (k := k) (m := nrow S) (m.rel hr) (by rw [m.1]; exact h) kn2 (by omega), bs, m.1]
      obtain ⟨⟨u1, u2⟩, u3, u4⟩ := wb (k := k) (m := nrow S) h (by omega) (by omega)
      have mX : sameV M (mSL (mSL N 92 0 (lI (wU (M.1 95) (nrow S) k))) 92 1 (lI (wD (M.1 95) (nrow S) k))) := m.w (by decide) (by decide) _ _
      have x15 : (mSL (mSL N 92 0 (lI (wU (M.1 95) (nrow S) k))) 92 1 (lI (wD (M.1 95) (nrow S) k))).2 92 0 = lI (wU (M.1 95) (nrow S) k) := by rw [mL_ix (by decide), mL_hit]
      have x16 : (mSL (mSL N 92 0 (lI (wU (M.1 95) (nrow S) k))) 92 1 (lI (wD (M.1 95) (nrow S) k))).2 92 1 = lI (wD (M.1 95) (nrow S) k) := mL_hit
      generalize mSL (mSL N 92 0 (lI (wU (M.1 95) (nrow S) k))) 92 1 (lI (wD (M.1 95) (nrow S) k)) = X at *
      have p1 := mulb (a := (M.1 95 1).toInt) (b := wD (M.1 95) (nrow S) k) (m := 9) (n := 6435) (by omega) (by omega) (by omega) (by omega)
      have p2 := mulb (a := wU (M.1 95) (nrow S) k) (b := (M.1 95 2).toInt) (m := 999) (n := 9) (by omega) (by omega) (by omega) (by omega)
      rw [x15, x16, mX.1, f1, f2, i64, i64, lI_mul, lI_mul]
      refine wp_if (fun w => wp_some ⟨by omega, by omega, st.mp ⟨e1, ?_⟩, iI_succ k, mX⟩) (fun w => wp_some ⟨fun q => ?_, mX⟩)
      · rw [lI_le (by omega) (by omega) (by omega) (by omega)] at w
        exact w
      · rw [lI_le (by omega) (by omega) (by omega) (by omega)] at w
        exact w (q k kn2 nb)
    · rw [tc k kn2, nbit_f d]
      rfl
  · cases q with
    | inl r => exact wp_some ⟨⟨fun w => Bool.noConfusion w, fun w => absurd w hq.1⟩, hq.2⟩
    | inr r => exact wp_some ⟨⟨fun _ => hq.1, fun _ => rfl⟩, hq.2⟩
/-! the fewest that may be left out -/
def goodB (W : Nat → Int32) (n b : Nat) : Prop := heldS W n (2 ^ n - 1 - b)
def lexle (a b : Nat) : Prop := nrow a < nrow b ∨ (nrow a = nrow b ∧ a ≤ b)
def fewS (W : Nat → Int32) (n f : Nat) : Prop := f < 2 ^ n ∧ goodB W n f ∧ ∀ b : Nat, b < 2 ^ n → goodB W n b → lexle f b
theorem fewS_one {W : Nat → Int32} {n f g : Nat} (h1 : fewS W n f) (h2 : fewS W n g) : f = g := by
  have a := h1.2.2 g h2.1 h2.2.1
  have b := h2.2.2 f h1.1 h1.2.1
  unfold lexle at a b
  omega
theorem good_all {W : Nat → Int32} {n : Nat} (hn : n ≤ 6) : goodB W n (2 ^ n - 1) := by
  unfold goodB
  rw [Nat.sub_self]
  intro j hj q
  rw [tb0 j (by omega)] at q
  exact Bool.noConfusion q
theorem C_fewV {n : Nat} {M : Mem} (hr : relV M n) (h : RIW (M.1 95)) : wpO (F_Bridge_fewestOut M) (fun r => ∃ f : Nat, r.1 = iI (f : Int) ∧ fewS (M.1 95) n f) := by
  have f8 := hr.1
  have hn := hr.2.2.1
  have t5 := tb5 n (by omega)
  have z0 : (0 : Int32) = iI 0 := rfl
  unfold F_Bridge_fewestOut
  rw [f8, (vtab3 n (by omega)).1]
  unfold F_Bridge_fewestOut_l16
  refine wp_bind (Ψ := fun r => ∃ f : Nat, r.1 = iI (f : Int) ∧ fewS (M.1 95) n f) ?_ (fun r hr => wp_some hr)
  refine wp_iterS (P := fun k z => ∃ f : Nat, z.1 = iI (f : Int) ∧ f < 2 ^ n ∧ goodB (M.1 95) n f ∧ (∀ b : Nat, b < 2 ^ n → 2 ^ n ≤ b + k → goodB (M.1 95) n b → lexle f b) ∧ k ≤ 2 ^ n ∧ z.2.1 = iI (((2 ^ n : Nat) : Int) - 1 - (k : Int)) ∧ sameV M z.2.2) 64 ?_ _ _ ⟨2 ^ n - 1, rfl, by omega, good_all hn, fun b h1 h2 => by omega, by omega, by rw [show (((2 ^ n : Nat) : Int) - 1 - ((0 : Nat) : Int)) = ((2 ^ n - 1 : Nat) : Int) by omega], rfl, rfl, rfl⟩ (FUEL_big (by decide))
  rintro k ⟨z1, z2, N⟩ hk ⟨f, e1, hf, gf, lf, kT, e2, m⟩
  dsimp only at e1 e2 m
  subst e1
  subst e2
  unfold F_Bridge_fewestOut_b16
  dsimp only
  refine wp_if (fun c => wp_some ?_) (fun c => ?_)
  · rw [z0, iI_lt (by omega) (by omega) (by omega) (by omega)] at c
    exact ⟨f, rfl, hf, gf, fun b hb => lf b hb (by omega)⟩
  rw [z0, iI_lt (by omega) (by omega) (by omega) (by omega)] at c
  have eB : ((2 ^ n : Nat) : Int) - 1 - (k : Int) = ((2 ^ n - 1 - k : Nat) : Int) := by omega
  have eN : iI (((2 ^ n : Nat) : Int) - 1 - (k : Int)) + (-1) = iI (((2 ^ n : Nat) : Int) - 1 - ((k + 1 : Nat) : Int)) := by
    rw [m1_iI, iI_add]
    congr 1
    omega
  rw [eN, eB]
  have hB : 2 ^ n - 1 - k < 2 ^ n := by omega
  have hk1 : 2 ^ n - 1 - k + k + 1 = 2 ^ n := by omega
  generalize 2 ^ n - 1 - k = b at *
  rw [bc_eq, bs, bc_eq, bs, (vtab1 b (by omega)).1, (vtab1 f (by omega)).1]
  have v1 := (vtab1 b (by omega)).2
  have v2 := (vtab1 f (by omega)).2
  have old : ∀ a : Nat, a < 2 ^ n → 2 ^ n ≤ a + (k + 1) → a ≠ b → 2 ^ n ≤ a + k := fun a h1 h2 h3 => by omega
  refine wp_if (fun d => wp_some ⟨by omega, f, rfl, hf, gf, fun a h1 h2 h3 => ?_, by omega, rfl, m⟩) (fun d => ?_)
  · rw [iI_lt (by omega) (by omega) (by omega) (by omega)] at d
    by_cases q : a = b
    · rw [q]
      exact Or.inl (by omega)
    · exact lf a h1 (old a h1 h2 q) h3
  rw [iI_lt (by omega) (by omega) (by omega) (by omega)] at d
  refine wp_bind (C_isHeldV (M := N) (b := b) (m.rel hr) (by rw [m.1]; exact h) hB) (fun r3 h3 => ?_)
  obtain ⟨i3, m3⟩ := h3
  rw [m.1] at i3
  have mO : sameV M r3.2 := ⟨m3.1.trans m.1, m3.2.1.trans m.2.1, m3.2.2.trans m.2.2⟩
  refine wp_if (fun w => wp_some ⟨by omega, b, rfl, hB, i3.mp w, fun a h1 h2 h3 => ?_, by omega, rfl, mO⟩) (fun w => wp_some ⟨by omega, f, rfl, hf, gf, fun a h1 h2 h3 => ?_, by omega, rfl, mO⟩)
  · by_cases q : a = b
    · rw [q]
      exact Or.inr ⟨rfl, Nat.le_refl _⟩
    · have l := lf a h1 (old a h1 h2 q) h3
      unfold lexle at l ⊢
      omega
  · by_cases q : a = b
    · rw [q] at h3
      exact absurd (i3.mpr h3) w
    · exact lf a h1 (old a h1 h2 q) h3
theorem N_fewV {n : Nat} {M : Mem} (h : RIW (M.1 95)) (h8 : M.1 95 8 = iI (n : Int)) (hn : n ≤ 6) : wpO (F_MO_village_l74 (iI ((2 ^ n - 1 : Nat) : Int)) (iI ((2 ^ n - 1 : Nat) : Int)) 0 M) (fun r => (∃ f : Nat, r.1 = iI (f : Int) ∧ fewS (M.1 95) n f) ∧ sameV M r.2) := by
  have t5 := tb5 n (by omega)
  have t4 := tb4 n (by omega)
  have t3 := tb3 n (by omega)
  unfold F_MO_village_l74
  refine wp_bind (Ψ := fun r => (∃ f : Nat, r.1 = iI (f : Int) ∧ fewS (M.1 95) n f) ∧ sameV M r.2) ?_ (fun r hr => wp_some hr)
  refine wp_iterS (P := fun k z => ∃ f : Nat, z.1 = iI (f : Int) ∧ f < 2 ^ n ∧ goodB (M.1 95) n f ∧ (f = 2 ^ n - 1 ∨ f < k) ∧ (∀ b : Nat, b < 2 ^ n → b < k → goodB (M.1 95) n b → lexle f b) ∧ k ≤ 2 ^ n ∧ z.2.1 = iI (k : Int) ∧ sameV M z.2.2) 64 ?_ _ _ ⟨2 ^ n - 1, rfl, by omega, good_all hn, Or.inl rfl, fun b _ q => absurd q (Nat.not_lt_zero _), by omega, rfl, rfl, rfl, rfl⟩ (FUEL_big (by decide))
  rintro k ⟨z1, z2, N⟩ hk ⟨f, e1, hf, gf, ff, lf, kT, e2, m⟩
  dsimp only at e1 e2 m
  subst e1
  subst e2
  unfold F_MO_village_b74
  dsimp only
  refine wp_if (fun c => wp_some ?_) (fun c => ?_)
  · rw [iI_lt (by omega) (by omega) (by omega) (by omega)] at c
    exact ⟨⟨f, rfl, hf, gf, fun b hb => lf b hb (by omega)⟩, m⟩
  rw [iI_lt (by omega) (by omega) (by omega) (by omega)] at c
  have kB : k < 2 ^ n := by omega
  rw [bc_eq, bs, bc_eq, bs, (vtab1 k (by omega)).1, (vtab1 f (by omega)).1]
  have v1 := (vtab1 k (by omega)).2
  have v2 := (vtab1 f (by omega)).2
  refine wp_if (fun d => wp_some ⟨by omega, f, rfl, hf, gf, by omega, fun a h1 h2 h3 => ?_, by omega, iI_succ k, m⟩) (fun d => ?_)
  · rw [iI_le (by omega) (by omega) (by omega) (by omega)] at d
    by_cases q : a = k
    · rw [q]
      unfold lexle
      rcases ff with ff | ff
      · rw [ff, t4.1] at d ⊢
        have := t4.2 k kB (by omega)
        omega
      · omega
    · exact lf a h1 (by omega) h3
  rw [iI_le (by omega) (by omega) (by omega) (by omega)] at d
  obtain ⟨u1, u2⟩ := vtab2 (2 ^ n - 1) (by omega) k (by omega)
  rw [u1, t3 k kB]
  refine wp_bind (N_isHeldV (M := N) (n := n) (s := 2 ^ n - 1 - k) (by rw [m.1]; exact h) (by rw [m.1]; exact h8) hn (by omega)) (fun r3 h3 => ?_)
  obtain ⟨i3, m3⟩ := h3
  rw [m.1] at i3
  have mO : sameV M r3.2 := ⟨m3.1.trans m.1, m3.2.1.trans m.2.1, m3.2.2.trans m.2.2⟩
  refine wp_if (fun w => wp_some ⟨by omega, k, rfl, kB, i3.mp w, Or.inr (by omega), fun a h1 h2 h3 => ?_, by omega, iI_succ k, mO⟩) (fun w => wp_some ⟨by omega, f, rfl, hf, gf, by omega, fun a h1 h2 h3 => ?_, by omega, iI_succ k, mO⟩)
  · by_cases q : a = k
    · rw [q]
      exact Or.inr ⟨rfl, Nat.le_refl _⟩
    · have l := lf a h1 (by omega) h3
      unfold lexle at l ⊢
      omega
  · by_cases q : a = k
    · rw [q] at h3
      exact absurd (i3.mpr h3) w
    · exact lf a h1 (by omega) h3
/-! village -/
def vlV (W : Nat → Int32) (n : Nat) (x v : Int32) : Prop := (x = 0 → v = iI (wkN W n n).1) ∧ (¬ x = 0 → x = 1 → (heldS W n (2 ^ n - 1) ∧ v = 1) ∨ (¬ heldS W n (2 ^ n - 1) ∧ v = 0)) ∧ (¬ x = 0 → ¬ x = 1 → ∃ f : Nat, v = iI (f : Int) ∧ fewS W n f)
theorem vlV_one {W : Nat → Int32} {n : Nat} {x u v : Int32} (h1 : vlV W n x u) (h2 : vlV W n x v) : u = v := by
  by_cases q0 : x = 0
  · exact (h1.1 q0).trans (h2.1 q0).symm
  · by_cases q1 : x = 1
    · rcases h1.2.1 q0 q1 with ⟨a, b⟩ | ⟨a, b⟩
      · rcases h2.2.1 q0 q1 with ⟨c, d⟩ | ⟨c, d⟩
        · exact b.trans d.symm
        · exact absurd a c
      · rcases h2.2.1 q0 q1 with ⟨c, d⟩ | ⟨c, d⟩
        · exact absurd c a
        · exact b.trans d.symm
    · obtain ⟨f, a, b⟩ := h1.2.2 q0 q1
      obtain ⟨g, c, d⟩ := h2.2.2 q0 q1
      rw [a, c, fewS_one b d]
theorem N_villageV {x : Int32} {M : Mem} {n : Nat} (h : RIW (M.1 95)) (h8 : M.1 95 8 = iI (n : Int)) (hn : n ≤ 6) : wpO (F_MO_village x M) (fun r => ((0 ≤ x ∧ x ≤ 2) ∧ r.2.1 94 0 = 0 ∧ vlV (M.1 95) n x r.1) ∨ (¬ (0 ≤ x ∧ x ≤ 2) ∧ r.2.1 94 0 = 1)) := by
  have h0 : RIW ((mSI M 94 0 0).1 95) := h
  have h80 : (mSI M 94 0 0).1 95 8 = iI (n : Int) := h8
  have t0 : (mSI M 94 0 0).1 94 0 = 0 := mI_hit
  show wpO (F_MO_village x M) (fun r => ((0 ≤ x ∧ x ≤ 2) ∧ r.2.1 94 0 = 0 ∧ vlV ((mSI M 94 0 0).1 95) n x r.1) ∨ (¬ (0 ≤ x ∧ x ≤ 2) ∧ r.2.1 94 0 = 1))
  unfold F_MO_village
  generalize mSI M 94 0 0 = N at *
  refine wp_within (fun q1 q2 => wp_tt ?_) (fun q => wp_ff ?_)
  · unfold F_MO_village_j20
    refine wp_thr (fun q => nomatch q) (fun _ => thr_f (wp_t ib8 ?_))
    simp only [tn8]
    obtain ⟨t1, t2⟩ := vtab3 n (by omega)
    rw [h80, t1]
    have thr : ∀ P : Mem, sameV N P → P.1 94 0 = 0 := fun P hP => by rw [hP.1]; exact t0
    refine wp_if (fun c => wp_bind (N_weakV h0 h80 hn) (fun r7 h7 => wp_some (Or.inl ⟨⟨q1, q2⟩, thr _ h7.2, fun _ => h7.1, fun w => absurd c w, fun w => absurd c w⟩))) (fun c => wp_if (fun d => wp_bind (N_isHeldV h0 h80 hn t2) (fun r6 h6 => wp_if (fun w => wp_some (Or.inl ⟨⟨q1, q2⟩, thr _ h6.2, fun w => absurd w c, fun _ _ => Or.inl ⟨h6.1.mp w, rfl⟩, fun _ w => absurd d w⟩)) (fun w => wp_some (Or.inl ⟨⟨q1, q2⟩, thr _ h6.2, fun w => absurd w c, fun _ _ => Or.inr ⟨fun y => w (h6.1.mpr y), rfl⟩, fun _ w => absurd d w⟩)))) (fun d => ?_))
    exact wp_mono (N_fewV h0 h80 hn) (fun r hr => Or.inl ⟨⟨q1, q2⟩, thr _ hr.2, fun w => absurd w c, fun _ w => absurd w d, fun _ _ => hr.1⟩)
  · unfold F_MO_village_j20
    exact wp_thr (fun _ => thr_t (wp_some (Or.inr ⟨q, mI_hit⟩))) (fun q => nomatch q)
theorem C_villageV {x : Int32} {M : Mem} {n : Nat} (hr : relV M n) (h : RIW (M.1 95)) : wpO (F_LAW_village x M) (fun r => ((0 ≤ x ∧ x ≤ 2) ∧ r.1 = 0 ∧ ∃ v, r.2.2 121 0 = v.toInt64 ∧ vlV (M.1 95) n x v) ∨ (¬ (0 ≤ x ∧ x ≤ 2) ∧ r.1 = 1)) := by
  have hn := hr.2.2.1
  have t5 := tb5 n (by omega)
  unfold F_LAW_village F_KW_village
  by_cases q : 0 ≤ x ∧ x ≤ 2
  · rw [S_what_ok q, xb_inr]
    have fin : ∀ (v : Int32) (P : Mem), vlV (M.1 95) n x v → wpO (hbind (some (.inr v, P) : Option ((String ⊕ Int32) × Mem)) (fun E1 M1 => if E1 = "java/util/NoSuchElementException" then some (((1 : Int32), M1)) else none) fun r1 M1 => if inb ((0 : Int32)) 1 then some ((0, mSL M1 121 ((0 : Int32)).toNatClampNeg r1.toInt64)) else none) (fun r => ((0 ≤ x ∧ x ≤ 2) ∧ r.1 = 0 ∧ ∃ v, r.2.2 121 0 = v.toInt64 ∧ vlV (M.1 95) n x v) ∨ (¬ (0 ≤ x ∧ x ≤ 2) ∧ r.1 = 1)) := fun v P hv => fin_law (Or.inl ⟨q, rfl, v, mL_hit, hv⟩)
    by_cases c : x = 0
    · rw [if_pos c]
      obtain ⟨r, e, hv⟩ := C_weakV hr h
      rw [e, bs]
      exact fin _ _ ⟨fun _ => hv, fun w => absurd c w, fun w => absurd c w⟩
    · rw [if_neg c]
      by_cases d : x = 1
      · rw [if_pos d]
        obtain ⟨r, e, hv, -⟩ := C_isHeldV (b := 0) hr h (by omega)
        have e0 : F_Bridge_isHeldWithout 0 M = some r := e
        rw [e0, bs]
        rw [Nat.sub_zero] at hv
        by_cases w : r.1 = true
        · rw [if_pos w]
          exact fin _ _ ⟨fun w => absurd w c, fun _ _ => Or.inl ⟨hv.mp w, rfl⟩, fun _ w => absurd d w⟩
        · rw [if_neg w]
          exact fin _ _ ⟨fun w => absurd w c, fun _ _ => Or.inr ⟨fun y => w (hv.mpr y), rfl⟩, fun _ w => absurd d w⟩
      · rw [if_neg d]
        obtain ⟨r, e, hv⟩ := C_fewV hr h
        rw [e, bs]
        exact fin _ _ ⟨fun w => absurd w c, fun _ w => absurd w d, fun _ _ => hv⟩
  · rw [S_what_no q, xb_inl, hb_inl]
    exact wp_t rfl (wp_some (Or.inr ⟨q, rfl⟩))
theorem relW.relV {M : Mem} (h : relW (M.1 1) (M.2 3) (M.2 11) (M.2 13) (M.1 95)) (hW : RIW (M.1 95)) : ∃ n : Nat, relV M n := by
  have r8 := hW.vilN
  have e8 : M.1 95 8 = iI (((M.1 95 8).toInt.toNat : Nat) : Int) := iI_nat r8.1
  refine ⟨(M.1 95 8).toInt.toNat, h.2.2.2.2.2.2.1.trans e8, e8, by omega, h.2.1, h.2.2.1, fun k hk => h.vil hW k (by omega)⟩
theorem V_village {x : Int32} {M : Mem} (h : RS M) : wpO (F_LAW_village x M) (fun r1 => wpO (F_MO_village x r1.2) (fun r2 => RS r2.2 ∧ r2.2.1 94 0 = r1.1 ∧ (r1.1 = 0 → r2.2.2 121 0 = r2.1.toInt64))) := by
  obtain ⟨r1, e1, r2, e2, rs⟩ := G_village (x1 := x) h
  refine ⟨r1, e1, r2, e2, rs, ?_⟩
  obtain ⟨n, hv⟩ := h.2.1.1.relV h.1.1
  have t := wpO_of (T_LAW_village x M) e1
  have q := Q_MO_village x r1.2 r2 e2
  have w : r1.2.1 95 = M.1 95 := funext (t 95 (by omega)).1
  have c := wpO_of (C_villageV (x := x) hv h.1.1) e1
  have nn := wpO_of (N_villageV (x := x) (M := r1.2) (n := n) (by rw [w]; exact h.1.1) (by rw [w]; exact hv.2.1) hv.2.2.1) e2
  have o := (q 121 0 (by omega)).2
  rw [w] at nn
  rcases c with ⟨a1, a2, v, a3, a4⟩ | ⟨a1, a2⟩
  · rcases nn with ⟨b1, b2, b3⟩ | ⟨b1, b2⟩
    · exact ⟨b2.trans a2.symm, fun _ => by rw [o, a3, vlV_one a4 b3]⟩
    · exact absurd a1 b1
  · rcases nn with ⟨b1, b2, b3⟩ | ⟨b1, b2⟩
    · exact absurd b1 a1
    · exact ⟨b2.trans a2.symm, fun z => by rw [a2] at z; exact absurd z (by decide)⟩
