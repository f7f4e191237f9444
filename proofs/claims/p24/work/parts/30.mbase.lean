/-! ===== MATH LAYER: numbers, loops, the Option monad ===== -/
def iI (z : Int) : Int32 := Int32.ofInt z
def lI (z : Int) : Int64 := Int64.ofInt z
theorem iI_toInt {z : Int} (h1 : -2147483648 ≤ z) (h2 : z < 2147483648) : (iI z).toInt = z := Int32.toInt_ofInt_of_le h1 h2
theorem lI_toInt {z : Int} (h1 : -9223372036854775808 ≤ z) (h2 : z < 9223372036854775808) : (lI z).toInt = z := Int64.toInt_ofInt_of_le h1 h2
theorem iI_of (x : Int32) : iI x.toInt = x := Int32.ofInt_toInt x
theorem lI_of (x : Int64) : lI x.toInt = x := Int64.ofInt_toInt x
theorem i_lo (x : Int32) : -2147483648 ≤ x.toInt := x.le_toInt
theorem i_hi (x : Int32) : x.toInt < 2147483648 := x.toInt_lt
theorem l_lo (x : Int64) : -9223372036854775808 ≤ x.toInt := x.le_toInt
theorem l_hi (x : Int64) : x.toInt < 9223372036854775808 := x.toInt_lt
theorem iI_add (a b : Int) : iI a + iI b = iI (a + b) := (Int32.ofInt_add a b).symm
theorem iI_sub (a b : Int) : iI a - iI b = iI (a - b) := (Int32.ofInt_sub a b).symm
theorem iI_mul (a b : Int) : iI a * iI b = iI (a * b) := (Int32.ofInt_mul a b).symm
theorem iI_neg (a : Int) : -iI a = iI (-a) := (Int32.ofInt_neg a).symm
theorem lI_add (a b : Int) : lI a + lI b = lI (a + b) := (Int64.ofInt_add a b).symm
theorem lI_sub (a b : Int) : lI a - lI b = lI (a - b) := (Int64.ofInt_sub a b).symm
theorem lI_mul (a b : Int) : lI a * lI b = lI (a * b) := (Int64.ofInt_mul a b).symm
theorem lI_neg (a : Int) : -lI a = lI (-a) := (Int64.ofInt_neg a).symm
theorem iI_n (n : Nat) : (OfNat.ofNat n : Int32) = iI (n : Int) := by
  show Int32.ofNat n = Int32.ofInt n
  rfl
theorem lI_n (n : Nat) : (OfNat.ofNat n : Int64) = lI (n : Int) := by
  show Int64.ofNat n = Int64.ofInt n
  rfl
theorem nI_iI (n : Nat) : nI n = iI (n : Int) := rfl
theorem iI_lt {a b : Int} (h1 : -2147483648 ≤ a) (h2 : a < 2147483648) (h3 : -2147483648 ≤ b) (h4 : b < 2147483648) : iI a < iI b ↔ a < b := by
  rw [Int32.lt_iff_toInt_lt, iI_toInt h1 h2, iI_toInt h3 h4]
theorem iI_le {a b : Int} (h1 : -2147483648 ≤ a) (h2 : a < 2147483648) (h3 : -2147483648 ≤ b) (h4 : b < 2147483648) : iI a ≤ iI b ↔ a ≤ b := by
  rw [Int32.le_iff_toInt_le, iI_toInt h1 h2, iI_toInt h3 h4]
theorem iI_eq {a b : Int} (h1 : -2147483648 ≤ a) (h2 : a < 2147483648) (h3 : -2147483648 ≤ b) (h4 : b < 2147483648) : iI a = iI b ↔ a = b := by
  rw [← Int32.toInt_inj, iI_toInt h1 h2, iI_toInt h3 h4]
theorem lI_lt {a b : Int} (h1 : -9223372036854775808 ≤ a) (h2 : a < 9223372036854775808) (h3 : -9223372036854775808 ≤ b) (h4 : b < 9223372036854775808) : lI a < lI b ↔ a < b := by
  rw [Int64.lt_iff_toInt_lt, lI_toInt h1 h2, lI_toInt h3 h4]
theorem lI_le {a b : Int} (h1 : -9223372036854775808 ≤ a) (h2 : a < 9223372036854775808) (h3 : -9223372036854775808 ≤ b) (h4 : b < 9223372036854775808) : lI a ≤ lI b ↔ a ≤ b := by
  rw [Int64.le_iff_toInt_le, lI_toInt h1 h2, lI_toInt h3 h4]
theorem lI_eq {a b : Int} (h1 : -9223372036854775808 ≤ a) (h2 : a < 9223372036854775808) (h3 : -9223372036854775808 ≤ b) (h4 : b < 9223372036854775808) : lI a = lI b ↔ a = b := by
  rw [← Int64.toInt_inj, lI_toInt h1 h2, lI_toInt h3 h4]
theorem iI_l {a : Int} (h1 : -2147483648 ≤ a) (h2 : a < 2147483648) : (iI a).toInt64 = lI a := by
  apply Int64.toInt_inj.mp
  rw [Int32.toInt_toInt64, iI_toInt h1 h2, lI_toInt (by omega) (by omega)]
theorem lI_i (a : Int) : (lI a).toInt32 = iI a := Int64.toInt32_ofInt
theorem clamp_iI {a : Int} (h1 : 0 ≤ a) (h2 : a < 2147483648) : (iI a).toNatClampNeg = a.toNat := by
  show (iI a).toInt.toNat = a.toNat
  rw [iI_toInt (by omega) h2]
theorem clamp_nI {n : Nat} (h : n < 2147483648) : (nI n).toNatClampNeg = n := nI_clamp h
theorem inb_iI {a : Int} {n : Nat} (h1 : 0 ≤ a) (h2 : a < n) (h3 : a < 2147483648) : inb (iI a) n := by
  show ¬ (iI a < 0 ∨ n ≤ (iI a).toNatClampNeg)
  rw [clamp_iI h1 h3]
  have h4 : ¬ iI a < 0 := by
    rw [Int32.lt_iff_toInt_lt, iI_toInt (by omega) h3]
    show ¬ a < 0
    omega
  intro q
  rcases q with q | q
  · exact h4 q
  · omega
theorem idiv_iI {a b : Int} (h1 : -2147483648 < a) (h2 : a < 2147483648) (h3 : -2147483648 ≤ b) (h4 : b < 2147483648) : iI a / iI b = iI (a.tdiv b) := by
  apply Int32.toInt_inj.mp
  have h9 : Int32.minValue.toInt = -2147483648 := by decide
  have hne : iI a ≠ Int32.minValue := by
    intro q
    have h8 := congrArg Int32.toInt q
    rw [iI_toInt (by omega) h2, h9] at h8
    omega
  rw [Int32.toInt_div_of_ne_left _ _ hne, iI_toInt (by omega) h2, iI_toInt h3 h4, iI_toInt]
  · have := Int.natAbs_tdiv a b
    have h5 : (a.tdiv b).natAbs ≤ a.natAbs := by rw [Int.natAbs_tdiv]; exact Nat.div_le_self _ _
    omega
  · have h5 : (a.tdiv b).natAbs ≤ a.natAbs := by rw [Int.natAbs_tdiv]; exact Nat.div_le_self _ _
    omega
theorem ldiv_lI {a b : Int} (h1 : -9223372036854775808 < a) (h2 : a < 9223372036854775808) (h3 : -9223372036854775808 ≤ b) (h4 : b < 9223372036854775808) : lI a / lI b = lI (a.tdiv b) := by
  apply Int64.toInt_inj.mp
  have h9 : Int64.minValue.toInt = -9223372036854775808 := by decide
  have hne : lI a ≠ Int64.minValue := by
    intro q
    have h8 := congrArg Int64.toInt q
    rw [lI_toInt (by omega) h2, h9] at h8
    omega
  rw [Int64.toInt_div_of_ne_left _ _ hne, lI_toInt (by omega) h2, lI_toInt h3 h4, lI_toInt]
  · have h5 : (a.tdiv b).natAbs ≤ a.natAbs := by rw [Int.natAbs_tdiv]; exact Nat.div_le_self _ _
    omega
  · have h5 : (a.tdiv b).natAbs ≤ a.natAbs := by rw [Int.natAbs_tdiv]; exact Nat.div_le_self _ _
    omega
theorem irm_iI {a b : Int} (h1 : -2147483648 < a) (h2 : a < 2147483648) (h3 : -2147483648 ≤ b) (h4 : b < 2147483648) : irm (iI a) (iI b) = iI (a.tmod b) := by
  unfold irm
  rw [idiv_iI h1 h2 h3 h4, iI_mul, iI_sub, Int.tmod_def, Int.mul_comm]
theorem lrm_lI {a b : Int} (h1 : -9223372036854775808 < a) (h2 : a < 9223372036854775808) (h3 : -9223372036854775808 ≤ b) (h4 : b < 9223372036854775808) : lrm (lI a) (lI b) = lI (a.tmod b) := by
  unfold lrm
  rw [ldiv_lI h1 h2 h3 h4, lI_mul, lI_sub, Int.tmod_def, Int.mul_comm]
/-! total correctness by wpO -/
theorem wp_some {α : Type} {a : α} {Φ : α → Prop} (h : Φ a) : wpO (some a) Φ := ⟨a, rfl, h⟩
theorem wp_bind {α β : Type} {X : Option α} {k : α → Option β} {Ψ : α → Prop} {Φ : β → Prop} (h : wpO X Ψ) (hk : ∀ a, Ψ a → wpO (k a) Φ) : wpO (X.bind k) Φ := by
  obtain ⟨a, h1, h2⟩ := h
  subst h1
  exact hk a h2
theorem wp_eq {α β : Type} {X : Option α} {a : α} {k : α → Option β} {Φ : β → Prop} (h : X = some a) (hk : wpO (k a) Φ) : wpO (X.bind k) Φ := by subst h; exact hk
theorem wp_mono {α : Type} {X : Option α} {Ψ Φ : α → Prop} (h : wpO X Ψ) (hk : ∀ a, Ψ a → Φ a) : wpO X Φ := by
  obtain ⟨a, h1, h2⟩ := h
  exact ⟨a, h1, hk a h2⟩
theorem wp_t {α : Type} {c : Prop} [Decidable c] {X Y : Option α} {Φ : α → Prop} (hc : c) (h : wpO X Φ) : wpO (if c then X else Y) Φ := by rw [if_pos hc]; exact h
theorem wp_f {α : Type} {c : Prop} [Decidable c] {X Y : Option α} {Φ : α → Prop} (hc : ¬ c) (h : wpO Y Φ) : wpO (if c then X else Y) Φ := by rw [if_neg hc]; exact h
theorem wp_if {α : Type} {c : Prop} [Decidable c] {X Y : Option α} {Φ : α → Prop} (ht : c → wpO X Φ) (hf : ¬ c → wpO Y Φ) : wpO (if c then X else Y) Φ := by
  by_cases hc : c
  · exact wp_t hc (ht hc)
  · exact wp_f hc (hf hc)
theorem wp_of {α : Type} {X : Option α} {a : α} (h : wpO X (fun r => r = a)) : X = some a := by
  obtain ⟨b, h1, h2⟩ := h
  rw [h1, h2]
theorem of_wp {α : Type} {X : Option α} {a : α} (h : X = some a) : wpO X (fun r => r = a) := ⟨a, h, rfl⟩
/-- a loop of at most n rounds: an invariant by the round's number; it may end early -/
theorem wp_iter {σ ρ : Type} {body : σ → Option (σ ⊕ ρ)} (P : Nat → σ → Prop) {Φ : ρ → Prop} (n : Nat) (hs : ∀ k s, k ≤ n → P k s → wpO (body s) (fun x => match x with | .inl s' => k < n ∧ P (k + 1) s' | .inr r => Φ r)) : ∀ (N : Nat) (s : σ), P 0 s → n < N → wpO (iter body N s) Φ := by
  have key : ∀ (N k : Nat) (s : σ), k ≤ n → P k s → n < N + k → wpO (iter body N s) Φ := by
    intro N
    induction N with
    | zero => intro k s h1 h2 h3; omega
    | succ N ih =>
      intro k s h1 h2 h3
      obtain ⟨x, hx, hp⟩ := hs k s h1 h2
      show wpO ((body s).bind _) Φ
      refine wp_eq hx ?_
      cases x with
      | inl s' => exact ih (k + 1) s' hp.1 hp.2 (by omega)
      | inr r => exact wp_some hp
  exact fun N s h1 h2 => key N 0 s (Nat.zero_le _) h1 (by omega)
/-- the same, the rounds counted by a measure that falls -/
theorem wp_while {σ ρ : Type} {body : σ → Option (σ ⊕ ρ)} (P : σ → Prop) (μ : σ → Nat) {Φ : ρ → Prop} (hs : ∀ s, P s → wpO (body s) (fun x => match x with | .inl s' => P s' ∧ μ s' < μ s | .inr r => Φ r)) : ∀ (N : Nat) (s : σ), P s → μ s < N → wpO (iter body N s) Φ := by
  intro N
  induction N with
  | zero => intro s h1 h2; omega
  | succ N ih =>
    intro s h1 h2
    obtain ⟨x, hx, hp⟩ := hs s h1
    show wpO ((body s).bind _) Φ
    refine wp_eq hx ?_
    cases x with
    | inl s' => exact ih s' hp.1 (by omega)
    | inr r => exact wp_some hp
theorem FUEL_big {n : Nat} (h : n < 1180591620717411303424) : n < FUEL := h
/-! memory -/
theorem mSI_1 {M : Mem} {k j : Nat} {v : Int32} (a b : Nat) : (mSI M k j v).1 a b = if a = k ∧ b = j then v else M.1 a b := by
  unfold mSI upd
  by_cases h : a = k
  · subst h
    simp
  · simp [h]
theorem mSI_2 {M : Mem} {k j : Nat} {v : Int32} (a b : Nat) : (mSI M k j v).2 a b = M.2 a b := rfl
theorem mSL_1 {M : Mem} {k j : Nat} {v : Int64} (a b : Nat) : (mSL M k j v).1 a b = M.1 a b := rfl
theorem mSL_2 {M : Mem} {k j : Nat} {v : Int64} (a b : Nat) : (mSL M k j v).2 a b = if a = k ∧ b = j then v else M.2 a b := by
  unfold mSL vp_updL
  by_cases h : a = k
  · subst h
    simp
  · simp [h]
/-- M' is M but for the cells of S -/
def Same (S : Nat → Prop) (M M' : Mem) : Prop := ∀ k, ¬ S k → (∀ j, M'.1 k j = M.1 k j) ∧ ∀ j, M'.2 k j = M.2 k j
theorem Same.rfl' {S : Nat → Prop} {M : Mem} : Same S M M := fun _ _ => ⟨fun _ => rfl, fun _ => rfl⟩
theorem Same.trans {S : Nat → Prop} {M M1 M2 : Mem} (h1 : Same S M M1) (h2 : Same S M1 M2) : Same S M M2 := fun k hk => ⟨fun j => ((h2 k hk).1 j).trans ((h1 k hk).1 j), fun j => ((h2 k hk).2 j).trans ((h1 k hk).2 j)⟩
theorem Same.mono {S T : Nat → Prop} {M M' : Mem} (h : Same S M M') (hs : ∀ k, S k → T k) : Same T M M' := fun k hk => h k (fun q => hk (hs k q))
theorem Same.sI {S : Nat → Prop} {M M' : Mem} {k j : Nat} {v : Int32} (h : Same S M M') (hk : S k) : Same S M (mSI M' k j v) := by
  refine h.trans (fun a ha => ⟨fun b => ?_, fun b => rfl⟩)
  rw [mSI_1, if_neg (fun q => ha (by rw [q.1]; exact hk))]
theorem Same.sL {S : Nat → Prop} {M M' : Mem} {k j : Nat} {v : Int64} (h : Same S M M') (hk : S k) : Same S M (mSL M' k j v) := by
  refine h.trans (fun a ha => ⟨fun b => rfl, fun b => ?_⟩)
  rw [mSL_2, if_neg (fun q => ha (by rw [q.1]; exact hk))]
/-! rows -/
theorem V_Row_at {a n : Nat} {i : Int} {M : Mem} (h1 : 0 ≤ i) (h2 : i < n) (hn : n < 1000) : F_Row_at a n (iI i) M = some (M.2 a i.toNat) := by
  unfold F_Row_at
  have c1 : ¬ iI i < (0 : Int32) := by rw [show (0 : Int32) = iI 0 from rfl, iI_lt] <;> omega
  have c2 : iI i < nI n := by rw [nI_iI, iI_lt] <;> omega
  rw [if_neg c1, if_pos c2, if_pos (inb_iI h1 h2 (by omega)), clamp_iI h1 (by omega)]
theorem V_Row_small {a n : Nat} {i : Int} {M : Mem} (h1 : 0 ≤ i) (h2 : i < n) (hn : n < 1000) : F_Row_small a n (iI i) M = some (M.2 a i.toNat).toInt32 := by
  unfold F_Row_small
  have c1 : ¬ iI i < (0 : Int32) := by rw [show (0 : Int32) = iI 0 from rfl, iI_lt] <;> omega
  have c2 : iI i < nI n := by rw [nI_iI, iI_lt] <;> omega
  rw [if_neg c1, if_pos c2, if_pos (inb_iI h1 h2 (by omega)), clamp_iI h1 (by omega)]
theorem V_Row_put {a n : Nat} {i : Int} {v : Int64} {M : Mem} (h1 : 0 ≤ i) (h2 : i < n) (hn : n < 1000) : F_Row_put a n (iI i) v M = some (mSL M a i.toNat v) := by
  unfold F_Row_put
  have c1 : ¬ iI i < (0 : Int32) := by rw [show (0 : Int32) = iI 0 from rfl, iI_lt] <;> omega
  have c3 : ¬ nI n ≤ iI i := by rw [nI_iI, iI_le] <;> omega
  rw [if_neg c1, if_neg c3, if_pos (inb_iI h1 h2 (by omega)), clamp_iI h1 (by omega)]
theorem V_Row_add {a n : Nat} {i : Int} {v : Int64} {M : Mem} (h1 : 0 ≤ i) (h2 : i < n) (hn : n < 1000) : F_Row_add a n (iI i) v M = some (mSL M a i.toNat (M.2 a i.toNat + v)) := by
  unfold F_Row_add
  rw [V_Row_at h1 h2 hn]
  show (F_Row_put a n (iI i) (M.2 a i.toNat + v) M).bind _ = _
  rw [V_Row_put h1 h2 hn]
  rfl
/-- the whole array a is f behind it -/
def arrSet (M : Mem) (a n : Nat) (f : Nat → Int64) (M' : Mem) : Prop := (∀ j, j < n → M'.2 a j = f j) ∧ Same (fun k => k = a) M M'
theorem V_Row_setAll {a n : Nat} {v : Int64} {M : Mem} (hn : n < 1000) : wpO (F_Row_setAll a n v M) (arrSet M a n (fun _ => v)) := by
  unfold F_Row_setAll F_Row_setAll_l2
  refine wp_bind (Ψ := arrSet M a n (fun _ => v)) ?_ (fun r hr => wp_some hr)
  refine wp_iter (P := fun k z => z.1 = iI (k : Int) ∧ (∀ j, j < k → z.2.2 a j = v) ∧ Same (fun q => q = a) M z.2) n ?_ _ _ ⟨rfl, fun j hj => absurd hj (Nat.not_lt_zero _), Same.rfl'⟩ (FUEL_big (by omega))
  intro k z hk ⟨h1, h2, h3⟩
  unfold F_Row_setAll_b2
  rw [h1, nI_iI]
  rcases Nat.lt_or_ge k n with hlt | hge
  · refine wp_f (by rw [iI_le] <;> omega) (wp_t (inb_iI (by omega) (by omega) (by omega)) (wp_some ⟨hlt, ?_, ?_, ?_⟩))
    · show iI (k : Int) + 1 = iI ((k + 1 : Nat) : Int)
      have h9 : (1 : Int32) = iI 1 := rfl
      rw [h9, iI_add]
      rfl
    · intro j hj
      rw [mSL_2, clamp_iI (by omega) (by omega)]
      by_cases q : j = k
      · rw [if_pos ⟨rfl, by omega⟩]
      · rw [if_neg (by omega)]
        exact h2 j (by omega)
    · exact h3.sL rfl
  · have hkn : k = n := by omega
    subst hkn
    exact wp_t (by rw [iI_le] <;> omega) (wp_some ⟨h2, h3⟩)
