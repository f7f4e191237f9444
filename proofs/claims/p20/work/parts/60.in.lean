/-! ===== values: in ===== -/
def crossV (X Y : Nat → Int) (u v : Nat) (x y d : Int) : Int := (X v - X u) * (y - Y u * d) - (Y v - Y u) * (x - X u * d)
def nxtI (c k : Nat) : Nat := if k + 1 < c then k + 1 else 0
def sideV (X Y : Nat → Int) (c : Nat) (g : Nat → Nat) (x y d : Int) (k : Nat) : Prop := ∀ i, i < k → 0 ≤ crossV X Y (g i) (g (nxtI c i)) x y d
def betV (X Y : Nat → Int) (c : Nat) (g : Nat → Nat) (x y d : Int) : Prop := (X (g 0) * d ≤ x ∧ x ≤ X (g (c - 1)) * d) ∧ min (Y (g 0)) (Y (g (c - 1))) * d ≤ y ∧ y ≤ max (Y (g 0)) (Y (g (c - 1))) * d
def inB (X Y : Nat → Int) (c : Nat) (g : Nat → Nat) (x y d : Int) : Prop := sideV X Y c g x y d c ∧ (2 < c ∨ betV X Y c g x y d)
def b99 (X Y : Nat → Int) (u : Nat) : Prop := (-99 ≤ X u ∧ X u ≤ 99) ∧ -99 ≤ Y u ∧ Y u ≤ 99
def rngP (x1 x2 x3 : Int32) : Prop := (1 ≤ x3.toInt ∧ x3.toInt ≤ 1000) ∧ (-100000 ≤ x1.toInt ∧ x1.toInt ≤ 100000) ∧ -100000 ≤ x2.toInt ∧ x2.toInt ≤ 100000
theorem sideV_s {X Y : Nat → Int} {c k : Nat} {g : Nat → Nat} {x y d : Int} (h : sideV X Y c g x y d k) (e : 0 ≤ crossV X Y (g k) (g (nxtI c k)) x y d) : sideV X Y c g x y d (k + 1) := by
  intro i hi
  by_cases q : i = k
  · rw [q]
    exact e
  · exact h i (by omega)
theorem crossB {X Y : Nat → Int} {u v : Nat} {x1 x2 x3 : Int32} (hr : rngP x1 x2 x3) (bu : b99 X Y u) (bv : b99 X Y v) : -78804000 ≤ crossV X Y u v x1.toInt x2.toInt x3.toInt ∧ crossV X Y u v x1.toInt x2.toInt x3.toInt ≤ 78804000 := by
  unfold rngP at hr
  unfold b99 at bu bv
  obtain ⟨m1, m2⟩ := mulb (a := Y u) (b := x3.toInt) (m := 99) (n := 1000) (by omega) (by omega) (by omega) (by omega)
  obtain ⟨m3, m4⟩ := mulb (a := X u) (b := x3.toInt) (m := 99) (n := 1000) (by omega) (by omega) (by omega) (by omega)
  obtain ⟨p1, p2⟩ := mulb (a := X v - X u) (b := x2.toInt - Y u * x3.toInt) (m := 198) (n := 199000) (by omega) (by omega) (by omega) (by omega)
  obtain ⟨p3, p4⟩ := mulb (a := Y v - Y u) (b := x1.toInt - X u * x3.toInt) (m := 198) (n := 199000) (by omega) (by omega) (by omega) (by omega)
  unfold crossV
  omega
/-- a memory that holds the corners of the class -/
def cornC (X Y : Nat → Int) (c : Nat) (g : Nat → Nat) (N : Mem) : Prop := N.1 68 5 = iI (c : Int) ∧ (1 ≤ c ∧ c ≤ 9) ∧ (∀ i, i < c → N.2 74 i = lI (X (g i)) ∧ N.2 76 i = lI (Y (g i))) ∧ ∀ i, i < c → b99 X Y (g i)
theorem cornC.row {X Y : Nat → Int} {c : Nat} {g : Nat → Nat} {N : Mem} (h : cornC X Y c g N) {i : Nat} (hi : i < c) : F_Row_at 74 9 (iI (i : Int)) N = some (lI (X (g i))) ∧ F_Row_at 76 9 (iI (i : Int)) N = some (lI (Y (g i))) := by
  obtain ⟨nc, ⟨c1, c9⟩, cel, -⟩ := h
  have e : ((i : Int)).toNat = i := by omega
  refine ⟨?_, ?_⟩
  · rw [V_Row_at (by omega) (by omega) (by decide), e, (cel i hi).1]
  · rw [V_Row_at (by omega) (by omega) (by decide), e, (cel i hi).2]
theorem C_side {X Y : Nat → Int} {c i j : Nat} {g : Nat → Nat} {x1 x2 x3 : Int32} {N : Mem} (h : cornC X Y c g N) (hr : rngP x1 x2 x3) (hi : i < c) (hj : j < c) : F_Day_bodyHas_j38 x1 x2 x3 (iI (i : Int)) (iI (j : Int)) N = if 0 ≤ crossV X Y (g i) (g j) x1.toInt x2.toInt x3.toInt then some (.inl (iI (i : Int) + 1)) else some (.inr (.inl ())) := by
  have l0 : (0 : Int64) = lI 0 := rfl
  have cb := crossB hr (h.2.2.2 i hi) (h.2.2.2 j hj)
  unfold F_Day_bodyHas_j38
  rw [(h.row hi).1, (h.row hi).2, (h.row hj).1, (h.row hj).2, bs, bs, bs, bs, bs, bs]
  simp only [i64, lI_sub, lI_mul]
  show (if 0 ≤ lI (crossV X Y (g i) (g j) x1.toInt x2.toInt x3.toInt) then _ else _) = _
  by_cases q : 0 ≤ crossV X Y (g i) (g j) x1.toInt x2.toInt x3.toInt
  · rw [if_pos q, if_pos (by rw [l0, lI_le] <;> omega)]
  · rw [if_neg q, if_neg (by rw [l0, lI_le] <;> omega)]
theorem V_maxL {a b : Int} (a1 : -9223372036854775808 ≤ a) (a2 : a < 9223372036854775808) (b1 : -9223372036854775808 ≤ b) (b2 : b < 9223372036854775808) (M : Mem) : F_Math_max_JJJ (lI a) (lI b) M = some (lI (max a b)) := by
  unfold F_Math_max_JJJ
  by_cases h : a < b
  · rw [if_pos (by rw [lI_lt] <;> omega), show max a b = b by omega]
  · rw [if_neg (by rw [lI_lt] <;> omega), show max a b = a by omega]
theorem V_minL {a b : Int} (a1 : -9223372036854775808 ≤ a) (a2 : a < 9223372036854775808) (b1 : -9223372036854775808 ≤ b) (b2 : b < 9223372036854775808) (M : Mem) : F_Math_min_JJJ (lI a) (lI b) M = some (lI (min a b)) := by
  unfold F_Math_min_JJJ
  by_cases h : b < a
  · rw [if_pos (by rw [lI_lt] <;> omega), show min a b = b by omega]
  · rw [if_neg (by rw [lI_lt] <;> omega), show min a b = a by omega]
theorem V_min {a b : Int} (a1 : -2147483648 ≤ a) (a2 : a < 2147483648) (b1 : -2147483648 ≤ b) (b2 : b < 2147483648) (M : Mem) : F_Math_min_III (iI a) (iI b) M = some (iI (min a b)) := by
  unfold F_Math_min_III
  by_cases h : b < a
  · rw [if_pos (by rw [iI_lt] <;> omega), show min a b = b by omega]
  · rw [if_neg (by rw [iI_lt] <;> omega), show min a b = a by omega]
theorem iI_pred {c : Nat} (h : 1 ≤ c) : iI (c : Int) - 1 = iI ((c - 1 : Nat) : Int) := by
  rw [l32_1, iI_sub]
  congr 1
  omega
theorem C_between {X Y : Nat → Int} {c : Nat} {g : Nat → Nat} {x1 x2 x3 : Int32} {N : Mem} (h : cornC X Y c g N) (hr : rngP x1 x2 x3) : wpO (F_Day_isBetweenEnds x1 x2 x3 N) (fun b => b = true ↔ betV X Y c g x1.toInt x2.toInt x3.toInt) := by
  have c1 := h.2.1.1
  have a0 := h.row (i := 0) (by omega)
  have aL := h.row (i := c - 1) (by omega)
  have e0 : F_Row_at 74 9 0 N = some (lI (X (g 0))) := a0.1
  have e1 : F_Row_at 76 9 0 N = some (lI (Y (g 0))) := a0.2
  have u := h.2.2.2 0 (by omega)
  have v := h.2.2.2 (c - 1) (by omega)
  unfold b99 at u v
  unfold F_Day_isBetweenEnds
  rw [h.1, iI_pred c1, e0, e1, aL.1, aL.2, bs, bs, V_maxL (by omega) (by omega) (by omega) (by omega), bs, bs, bs, V_minL (by omega) (by omega) (by omega) (by omega), bs, bs, bs]
  simp only [i64, lI_mul]
  unfold betV
  unfold rngP at hr
  have m1 := mulb (a := X (g 0)) (b := x3.toInt) (m := 99) (n := 1000) (by omega) (by omega) (by omega) (by omega)
  have m2 := mulb (a := X (g (c - 1))) (b := x3.toInt) (m := 99) (n := 1000) (by omega) (by omega) (by omega) (by omega)
  have m3 := mulb (a := min (Y (g 0)) (Y (g (c - 1)))) (b := x3.toInt) (m := 99) (n := 1000) (by omega) (by omega) (by omega) (by omega)
  have m4 := mulb (a := max (Y (g 0)) (Y (g (c - 1)))) (b := x3.toInt) (m := 99) (n := 1000) (by omega) (by omega) (by omega) (by omega)
  generalize X (g 0) * x3.toInt = A1 at *
  generalize X (g (c - 1)) * x3.toInt = A2 at *
  generalize min (Y (g 0)) (Y (g (c - 1))) * x3.toInt = A3 at *
  generalize max (Y (g 0)) (Y (g (c - 1))) * x3.toInt = A4 at *
  refine wp_if (fun e => wp_some ⟨fun w => Bool.noConfusion w, fun w => ?_⟩) (fun e => ?_)
  · rw [lI_lt (by omega) (by omega) (by omega) (by omega)] at e
    omega
  rw [lI_lt (by omega) (by omega) (by omega) (by omega)] at e
  refine wp_if (fun e2 => wp_some ⟨fun w => Bool.noConfusion w, fun w => ?_⟩) (fun e2 => ?_)
  · rw [lI_lt (by omega) (by omega) (by omega) (by omega)] at e2
    omega
  rw [lI_lt (by omega) (by omega) (by omega) (by omega)] at e2
  refine wp_if (fun e3 => wp_some ⟨fun w => Bool.noConfusion w, fun w => ?_⟩) (fun e3 => ?_)
  · rw [lI_lt (by omega) (by omega) (by omega) (by omega)] at e3
    omega
  rw [lI_lt (by omega) (by omega) (by omega) (by omega)] at e3
  refine wp_if (fun e4 => wp_some ⟨fun w => Bool.noConfusion w, fun w => ?_⟩) (fun e4 => wp_some ⟨fun _ => ?_, fun _ => rfl⟩)
  · rw [lI_lt (by omega) (by omega) (by omega) (by omega)] at e4
    omega
  rw [lI_lt (by omega) (by omega) (by omega) (by omega)] at e4
  omega
theorem C_bodyHasV {X Y : Nat → Int} {c : Nat} {g : Nat → Nat} {x1 x2 x3 : Int32} {N : Mem} (h : cornC X Y c g N) (hr : rngP x1 x2 x3) : wpO (F_Day_bodyHas x1 x2 x3 N) (fun b => b = true ↔ inB X Y c g x1.toInt x2.toInt x3.toInt) := by
  have c1 := h.2.1.1
  have c9 := h.2.1.2
  have l9 : (9 : Int32) = iI 9 := rfl
  have l2 : (2 : Int32) = iI 2 := rfl
  unfold F_Day_bodyHas F_Day_bodyHas_l3
  refine wp_bind (Ψ := sumP (fun _ => ¬ sideV X Y c g x1.toInt x2.toInt x3.toInt c) (fun _ => sideV X Y c g x1.toInt x2.toInt x3.toInt c)) ?_ (fun q hq => ?_)
  · refine wp_iterS (P := fun k z => k ≤ c ∧ sideV X Y c g x1.toInt x2.toInt x3.toInt k ∧ z = iI (k : Int)) 9 ?_ _ _ ⟨Nat.zero_le _, fun i q => absurd q (Nat.not_lt_zero _), rfl⟩ (FUEL_big (by decide))
    rintro k z hk ⟨kc, hs, rfl⟩
    unfold F_Day_bodyHas_b3
    rw [h.1]
    refine wp_if (fun e => wp_some ?_) (fun e => ?_)
    · rw [iI_le (by omega) (by omega) (by omega) (by omega)] at e
      have q : k = c := by omega
      rw [q] at hs
      exact hs
    rw [iI_le (by omega) (by omega) (by omega) (by omega)] at e
    refine wp_f (by rw [l9, iI_le] <;> omega) ?_
    have st : ∀ j : Nat, j < c → nxtI c k = j → wpO (F_Day_bodyHas_j38 x1 x2 x3 (iI (k : Int)) (iI (j : Int)) N) (sumP (fun s' => k < 9 ∧ (k + 1 ≤ c ∧ sideV X Y c g x1.toInt x2.toInt x3.toInt (k + 1) ∧ s' = iI ((k + 1 : Nat) : Int))) (sumP (fun _ => ¬ sideV X Y c g x1.toInt x2.toInt x3.toInt c) (fun _ => sideV X Y c g x1.toInt x2.toInt x3.toInt c))) := by
      intro j hj ej
      rw [C_side h hr (show k < c by omega) hj]
      refine wp_if (fun w => wp_some ⟨by omega, by omega, sideV_s hs (by rw [ej]; exact w), iI_succ k⟩) (fun w => wp_some (fun q => w ?_))
      have := q k (by omega)
      rw [ej] at this
      exact this
    rw [iI_succ]
    refine wp_if (fun e2 => ?_) (fun e2 => ?_)
    · rw [iI_le (by omega) (by omega) (by omega) (by omega)] at e2
      exact st 0 (by omega) (by unfold nxtI; rw [if_neg (by omega)])
    · rw [iI_le (by omega) (by omega) (by omega) (by omega)] at e2
      exact st (k + 1) (by omega) (by unfold nxtI; rw [if_pos (by omega)])
  · cases q with
    | inl r => exact wp_some ⟨fun w => Bool.noConfusion w, fun w => absurd w.1 hq⟩
    | inr r =>
      show wpO (F_Day_bodyHas_j140 x1 x2 x3 N) _
      unfold F_Day_bodyHas_j140
      rw [h.1]
      refine wp_if (fun e => wp_some ⟨fun _ => ⟨hq, Or.inl ?_⟩, fun _ => rfl⟩) (fun e => ?_)
      · rw [l2, iI_lt (by omega) (by omega) (by omega) (by omega)] at e
        omega
      rw [l2, iI_lt (by omega) (by omega) (by omega) (by omega)] at e
      refine wp_bind (C_between h hr) (fun b hb => ?_)
      refine wp_if (fun w => wp_some ⟨fun _ => ⟨hq, Or.inr (hb.mp w)⟩, fun _ => rfl⟩) (fun w => wp_some ⟨fun z => Bool.noConfusion z, fun z => ?_⟩)
      rcases z.2 with q | q
      · omega
      · exact absurd (hb.mpr q) w
theorem sgn_mul {d C : Int} (hd : 1 ≤ d) : d * C < 0 ↔ C < 0 := by
  constructor
  · intro h
    rcases Int.lt_or_le C 0 with q | q
    · exact q
    · have := Int.mul_nonneg (show 0 ≤ d by omega) q
      omega
  · intro h
    exact Int.mul_neg_of_pos_of_neg (by omega) h
theorem nxt_mod {c k : Nat} (hk : k < c) : (k + 1) % c = nxtI c k ∧ nxtI c k < c := by
  unfold nxtI
  rcases Nat.lt_or_ge (k + 1) c with q | q
  · rw [if_pos q, Nat.mod_eq_of_lt q]
    exact ⟨rfl, q⟩
  · rw [if_neg (by omega), show k + 1 = c by omega, Nat.mod_self]
    exact ⟨rfl, by omega⟩
theorem bodyS.b {W : Nat → Int32} {A c : Nat} {g : Nat → Nat} (h : brOK W) (a3 : A ≤ 3) (hb : bodyS (pX W A) (pY W A) (A * A) c g) : (∀ i, i < c → b99 (pX W A) (pY W A) (g i)) ∧ pX W A (g 0) ≤ pX W A (g (c - 1)) := by
  obtain ⟨c1, c9, hl, ⟨-, gi, -, -⟩, -⟩ := hb
  refine ⟨fun i hi => pW h a3 (g i) (gi i (by omega)).1, ?_⟩
  have := hl (g (c - 1)) (gi (c - 1) (by omega)).1
  omega
theorem N_isInV {A : Nat} {x1 x2 x3 : Int32} {M : Mem} (h : RIW (M.1 95)) (hA : M.1 95 0 = iI (A : Int)) (a2 : 2 ≤ A) (a3 : A ≤ 3) (hr : rngP x1 x2 x3) : wpO (F_MO_isIn x1.toInt64 x2.toInt64 x3.toInt64 M) (fun r => r.2.1 95 = M.1 95 ∧ ∃ (c : Nat) (g : Nat → Nat), bodyS (pX (M.1 95) A) (pY (M.1 95) A) (A * A) c g ∧ (r.1 = true ↔ inB (pX (M.1 95) A) (pY (M.1 95) A) c g x1.toInt x2.toInt x3.toInt)) := by
  have l0 : (0 : Int32) = iI 0 := rfl
  have z0 : (0 : Int64) = lI 0 := rfl
  have l2 : (2 : Int32) = iI 2 := rfl
  unfold F_MO_isIn
  refine wp_bind (N_bodyV h hA a2 a3) (fun P hP => ?_)
  obtain ⟨p95, c, g, hc, hb, cel⟩ := hP
  have c1 := hb.1
  have c9 := hb.2.1
  obtain ⟨hB, hle⟩ := hb.b h.br a3
  have hd := hr.1.1
  unfold F_MO_isIn_l10
  generalize pX (M.1 95) A = X at *
  generalize pY (M.1 95) A = Y at *
  refine wp_bind (Ψ := fun b => b = true ↔ sideV X Y c g x1.toInt x2.toInt x3.toInt c) ?_ (fun b hbs => ?_)
  · refine wp_iterS (P := fun k z => k ≤ c ∧ (z.1 = true ↔ sideV X Y c g x1.toInt x2.toInt x3.toInt k) ∧ z.2 = iI (k : Int)) 9 ?_ _ _ ⟨Nat.zero_le _, ⟨fun _ i q => absurd q (Nat.not_lt_zero _), fun _ => rfl⟩, rfl⟩ (FUEL_big (by decide))
    rintro k ⟨z1, z2⟩ hk ⟨kc, e1, e2⟩
    dsimp only at e1 e2
    subst e2
    unfold F_MO_isIn_b10
    dsimp only
    rw [hc]
    refine wp_if (fun e => wp_some ?_) (fun e => ?_)
    · rw [iI_le (by omega) (by omega) (by omega) (by omega)] at e
      have q : k = c := by omega
      rw [q] at e1
      exact e1
    rw [iI_le (by omega) (by omega) (by omega) (by omega)] at e
    have kc2 : k < c := by omega
    refine wp_t (by rw [l0, iI_eq] <;> omega) ?_
    have no : ¬ sideV X Y c g x1.toInt x2.toInt x3.toInt (k + 1) → ((false = true) ↔ sideV X Y c g x1.toInt x2.toInt x3.toInt (k + 1)) := fun q => ⟨fun w => Bool.noConfusion w, fun w => absurd w q⟩
    refine wp_if (fun z => ?_) (fun z => wp_some ⟨by omega, by omega, no (fun w => z (e1.mpr (fun i hi => w i (by omega)))), iI_succ k⟩)
    obtain ⟨nm, nl⟩ := nxt_mod kc2
    have i1 : inb (iI (k : Int)) 10 := inb_iI (by omega) (by omega) (by omega)
    rw [iI_succ, irmN (by omega) (by omega), nm]
    have i2 : inb (iI ((nxtI c k : Nat) : Int)) 10 := inb_iI (by omega) (by omega) (by omega)
    refine wp_t i1 (wp_t i1 (wp_t i2 (wp_t i2 ?_)))
    simp only [clN (n := k) (by omega), clN (n := nxtI c k) (by omega)]
    have bk := hB k kc2
    have bn := hB (nxtI c k) nl
    have cb := crossB hr bk bn
    have bk2 := bk
    have bn2 := bn
    unfold b99 at bk2 bn2
    rw [(cel k kc2).1, (cel k kc2).2, (cel _ nl).1, (cel _ nl).2, iI_l (by omega) (by omega), iI_l (by omega) (by omega), iI_l (by omega) (by omega), iI_l (by omega) (by omega), i64, i64, i64, lI_mul, lI_mul, lI_mul, lI_mul, N_turn, bs]
    have e3 : (X (g (nxtI c k)) * x3.toInt - X (g k) * x3.toInt) * (x2.toInt - Y (g k) * x3.toInt) - (Y (g (nxtI c k)) * x3.toInt - Y (g k) * x3.toInt) * (x1.toInt - X (g k) * x3.toInt) = x3.toInt * crossV X Y (g k) (g (nxtI c k)) x1.toInt x2.toInt x3.toInt := by
      unfold crossV
      grind
    rw [e3]
    have hd2 := hr.1.2
    have mb := mulb (a := x3.toInt) (b := crossV X Y (g k) (g (nxtI c k)) x1.toInt x2.toInt x3.toInt) (m := 1000) (n := 78804000) (by omega) (by omega) (by omega) (by omega)
    have sg := sgn_mul (C := crossV X Y (g k) (g (nxtI c k)) x1.toInt x2.toInt x3.toInt) hd
    refine wp_if (fun w => wp_some ⟨by omega, by omega, no (fun q => ?_), rfl⟩) (fun w => wp_some ⟨by omega, by omega, ⟨fun _ => sideV_s (e1.mp z) ?_, fun _ => rfl⟩, rfl⟩)
    · rw [z0, lI_lt (by omega) (by omega) (by omega) (by omega), sg] at w
      have := q k (by omega)
      omega
    · rw [z0, lI_lt (by omega) (by omega) (by omega) (by omega), sg] at w
      omega
  · unfold F_MO_isIn_j102
    rw [hc, iI_pred c1]
    have i0 : inb (0 : Int32) 10 := by decide
    have i1 : inb (iI ((c - 1 : Nat) : Int)) 10 := inb_iI (by omega) (by omega) (by omega)
    have fin : ∀ b2 : Bool, (b2 = true ↔ inB X Y c g x1.toInt x2.toInt x3.toInt) → wpO (some (b2, P)) (fun r => r.2.1 95 = M.1 95 ∧ ∃ (c : Nat) (g : Nat → Nat), bodyS X Y (A * A) c g ∧ (r.1 = true ↔ inB X Y c g x1.toInt x2.toInt x3.toInt)) := fun b2 hb2 => wp_some ⟨p95, c, g, hb, hb2⟩
    have u := hB 0 (by omega)
    have v := hB (c - 1) (by omega)
    unfold b99 at u v
    refine wp_if (fun e => ?_) (fun e => fin _ ⟨fun w => ⟨hbs.mp w, Or.inl ?_⟩, fun w => hbs.mpr w.1⟩)
    · rw [l2, iI_le (by omega) (by omega) (by omega) (by omega)] at e
      refine wp_if (fun z => ?_) (fun z => fin _ ⟨fun w => Bool.noConfusion w, fun w => absurd (hbs.mpr w.1) z⟩)
      have sd := hbs.mp z
      simp only [tn0, clN (n := c - 1) (by omega)]
      rw [(cel 0 (by omega)).1, (cel 0 (by omega)).2, (cel (c - 1) (by omega)).1, (cel (c - 1) (by omega)).2]
      have key : inB X Y c g x1.toInt x2.toInt x3.toInt ↔ betV X Y c g x1.toInt x2.toInt x3.toInt := ⟨fun w => w.2.resolve_left (by omega), fun w => ⟨sd, Or.inr w⟩⟩
      have hr2 := hr
      unfold rngP at hr2
      have m1 := mulb (a := X (g 0)) (b := x3.toInt) (m := 99) (n := 1000) (by omega) (by omega) (by omega) (by omega)
      have m2 := mulb (a := X (g (c - 1))) (b := x3.toInt) (m := 99) (n := 1000) (by omega) (by omega) (by omega) (by omega)
      have m3 := mulb (a := min (Y (g 0)) (Y (g (c - 1)))) (b := x3.toInt) (m := 99) (n := 1000) (by omega) (by omega) (by omega) (by omega)
      have m4 := mulb (a := max (Y (g 0)) (Y (g (c - 1)))) (b := x3.toInt) (m := 99) (n := 1000) (by omega) (by omega) (by omega) (by omega)
      rw [V_min (by omega) (by omega) (by omega) (by omega), V_max (by omega) (by omega) (by omega) (by omega), V_min (by omega) (by omega) (by omega) (by omega), V_max (by omega) (by omega) (by omega) (by omega), bs, bs, bs, bs, iI_l (by omega) (by omega), iI_l (by omega) (by omega), iI_l (by omega) (by omega), iI_l (by omega) (by omega), i64, i64, i64, lI_mul, lI_mul, lI_mul, lI_mul, show min (X (g 0)) (X (g (c - 1))) = X (g 0) by omega, show max (X (g 0)) (X (g (c - 1))) = X (g (c - 1)) by omega]
      unfold betV at key
      generalize X (g 0) * x3.toInt = A1 at *
      generalize X (g (c - 1)) * x3.toInt = A2 at *
      generalize min (Y (g 0)) (Y (g (c - 1))) * x3.toInt = A3 at *
      generalize max (Y (g 0)) (Y (g (c - 1))) * x3.toInt = A4 at *
      have nof : ¬ ((A1 ≤ x1.toInt ∧ x1.toInt ≤ A2) ∧ A3 ≤ x2.toInt ∧ x2.toInt ≤ A4) → wpO (some (false, P)) (fun r => r.2.1 95 = M.1 95 ∧ ∃ (c : Nat) (g : Nat → Nat), bodyS X Y (A * A) c g ∧ (r.1 = true ↔ inB X Y c g x1.toInt x2.toInt x3.toInt)) := fun q => fin false ⟨fun w => Bool.noConfusion w, fun w => absurd (key.mp w) q⟩
      refine wp_t i0 (wp_t i1 (wp_if (fun w => nof ?_) (fun w => ?_)))
      · rw [lI_lt (by omega) (by omega) (by omega) (by omega)] at w
        omega
      rw [lI_lt (by omega) (by omega) (by omega) (by omega)] at w
      refine wp_t i0 (wp_t i1 (wp_if (fun w2 => nof ?_) (fun w2 => ?_)))
      · rw [lI_lt (by omega) (by omega) (by omega) (by omega)] at w2
        omega
      rw [lI_lt (by omega) (by omega) (by omega) (by omega)] at w2
      refine wp_t i0 (wp_t i1 (wp_if (fun w3 => nof ?_) (fun w3 => ?_)))
      · rw [lI_lt (by omega) (by omega) (by omega) (by omega)] at w3
        omega
      rw [lI_lt (by omega) (by omega) (by omega) (by omega)] at w3
      refine wp_t i0 (wp_t i1 (wp_if (fun w4 => nof ?_) (fun w4 => fin true ⟨fun _ => key.mpr ?_, fun _ => rfl⟩)))
      · rw [lI_lt (by omega) (by omega) (by omega) (by omega)] at w4
        omega
      rw [lI_lt (by omega) (by omega) (by omega) (by omega)] at w4
      omega
    · rw [l2, iI_le (by omega) (by omega) (by omega) (by omega)] at e
      omega
