/-! ===== values: the class's corners ===== -/
/-- the class's points: nine, what is no pair of acts counts as the first -/
def qOk (A j : Nat) : Prop := j / 3 < A ∧ j % 3 < A
def qX (W : Nat → Int32) (A j : Nat) : Int := if j / 3 < A ∧ j % 3 < A then br W (j / 3) (j % 3) 0 else br W 0 0 0
def qY (W : Nat → Int32) (A j : Nat) : Int := if j / 3 < A ∧ j % 3 < A then br W (j / 3) (j % 3) 1 else br W 0 0 1
theorem qXY {W : Nat → Int32} {A j : Nat} (h : qOk A j) : qX W A j = br W (j / 3) (j % 3) 0 ∧ qY W A j = br W (j / 3) (j % 3) 1 := by
  have h2 : j / 3 < A ∧ j % 3 < A := h
  unfold qX qY
  rw [if_pos h2, if_pos h2]
  exact ⟨rfl, rfl⟩
theorem q0 {W : Nat → Int32} {A j : Nat} (a1 : 0 < A) (h : ¬ qOk A j) : qX W A j = qX W A 0 ∧ qY W A j = qY W A 0 := by
  have z : qOk A 0 := ⟨a1, a1⟩
  rw [(qXY z).1, (qXY z).2]
  have h2 : ¬ (j / 3 < A ∧ j % 3 < A) := h
  unfold qX qY
  rw [if_neg h2, if_neg h2]
  exact ⟨rfl, rfl⟩
theorem qW {W : Nat → Int32} {A : Nat} (h : brOK W) (a1 : 0 < A) (a3 : A ≤ 3) : within99 (qX W A) (qY W A) 9 := by
  have key : ∀ j, qOk A j → (-99 ≤ qX W A j ∧ qX W A j ≤ 99) ∧ -99 ≤ qY W A j ∧ qY W A j ≤ 99 := by
    intro j hj
    rw [(qXY hj).1, (qXY hj).2]
    exact ⟨h _ _ 0 (by have := hj.1; omega) (by have := hj.2; omega) (by decide), h _ _ 1 (by have := hj.1; omega) (by have := hj.2; omega) (by decide)⟩
  intro j hj
  by_cases q : qOk A j
  · exact key j q
  · rw [(q0 a1 q).1, (q0 a1 q).2]
    exact key 0 ⟨a1, a1⟩
/-- the same points on both sides -/
theorem p_q {W : Nat → Int32} {A : Nat} (a3 : A ≤ 3) {j : Nat} (hj : j < A * A) : ∃ i, i < 9 ∧ qOk A i ∧ qX W A i = pX W A j ∧ qY W A i = pY W A j := by
  obtain ⟨h1, h2⟩ := AA_lt hj
  have e1 : (3 * (j / A) + j % A) / 3 = j / A := by omega
  have e2 : (3 * (j / A) + j % A) % 3 = j % A := by omega
  have ok : qOk A (3 * (j / A) + j % A) := by
    unfold qOk
    rw [e1, e2]
    exact ⟨h1, h2⟩
  refine ⟨3 * (j / A) + j % A, by omega, ok, ?_, ?_⟩
  · rw [(qXY ok).1, e1, e2]
    rfl
  · rw [(qXY ok).2, e1, e2]
    rfl
theorem q_p {W : Nat → Int32} {A : Nat} (a1 : 0 < A) (j : Nat) : ∃ i, i < A * A ∧ pX W A i = qX W A j ∧ pY W A i = qY W A j := by
  have key : ∀ j, qOk A j → ∃ i, i < A * A ∧ pX W A i = qX W A j ∧ pY W A i = qY W A j := by
    intro j hj
    have e := pXY (W := W) (A := A) (a := j / 3) (b := j % 3) a1 hj.2
    refine ⟨A * (j / 3) + j % 3, ?_, ?_, ?_⟩
    · have : A * (j / 3 + 1) ≤ A * A := Nat.mul_le_mul_left A hj.1
      rw [Nat.mul_add, Nat.mul_one] at this
      have := hj.2
      omega
    · rw [e.1, (qXY hj).1]
    · rw [e.2, (qXY hj).2]
  by_cases q : qOk A j
  · exact key j q
  · rw [(q0 a1 q).1, (q0 a1 q).2]
    exact key 0 ⟨a1, a1⟩
theorem V_div3 {j : Nat} (h : j < 9) : (iI (j : Int)) / 3 = iI ((j / 3 : Nat) : Int) ∧ irm (iI (j : Int)) 3 = iI ((j % 3 : Nat) : Int) := by
  have t : ∀ j : Nat, j < 9 → (iI (j : Int)) / 3 = iI ((j / 3 : Nat) : Int) ∧ irm (iI (j : Int)) 3 = iI ((j % 3 : Nat) : Int) := by decide +kernel
  exact t j h
theorem C_across {W : Nat → Int32} {A j : Nat} {M : Mem} (hr : relB M) (hW : M.1 95 = W) (hj : j < 9) (ok : qOk A j) : F_Day_across (iI (j : Int)) M = some (iI (qX W A j)) := by
  unfold F_Day_across
  rw [(V_div3 hj).1, (V_div3 hj).2]
  have e : F_Well_bringsTo 0 (iI ((j / 3 : Nat) : Int)) (iI ((j % 3 : Nat) : Int)) M = some (iI (br (M.1 95) (j / 3) (j % 3) 0)) := C_bringsTo (p := 0) hr (by omega) (by omega) (by decide)
  rw [e, bs, hW, (qXY ok).1]
theorem C_up {W : Nat → Int32} {A j : Nat} {M : Mem} (hr : relB M) (hW : M.1 95 = W) (hj : j < 9) (ok : qOk A j) : F_Day_up (iI (j : Int)) M = some (iI (qY W A j)) := by
  unfold F_Day_up
  rw [(V_div3 hj).1, (V_div3 hj).2]
  have e : F_Well_bringsTo 1 (iI ((j / 3 : Nat) : Int)) (iI ((j % 3 : Nat) : Int)) M = some (iI (br (M.1 95) (j / 3) (j % 3) 1)) := C_bringsTo (p := 1) hr (by omega) (by omega) (by decide)
  rw [e, bs, hW, (qXY ok).2]
theorem C_isPoint {A j : Nat} {M : Mem} (f0 : M.1 1 0 = iI (A : Int)) (a3 : A ≤ 3) (hj : j < 9) : ∃ b : Bool, F_Day_isPoint (iI (j : Int)) M = some b ∧ (b = true ↔ qOk A j) := by
  unfold F_Day_isPoint
  rw [(V_div3 hj).1, (V_div3 hj).2, f0]
  by_cases c1 : j / 3 < A
  · rw [if_neg (by rw [iI_le] <;> omega)]
    by_cases c2 : j % 3 < A
    · rw [if_neg (by rw [iI_le] <;> omega)]
      exact ⟨true, rfl, fun _ => ⟨c1, c2⟩, fun _ => rfl⟩
    · rw [if_pos (by rw [iI_le] <;> omega)]
      exact ⟨false, rfl, fun w => Bool.noConfusion w, fun w => absurd w.2 c2⟩
  · rw [if_pos (by rw [iI_le] <;> omega)]
    exact ⟨false, rfl, fun w => Bool.noConfusion w, fun w => absurd w.1 c1⟩
theorem C_firstCorner {W : Nat → Int32} {A : Nat} {M : Mem} (hr : relB M) (hW : M.1 95 = W) (f0 : M.1 1 0 = iI (A : Int)) (h : brOK W) (a1 : 0 < A) (a3 : A ≤ 3) : wpO (F_Day_firstCorner M) (fun r => ∃ a : Nat, r = iI (a : Int) ∧ a < 9 ∧ qOk A a ∧ lstP (qX W A) (qY W A) 9 a) := by
  have l9 : (9 : Int32) = iI 9 := rfl
  have hw := qW h a1 a3
  unfold F_Day_firstCorner F_Day_firstCorner_l4
  refine wp_bind (Ψ := fun r => ∃ a : Nat, r = iI (a : Int) ∧ a < 9 ∧ qOk A a ∧ lstP (qX W A) (qY W A) 9 a) ?_ (fun r hr => wp_some hr)
  refine wp_iterS (P := fun k z => z.2 = iI ((k + 1 : Nat) : Int) ∧ k + 1 ≤ 9 ∧ ∃ a : Nat, z.1 = iI (a : Int) ∧ a < 9 ∧ qOk A a ∧ lstP (qX W A) (qY W A) (k + 1) a) 9 ?_ _ _ ⟨rfl, by omega, 0, rfl, by omega, ⟨a1, a1⟩, fun j hj => Or.inr ⟨by rw [show j = 0 by omega], by rw [show j = 0 by omega]; exact Int.le_refl _⟩⟩ (FUEL_big (by decide))
  rintro k ⟨z1, z2⟩ hk ⟨e2, k9, a, e1, ha, oka, hl⟩
  dsimp only at e1 e2
  subst e1
  subst e2
  unfold F_Day_firstCorner_b4
  dsimp only
  refine wp_if (fun c => wp_some ⟨a, rfl, ha, oka, ?_⟩) (fun c => ?_)
  · rw [l9, iI_le (by omega) (by omega) (by omega) (by omega)] at c
    rw [show 9 = k + 1 by omega]
    exact hl
  rw [l9, iI_le (by omega) (by omega) (by omega) (by omega)] at c
  have k1 : k + 1 < 9 := by omega
  have old : ∀ j, j < k + 1 + 1 → j ≠ k + 1 → j < k + 1 := fun j h1 h2 => by omega
  obtain ⟨b, eb, hb⟩ := C_isPoint (A := A) (j := k + 1) f0 a3 k1
  rw [eb, bs]
  have ba := hw a ha
  have bk := hw (k + 1) k1
  refine wp_if (fun hbt => ?_) (fun hbf => wp_some ⟨by omega, iI_succ (k + 1), by omega, a, rfl, ha, oka, fun j hj => ?_⟩)
  · have okk := hb.mp hbt
    rw [C_across hr hW k1 okk, bs, C_across hr hW ha oka, bs, C_up hr hW k1 okk, bs, C_up hr hW ha oka, bs]
    refine wp_if (fun c1 => wp_some ⟨by omega, iI_succ (k + 1), by omega, k + 1, rfl, k1, okk, fun j hj => ?_⟩) (fun c1 => ?_)
    · rw [iI_lt (by omega) (by omega) (by omega) (by omega)] at c1
      by_cases q : j = k + 1
      · rw [q]
        exact Or.inr ⟨rfl, Int.le_refl _⟩
      · have := hl j (old j hj q)
        omega
    rw [iI_lt (by omega) (by omega) (by omega) (by omega)] at c1
    refine wp_if (fun c2 => ?_) (fun c2 => wp_some ⟨by omega, iI_succ (k + 1), by omega, a, rfl, ha, oka, fun j hj => ?_⟩)
    · rw [iI_eq (by omega) (by omega) (by omega) (by omega)] at c2
      rw [bs, bs]
      refine wp_if (fun c3 => wp_some ⟨by omega, iI_succ (k + 1), by omega, a, rfl, ha, oka, fun j hj => ?_⟩) (fun c3 => wp_some ⟨by omega, iI_succ (k + 1), by omega, k + 1, rfl, k1, okk, fun j hj => ?_⟩)
      · rw [iI_le (by omega) (by omega) (by omega) (by omega)] at c3
        by_cases q : j = k + 1
        · rw [q]
          omega
        · exact hl j (old j hj q)
      · rw [iI_le (by omega) (by omega) (by omega) (by omega)] at c3
        by_cases q : j = k + 1
        · rw [q]
          exact Or.inr ⟨rfl, Int.le_refl _⟩
        · have := hl j (old j hj q)
          omega
    · rw [iI_eq (by omega) (by omega) (by omega) (by omega)] at c2
      by_cases q : j = k + 1
      · rw [q]
        omega
      · exact hl j (old j hj q)
  · by_cases q : j = k + 1
    · have nk : ¬ qOk A (k + 1) := fun w => hbf (hb.mpr w)
      rw [q, (q0 a1 nk).1, (q0 a1 nk).2]
      exact hl 0 (by omega)
    · exact hl j (old j hj q)
theorem C_further {W : Nat → Int32} {A u v k : Nat} {M : Mem} (hr : relB M) (hW : M.1 95 = W) (h : brOK W) (a1 : 0 < A) (a3 : A ≤ 3) (hu : u < 9) (hv : v < 9) (hk : k < 9) (ou : qOk A u) (ov : qOk A v) (ok : qOk A k) : ∃ b : Bool, F_Day_isFurtherRight (iI (u : Int)) (iI (v : Int)) (iI (k : Int)) M = some b ∧ (b = true ↔ (crs (qX W A) (qY W A) u v k < 0 ∨ (crs (qX W A) (qY W A) u v k = 0 ∧ dst (qX W A) (qY W A) u v < dst (qX W A) (qY W A) u k))) := by
  have hw := qW h a1 a3
  have bu := hw u hu
  have bv := hw v hv
  have bk := hw k hk
  have z0 : (0 : Int32) = iI 0 := rfl
  unfold F_Day_isFurtherRight
  rw [C_across hr hW hv ov, C_across hr hW hu ou, C_up hr hW hv ov, C_up hr hW hu ou, C_across hr hW hk ok, C_up hr hW hk ok, bs, bs, bs, bs, bs, bs, bs, bs]
  simp only [iI_sub, iI_mul, iI_add]
  have ct : (qX W A v - qX W A u) * (qY W A k - qY W A u) - (qY W A v - qY W A u) * (qX W A k - qX W A u) = crs (qX W A) (qY W A) u v k := rfl
  have cf : (qX W A k - qX W A u) * (qX W A k - qX W A u) + (qY W A k - qY W A u) * (qY W A k - qY W A u) - (qX W A v - qX W A u) * (qX W A v - qX W A u) - (qY W A v - qY W A u) * (qY W A v - qY W A u) = dst (qX W A) (qY W A) u k - dst (qX W A) (qY W A) u v := by
    unfold dst
    omega
  rw [ct, cf]
  have cb : -78408 ≤ crs (qX W A) (qY W A) u v k ∧ crs (qX W A) (qY W A) u v k ≤ 78408 := by
    obtain ⟨d1, d2⟩ := mulb (a := qX W A v - qX W A u) (b := qY W A k - qY W A u) (m := 198) (n := 198) (by omega) (by omega) (by omega) (by omega)
    obtain ⟨d3, d4⟩ := mulb (a := qY W A v - qY W A u) (b := qX W A k - qX W A u) (m := 198) (n := 198) (by omega) (by omega) (by omega) (by omega)
    unfold crs
    omega
  have db : ∀ j, j < 9 → 0 ≤ dst (qX W A) (qY W A) u j ∧ dst (qX W A) (qY W A) u j ≤ 78408 := by
    intro j hj
    have bj := hw j hj
    obtain ⟨d1, d2⟩ := mulb (a := qX W A j - qX W A u) (b := qX W A j - qX W A u) (m := 198) (n := 198) (by omega) (by omega) (by omega) (by omega)
    obtain ⟨d3, d4⟩ := mulb (a := qY W A j - qY W A u) (b := qY W A j - qY W A u) (m := 198) (n := 198) (by omega) (by omega) (by omega) (by omega)
    refine ⟨dst_nn, ?_⟩
    unfold dst
    omega
  have dk := db k hk
  have dv := db v hv
  clear ct cf db
  generalize crs (qX W A) (qY W A) u v k = C at *
  generalize dst (qX W A) (qY W A) u k = D1 at *
  generalize dst (qX W A) (qY W A) u v = D2 at *
  by_cases c1 : C < 0
  · rw [if_pos (by rw [z0, iI_lt] <;> omega)]
    exact ⟨true, rfl, fun _ => Or.inl c1, fun _ => rfl⟩
  · rw [if_neg (by rw [z0, iI_lt] <;> omega)]
    by_cases c2 : C = 0
    · rw [if_pos (by rw [z0, iI_eq] <;> omega)]
      by_cases c3 : D1 - D2 ≤ 0
      · rw [if_pos (by rw [z0, iI_le] <;> omega)]
        exact ⟨false, rfl, fun w => Bool.noConfusion w, fun w => by omega⟩
      · rw [if_neg (by rw [z0, iI_le] <;> omega)]
        exact ⟨true, rfl, fun _ => Or.inr ⟨c2, by omega⟩, fun _ => rfl⟩
    · rw [if_neg (by rw [z0, iI_eq] <;> omega)]
      exact ⟨false, rfl, fun w => Bool.noConfusion w, fun w => by omega⟩
theorem C_cornerAfter {W : Nat → Int32} {A u : Nat} {M : Mem} (hr : relB M) (hW : M.1 95 = W) (f0 : M.1 1 0 = iI (A : Int)) (h : brOK W) (a1 : 0 < A) (a3 : A ≤ 3) (hu : u < 9) (ou : qOk A u) (he : ext (qX W A) (qY W A) 9 u) : wpO (F_Day_cornerAfter (iI (u : Int)) M) (fun r => ∃ v : Nat, r = iI (v : Int) ∧ v < 9 ∧ qOk A v ∧ ((v = u ∧ ∀ j, j < 9 → qX W A j = qX W A u ∧ qY W A j = qY W A u) ∨ nxt (qX W A) (qY W A) 9 u v)) := by
  have l9 : (9 : Int32) = iI 9 := rfl
  unfold F_Day_cornerAfter F_Day_cornerAfter_l4
  refine wp_bind (Ψ := fun r => ∃ v : Nat, r = iI (v : Int) ∧ v < 9 ∧ qOk A v ∧ ((v = u ∧ ∀ j, j < 9 → qX W A j = qX W A u ∧ qY W A j = qY W A u) ∨ nxt (qX W A) (qY W A) 9 u v)) ?_ (fun r hr => wp_some hr)
  refine wp_iterS (P := fun k z => z.2 = iI (k : Int) ∧ k ≤ 9 ∧ ∃ v : Nat, z.1 = iI (v : Int) ∧ v < 9 ∧ qOk A v ∧ ((v = u ∧ ∀ j, j < k → qX W A j = qX W A u ∧ qY W A j = qY W A u) ∨ nxt (qX W A) (qY W A) k u v)) 9 ?_ _ _ ⟨rfl, by omega, u, rfl, hu, ou, Or.inl ⟨rfl, fun j hj => absurd hj (Nat.not_lt_zero _)⟩⟩ (FUEL_big (by decide))
  rintro k ⟨z1, z2⟩ hk ⟨e2, k9, v, e1, hv, ov, hn⟩
  dsimp only at e1 e2
  subst e1
  subst e2
  unfold F_Day_cornerAfter_b4
  dsimp only
  refine wp_if (fun c => wp_some ⟨v, rfl, hv, ov, ?_⟩) (fun c => ?_)
  · rw [l9, iI_le (by omega) (by omega) (by omega) (by omega)] at c
    have e : k = 9 := by omega
    rw [e] at hn
    exact hn
  rw [l9, iI_le (by omega) (by omega) (by omega) (by omega)] at c
  have k1 : k < 9 := by omega
  obtain ⟨b, eb, hb⟩ := C_isPoint (A := A) (j := k) f0 a3 k1
  rw [eb, bs]
  have keep : ((v = u ∧ ∀ j, j < k + 1 → qX W A j = qX W A u ∧ qY W A j = qY W A u) ∨ nxt (qX W A) (qY W A) (k + 1) u v) → wpO (some (Sum.inl (iI (v : Int), iI (k : Int) + 1)) : Option ((Int32 × Int32) ⊕ Int32)) (sumP (fun s' => k < 9 ∧ (s'.2 = iI ((k + 1 : Nat) : Int) ∧ k + 1 ≤ 9 ∧ ∃ v : Nat, s'.1 = iI (v : Int) ∧ v < 9 ∧ qOk A v ∧ ((v = u ∧ ∀ j, j < k + 1 → qX W A j = qX W A u ∧ qY W A j = qY W A u) ∨ nxt (qX W A) (qY W A) (k + 1) u v))) (fun r => ∃ v : Nat, r = iI (v : Int) ∧ v < 9 ∧ qOk A v ∧ ((v = u ∧ ∀ j, j < 9 → qX W A j = qX W A u ∧ qY W A j = qY W A u) ∨ nxt (qX W A) (qY W A) 9 u v))) := fun hq => wp_some ⟨k1, iI_succ k, by omega, v, rfl, hv, ov, hq⟩
  have same : (qX W A k = qX W A u ∧ qY W A k = qY W A u) → ((v = u ∧ ∀ j, j < k + 1 → qX W A j = qX W A u ∧ qY W A j = qY W A u) ∨ nxt (qX W A) (qY W A) (k + 1) u v) := by
    intro hq
    rcases hn with ⟨e, hall⟩ | hn
    · refine Or.inl ⟨e, fun j hj => ?_⟩
      by_cases q : j = k
      · rw [q]
        exact hq
      · exact hall j (by omega)
    · obtain ⟨c1, c2⟩ := crs_u (v := v) hq
      have := dst_nn (X := qX W A) (Y := qY W A) (u := u) (j := v)
      exact Or.inr (nxt_keep hn (Or.inr ⟨c1, by omega⟩))
  refine wp_if (fun hbt => ?_) (fun hbf => keep ?_)
  · have okk := hb.mp hbt
    obtain ⟨t, et, ht⟩ := C_further (A := A) (u := u) (v := v) (k := k) hr hW h a1 a3 hu hv k1 ou ov okk
    rw [et, bs]
    refine wp_if (fun c1 => wp_some ⟨k1, iI_succ k, by omega, k, rfl, k1, okk, ?_⟩) (fun c1 => keep ?_)
    · have c2 := ht.mp c1
      have nq : ¬ (qX W A k = qX W A u ∧ qY W A k = qY W A u) := by
        intro hq
        obtain ⟨x1, x2⟩ := crs_u (v := v) hq
        have := dst_nn (X := qX W A) (Y := qY W A) (u := u) (j := v)
        omega
      rcases hn with ⟨e, hall⟩ | hn
      · exact Or.inr (nxt_first nq hall)
      · exact Or.inr (nxt_new he hv k1 hn nq c2)
    · have c2 : ¬ (crs (qX W A) (qY W A) u v k < 0 ∨ (crs (qX W A) (qY W A) u v k = 0 ∧ dst (qX W A) (qY W A) u v < dst (qX W A) (qY W A) u k)) := fun w => c1 (ht.mpr w)
      by_cases hq : qX W A k = qX W A u ∧ qY W A k = qY W A u
      · exact same hq
      · rcases hn with ⟨e, hall⟩ | hn
        · exfalso
          apply c2
          obtain ⟨x1, x2⟩ := crs_u (X := qX W A) (Y := qY W A) (u := u) (v := k) (j := v) (by rw [e]; exact ⟨rfl, rfl⟩)
          have x3 := crs_anti (X := qX W A) (Y := qY W A) (u := u) (v := v) (j := k)
          have x4 : ¬ dst (qX W A) (qY W A) u k ≤ 0 := fun w => hq (dst_zero w)
          omega
        · exact Or.inr (nxt_keep hn (by omega))
  · have nk : ¬ qOk A k := fun w => hbf (hb.mpr w)
    have e0 := q0 (W := W) a1 nk
    have kp : 0 < k := by
      rcases Nat.eq_zero_or_pos k with q | q
      · exfalso
        rw [q] at nk
        exact nk ⟨a1, a1⟩
      · exact q
    rcases hn with ⟨e, hall⟩ | hn
    · exact same (by rw [e0.1, e0.2]; exact hall 0 kp)
    · refine Or.inr (nxt_keep hn ?_)
      have w := hn.2 0 kp
      have w1 : crs (qX W A) (qY W A) u v k = crs (qX W A) (qY W A) u v 0 := by
        unfold crs
        rw [e0.1, e0.2]
      have w2 : dst (qX W A) (qY W A) u k = dst (qX W A) (qY W A) u 0 := by
        unfold dst
        rw [e0.1, e0.2]
      rw [w1, w2]
      omega
/-- where the way leads is one place -/
theorem same_dir {f g p1 p2 q1 q2 : Int} (a1 : 0 ≤ p1 * q2 - p2 * q1) (b1 : 0 ≤ q1 * p2 - q2 * p1) (a2 : p1 * q2 - p2 * q1 = 0 → q1 * q1 + q2 * q2 ≤ p1 * p1 + p2 * p2) (b2 : q1 * p2 - q2 * p1 = 0 → p1 * p1 + p2 * p2 ≤ q1 * q1 + q2 * q2) (F1 : 0 < f * p1 + g * p2) (F2 : 0 < f * q1 + g * q2) : q1 = p1 ∧ q2 = p2 := by
  have e : q1 * p2 - q2 * p1 = -(p1 * q2 - p2 * q1) := by grind
  have c0 : p1 * q2 - p2 * q1 = 0 := by omega
  have h1 := a2 c0
  have h2 := b2 (by omega)
  have i0 : (p1 * q1 + p2 * q2 - (p1 * p1 + p2 * p2)) * (p1 * q1 + p2 * q2 + (p1 * p1 + p2 * p2)) = (p1 * p1 + p2 * p2) * ((q1 * q1 + q2 * q2) - (p1 * p1 + p2 * p2)) - (p1 * q2 - p2 * q1) * (p1 * q2 - p2 * q1) := by grind
  rw [c0, show q1 * q1 + q2 * q2 - (p1 * p1 + p2 * p2) = 0 by omega, Int.mul_zero, Int.mul_zero, Int.sub_self] at i0
  have i2 : (q1 - p1) * (q1 - p1) + (q2 - p2) * (q2 - p2) = (q1 * q1 + q2 * q2) + (p1 * p1 + p2 * p2) - 2 * (p1 * q1 + p2 * q2) := by grind
  have i3 : (q1 + p1) * (q1 + p1) + (q2 + p2) * (q2 + p2) = (q1 * q1 + q2 * q2) + (p1 * p1 + p2 * p2) + 2 * (p1 * q1 + p2 * q2) := by grind
  have s1 := sq_nn (q1 - p1)
  have s2 := sq_nn (q2 - p2)
  have s3 := sq_nn (q1 + p1)
  have s4 := sq_nn (q2 + p2)
  rcases Int.mul_eq_zero.mp i0 with z | z
  · have t1 := sq_zero (a := q1 - p1) (by omega)
    have t2 := sq_zero (a := q2 - p2) (by omega)
    omega
  · have t1 := sq_zero (a := q1 + p1) (by omega)
    have t2 := sq_zero (a := q2 + p2) (by omega)
    have u1 : q1 = -p1 := by omega
    have u2 : q2 = -p2 := by omega
    rw [u1, u2] at F2
    have u3 : f * -p1 + g * -p2 = -(f * p1 + g * p2) := by grind
    omega
theorem nxt_one {X Y X' Y' : Nat → Int} {n n' u v u' v' : Nat} (t1 : ∀ j, j < n → ∃ i, i < n' ∧ X' i = X j ∧ Y' i = Y j) (t2 : ∀ i, i < n' → ∃ j, j < n ∧ X j = X' i ∧ Y j = Y' i) (eu : X' u' = X u ∧ Y' u' = Y u) (he : ext X Y n u) (hv : v < n) (hv' : v' < n') (h : nxt X Y n u v) (h' : nxt X' Y' n' u' v') : X' v' = X v ∧ Y' v' = Y v := by
  obtain ⟨w, hw, ew⟩ := t2 v' hv'
  obtain ⟨i, hi, ei⟩ := t1 v hv
  obtain ⟨a1, a2⟩ := h.2 w hw
  obtain ⟨b1, b2⟩ := h'.2 i hi
  have n2 := h'.1
  unfold crs at a1 b1
  unfold crs dst at a2 b2
  rw [ew.1, ew.2] at a1 a2
  rw [ei.1, ei.2, eu.1, eu.2] at b1 b2
  rw [eu.1, eu.2] at n2
  obtain ⟨f, g, hf⟩ := he
  have F1 := (hf v hv).resolve_left h.1
  have F2 := (hf w hw).resolve_left (by rw [ew.1, ew.2]; exact n2)
  rw [ew.1, ew.2] at F2
  have := same_dir a1 b1 a2 b2 F1 F2
  omega
theorem ext_tr {X Y X' Y' : Nat → Int} {n n' u u' : Nat} (t2 : ∀ i, i < n' → ∃ j, j < n ∧ X j = X' i ∧ Y j = Y' i) (eu : X' u' = X u ∧ Y' u' = Y u) (he : ext X Y n u) : ext X' Y' n' u' := by
  obtain ⟨f, g, hf⟩ := he
  refine ⟨f, g, fun i hi => ?_⟩
  obtain ⟨j, hj, e1, e2⟩ := t2 i hi
  have := hf j hj
  rw [eu.1, eu.2, ← e1, ← e2]
  exact this
theorem lst_one {X Y X' Y' : Nat → Int} {n n' u u' : Nat} (t1 : ∀ j, j < n → ∃ i, i < n' ∧ X' i = X j ∧ Y' i = Y j) (t2 : ∀ i, i < n' → ∃ j, j < n ∧ X j = X' i ∧ Y j = Y' i) (hu : u < n) (hu' : u' < n') (h : lstP X Y n u) (h' : lstP X' Y' n' u') : X' u' = X u ∧ Y' u' = Y u := by
  obtain ⟨w, hw, ew⟩ := t2 u' hu'
  obtain ⟨i, hi, ei⟩ := t1 u hu
  have a := h w hw
  have b := h' i hi
  omega
theorem body_step {X Y X' Y' : Nat → Int} {n n' c k u v : Nat} {g : Nat → Nat} (t1 : ∀ j, j < n → ∃ i, i < n' ∧ X' i = X j ∧ Y' i = Y j) (t2 : ∀ i, i < n' → ∃ j, j < n ∧ X j = X' i ∧ Y j = Y' i) (hb : bodyS X Y n c g) (hk : k < c) (eu : X' u = X (g k) ∧ Y' u = Y (g k)) (hv : v < n') (h : (v = u ∧ ∀ j, j < n' → X' j = X' u ∧ Y' j = Y' u) ∨ nxt X' Y' n' u v) : (k + 1 < c → X' v = X (g (k + 1)) ∧ Y' v = Y (g (k + 1))) ∧ (k + 1 = c → X' v = X (g 0) ∧ Y' v = Y (g 0)) := by
  obtain ⟨c1, c9, hl, ⟨-, gi, gn, ga⟩, cl⟩ := hb
  have gk := gi k (by omega)
  have all : (∀ j, j < n' → X' j = X' u ∧ Y' j = Y' u) → ∀ j, j < n → X j = X' u ∧ Y j = Y' u := fun q j hj => by
    obtain ⟨i, hi, e1, e2⟩ := t1 j hj
    have := q i hi
    omega
  refine ⟨fun hk1 => ?_, fun hk1 => ?_⟩
  · have nk := gn k (by omega)
    have gk1 := gi (k + 1) (by omega)
    rcases h with ⟨-, q⟩ | h
    · exfalso
      have a1 := all q (g (k + 1)) gk1.1
      exact nk.1 ⟨by omega, by omega⟩
    · exact nxt_one t1 t2 eu gk.2 gk1.1 hv nk h
  · rcases h with ⟨e, q⟩ | h
    · have a1 := all q (g 0) (gi 0 (by omega)).1
      rw [e]
      exact ⟨a1.1.symm, a1.2.symm⟩
    · have ck : c - 1 = k := by omega
      rw [ck] at cl
      rcases cl with q | ⟨w, hw, nw, e1, e2⟩
      · exfalso
        obtain ⟨j, hj, e1, e2⟩ := t2 v hv
        have := q j hj
        exact h.1 ⟨by omega, by omega⟩
      · have := nxt_one t1 t2 eu gk.2 hw hv nw h
        exact ⟨this.1.trans e1, this.2.trans e2⟩
theorem relB.of {M N : Mem} (h : relB M) (h0 : N.1 1 0 = M.1 1 0) (h9 : N.1 95 = M.1 95) (h3 : N.2 3 = M.2 3) : relB N := by
  unfold relB
  rw [h0, h9, h3]
  exact h
/-- the class's memory beside another: what the points rest on -/
def samB (M N : Mem) : Prop := N.1 1 0 = M.1 1 0 ∧ N.1 95 = M.1 95 ∧ N.2 3 = M.2 3
def fcP (M : Mem) (A c : Nat) (g : Nat → Nat) (k : Nat) (N : Mem) : Prop := samB M N ∧ N.1 68 5 = iI (k : Int) ∧ ∀ i, i < k → N.2 74 i = lI (pX (M.1 95) A (g i)) ∧ N.2 76 i = lI (pY (M.1 95) A (g i))
theorem C_findCornersV {A c : Nat} {g : Nat → Nat} {M : Mem} (hr : relB M) (f0 : M.1 1 0 = iI (A : Int)) (h : brOK (M.1 95)) (a1 : 0 < A) (a3 : A ≤ 3) (hb : bodyS (pX (M.1 95) A) (pY (M.1 95) A) (A * A) c g) : wpO (F_Day_findCorners M) (fun N => fcP M A c g c N) := by
  have l9 : (9 : Int32) = iI 9 := rfl
  have t1 : ∀ j, j < A * A → ∃ i, i < 9 ∧ qX (M.1 95) A i = pX (M.1 95) A j ∧ qY (M.1 95) A i = pY (M.1 95) A j := fun j hj => by
    obtain ⟨i, hi, -, e⟩ := p_q (W := M.1 95) a3 hj
    exact ⟨i, hi, e⟩
  have t2 : ∀ i, i < 9 → ∃ j, j < A * A ∧ pX (M.1 95) A j = qX (M.1 95) A i ∧ pY (M.1 95) A j = qY (M.1 95) A i := fun i _ => q_p a1 i
  have hw := qW h a1 a3
  unfold F_Day_findCorners
  refine wp_bind (C_firstCorner (A := A) hr rfl f0 h a1 a3) (fun r hr0 => ?_)
  obtain ⟨a, rfl, ha, oka, hla⟩ := hr0
  have c1 := hb.1
  have c9 := hb.2.1
  have gi := hb.2.2.2.1.2.1
  have ea := lst_one t1 t2 (gi 0 (by omega)).1 ha hb.2.2.1 hla
  unfold F_Day_findCorners_l12
  refine wp_bind (Ψ := fun N => fcP M A c g c N) ?_ (fun r hr => wp_some hr)
  refine wp_iterS (P := fun k z => k + 1 ≤ c ∧ ∃ u : Nat, z.1 = iI (u : Int) ∧ u < 9 ∧ qOk A u ∧ (qX (M.1 95) A u = pX (M.1 95) A (g k) ∧ qY (M.1 95) A u = pY (M.1 95) A (g k)) ∧ fcP M A c g k z.2) 9 ?_ _ _ ⟨by omega, a, rfl, ha, oka, ea, ⟨mI_cell (by decide), funext fun _ => mI_cell (by decide), rfl⟩, mI_hit, fun i hi => absurd hi (Nat.not_lt_zero _)⟩ (FUEL_big (by decide))
  rintro k ⟨z1, N⟩ hk ⟨kc, u, e1, hu, oku, eu, ⟨s0, s9, s3⟩, nc, cel⟩
  dsimp only at e1 s0 s9 s3 nc cel
  subst e1
  unfold F_Day_findCorners_b12
  dsimp only
  have bu := hw u hu
  rw [C_across (hr.of s0 s9 s3) s9 hu oku, bs, nc, iI_l (by omega) (by omega), V_Row_put (by omega) (by omega) (by decide), bs]
  generalize hN3 : mSL N 74 ((k : Int)).toNat (lI (qX (M.1 95) A u)) = N3
  have kk : ((k : Int)).toNat = k := by omega
  rw [kk] at hN3
  have u0 : N3.1 1 0 = M.1 1 0 := by rw [← hN3]; exact s0
  have u9 : N3.1 95 = M.1 95 := by rw [← hN3]; exact s9
  have u3 : N3.2 3 = M.2 3 := by rw [← hN3]; exact (funext fun _ => mL_cell (by decide)).trans s3
  have uc : N3.1 68 5 = iI (k : Int) := by rw [← hN3]; exact nc
  rw [C_up (hr.of u0 u9 u3) u9 hu oku, bs, uc, iI_l (by omega) (by omega), V_Row_put (by omega) (by omega) (by decide), bs, kk]
  generalize hN5 : mSI (mSL N3 76 k (lI (qY (M.1 95) A u))) 68 5 ((mSL N3 76 k (lI (qY (M.1 95) A u))).1 68 5 + 1) = N5
  have v0 : N5.1 1 0 = M.1 1 0 := by rw [← hN5]; exact (mI_cell (by decide)).trans u0
  have v9 : N5.1 95 = M.1 95 := by rw [← hN5]; exact (funext fun _ => mI_cell (by decide)).trans u9
  have v3 : N5.2 3 = M.2 3 := by
    rw [← hN5]
    show (mSL N3 76 k (lI (qY (M.1 95) A u))).2 3 = M.2 3
    exact (funext fun _ => mL_cell (by decide)).trans u3
  have vc : N5.1 68 5 = iI ((k + 1 : Nat) : Int) := by
    rw [← hN5, mI_hit, ← iI_succ]
    exact congrArg (· + 1) uc
  have vcel : ∀ i, i < k + 1 → N5.2 74 i = lI (pX (M.1 95) A (g i)) ∧ N5.2 76 i = lI (pY (M.1 95) A (g i)) := by
    intro i hi
    rw [← hN5]
    show (mSL N3 76 k (lI (qY (M.1 95) A u))).2 74 i = _ ∧ (mSL N3 76 k (lI (qY (M.1 95) A u))).2 76 i = _
    rw [mL_cell (by decide), ← hN3]
    by_cases q : i = k
    · rw [q, mL_hit, mL_hit, eu.1, eu.2]
      exact ⟨rfl, rfl⟩
    · rw [mL_ix q, mL_ix q, mL_cell (by decide)]
      exact cel i (by omega)
  have rel5 := hr.of v0 v9 v3
  have eN : (mSL N3 76 k (lI (qY (M.1 95) A u))).1 68 5 + 1 = (mSL N3 76 k (lI (qY (M.1 95) A u))).1 68 5 + 1 := rfl
  clear eN
  have gk := gi k (by omega)
  have h5 : brOK (N5.1 95) := by rw [v9]; exact h
  refine wp_bind (C_cornerAfter (W := M.1 95) (A := A) (u := u) rel5 v9 (v0.trans f0) h a1 a3 hu oku (ext_tr t2 eu gk.2)) (fun r6 h6 => ?_)
  obtain ⟨v, rfl, hv, okv, hn⟩ := h6
  obtain ⟨w1, w2⟩ := body_step t1 t2 hb (show k < c by omega) eu hv hn
  rw [vc]
  refine wp_if (fun d => wp_some ?_) (fun d => ?_)
  · rw [l9, iI_le (by omega) (by omega) (by omega) (by omega)] at d
    have e : c = k + 1 := by omega
    rw [e]
    exact ⟨⟨v0, v9, v3⟩, vc, vcel⟩
  rw [l9, iI_le (by omega) (by omega) (by omega) (by omega)] at d
  have bv := hw v hv
  have ba := hw a ha
  rw [C_across rel5 v9 hv okv, bs, C_across rel5 v9 ha oka, bs, C_up rel5 v9 hv okv, bs, C_up rel5 v9 ha oka, bs]
  have stop : (qX (M.1 95) A v = qX (M.1 95) A a ∧ qY (M.1 95) A v = qY (M.1 95) A a) → fcP M A c g c N5 := by
    intro q
    have e : c = k + 1 := by
      rcases Nat.lt_or_ge (k + 1) c with p | p
      · exfalso
        have x := w1 p
        exact hb.2.2.2.1.2.2.2 (k + 1) (by omega) (by omega) ⟨by omega, by omega⟩
      · omega
    rw [e]
    exact ⟨⟨v0, v9, v3⟩, vc, vcel⟩
  have more : ¬ (qX (M.1 95) A v = qX (M.1 95) A a ∧ qY (M.1 95) A v = qY (M.1 95) A a) → wpO (some (Sum.inl (iI (v : Int), N5)) : Option ((Int32 × Mem) ⊕ Mem)) (sumP (fun s' => k < 9 ∧ (k + 1 + 1 ≤ c ∧ ∃ u : Nat, s'.1 = iI (u : Int) ∧ u < 9 ∧ qOk A u ∧ (qX (M.1 95) A u = pX (M.1 95) A (g (k + 1)) ∧ qY (M.1 95) A u = pY (M.1 95) A (g (k + 1))) ∧ fcP M A c g (k + 1) s'.2)) (fun N => fcP M A c g c N)) := by
    intro q
    have p : k + 1 < c := by
      rcases Nat.lt_or_ge (k + 1) c with p | p
      · exact p
      · exfalso
        have x := w2 (by omega)
        exact q ⟨by omega, by omega⟩
    exact wp_some ⟨by omega, by omega, v, rfl, hv, okv, w1 p, ⟨v0, v9, v3⟩, vc, vcel⟩
  refine wp_if (fun d1 => ?_) (fun d1 => more (fun q => d1 (by rw [q.1])))
  rw [iI_eq (by omega) (by omega) (by omega) (by omega)] at d1
  refine wp_if (fun d2 => wp_some (stop ⟨d1, ?_⟩)) (fun d2 => more (fun q => d2 (by rw [q.2])))
  rw [iI_eq (by omega) (by omega) (by omega) (by omega)] at d2
  exact d2
def cornV (W : Nat → Int32) (A c : Nat) (g : Nat → Nat) (x y : Int32) : Int32 := if 0 ≤ x ∧ x < iI (c : Int) then (if y = 0 then iI (pX W A (g x.toInt.toNat)) else iI (pY W A (g x.toInt.toNat))) else 1000
theorem C_cornerV {A c : Nat} {g : Nat → Nat} {x y : Int32} {M : Mem} (hr : relB M) (f0 : M.1 1 0 = iI (A : Int)) (h : brOK (M.1 95)) (a1 : 0 < A) (a3 : A ≤ 3) (hb : bodyS (pX (M.1 95) A) (pY (M.1 95) A) (A * A) c g) : wpO (F_KW_corner x y M) (fun r => r.1 = cornV (M.1 95) A c g x y) := by
  have c9 := hb.2.1
  unfold F_KW_corner
  refine wp_bind (C_findCornersV hr f0 h a1 a3 hb) (fun N hN => ?_)
  obtain ⟨-, nc, cel⟩ := hN
  rw [nc]
  refine wp_if (fun q => wp_some ?_) (fun q => wp_if (fun q2 => ?_) (fun q2 => wp_some ?_))
  · unfold cornV
    rw [if_neg (fun w => absurd q (n32.mpr w.1))]
  · have q1 := n32.mp q
    have q4 := q2
    rw [lt_i, iI_toInt (z := (c : Int)) (by omega) (by omega)] at q4
    obtain ⟨k, rfl, hk⟩ := iI_of_le (n := (c : Int) - 1) q1 (by omega)
    have ek : (iI (k : Int)).toInt.toNat = k := by rw [iI_toInt (by omega) (by omega)]; omega
    obtain ⟨e1, e2⟩ := cel k (by omega)
    have kk : ((k : Int)).toNat = k := by omega
    refine wp_if (fun q3 => ?_) (fun q3 => ?_)
    · rw [V_Row_small (by omega) (by omega) (by decide), bs, kk, e1, lI_i]
      refine wp_some ?_
      unfold cornV
      rw [if_pos ⟨q1, q2⟩, if_pos q3, ek]
    · rw [V_Row_small (by omega) (by omega) (by decide), bs, kk, e2, lI_i]
      refine wp_some ?_
      unfold cornV
      rw [if_pos ⟨q1, q2⟩, if_neg q3, ek]
  · unfold cornV
    rw [if_neg (fun w => q2 w.2)]
theorem N_cornerV {A : Nat} {x y : Int32} {M : Mem} (h : RIW (M.1 95)) (hA : M.1 95 0 = iI (A : Int)) (a2 : 2 ≤ A) (a3 : A ≤ 3) : wpO (F_MO_corner x y M) (fun r => ∃ (c : Nat) (g : Nat → Nat), bodyS (pX (M.1 95) A) (pY (M.1 95) A) (A * A) c g ∧ r.1 = cornV (M.1 95) A c g x y) := by
  have h0 : RIW ((mSI M 94 0 0).1 95) := h
  have hA0 : (mSI M 94 0 0).1 95 0 = iI (A : Int) := hA
  show wpO (F_MO_corner x y M) (fun r => ∃ (c : Nat) (g : Nat → Nat), bodyS (pX ((mSI M 94 0 0).1 95) A) (pY ((mSI M 94 0 0).1 95) A) (A * A) c g ∧ r.1 = cornV ((mSI M 94 0 0).1 95) A c g x y)
  unfold F_MO_corner
  generalize mSI M 94 0 0 = N at *
  refine wp_bind (N_bodyV h0 hA0 a2 a3) (fun P hP => ?_)
  obtain ⟨-, c, g, hc, hb, cel⟩ := hP
  have c1 := hb.1
  have c9 := hb.2.1
  rw [hc]
  have z : (0 : Int32) ≤ iI (c : Int) := by rw [le_i, li0, iI_toInt (by omega) (by omega)]; omega
  refine wp_within (fun q1 q2 => wp_tt ?_) (fun q => wp_ff (wp_some ⟨c, g, hb, ?_⟩))
  · have q2' := (le_pred z).mp q2
    have q3 := q2'
    rw [lt_i, iI_toInt (by omega) (by omega)] at q3
    obtain ⟨k, rfl, hk⟩ := iI_of_le (n := (c : Int) - 1) q1 (by omega)
    have i : inb (iI (k : Int)) 10 := inb_iI (by omega) (by omega) (by omega)
    have ek : (iI (k : Int)).toInt.toNat = k := by rw [iI_toInt (by omega) (by omega)]; omega
    obtain ⟨e1, e2⟩ := cel k (by omega)
    refine wp_if (fun d => wp_t i (wp_some ⟨c, g, hb, ?_⟩)) (fun d => wp_t i (wp_some ⟨c, g, hb, ?_⟩))
    · unfold cornV
      rw [if_pos ⟨q1, q2'⟩, if_pos d, ek, clN (by omega)]
      exact e1
    · unfold cornV
      rw [if_pos ⟨q1, q2'⟩, if_neg d, ek, clN (by omega)]
      exact e2
  · unfold cornV
    rw [if_neg (fun w => q ⟨w.1, (le_pred z).mpr w.2⟩)]
theorem V_corner {x y : Int32} {M : Mem} (h : RS M) : wpO (F_KW_corner x y M) (fun r1 => wpO (F_MO_corner x y r1.2) (fun r2 => RS r2.2 ∧ r1.1 = r2.1)) := by
  obtain ⟨r1, e1, r2, e2, rs⟩ := G_corner (x1 := x) (x2 := y) h
  refine ⟨r1, e1, r2, e2, rs, ?_⟩
  obtain ⟨A, hA, a2, a3⟩ := h.1.1.actN
  have t := wpO_of (T_KW_corner x y M) e1
  have w : r1.2.1 95 = M.1 95 := funext (t 95 (by omega)).1
  have n := wpO_of (N_cornerV (x := x) (y := y) (M := r1.2) (by rw [w]; exact h.1.1) (by rw [w]; exact hA) a2 a3) e2
  rw [w] at n
  obtain ⟨c, g, hb, en⟩ := n
  have hr := h.2.1.1.relB
  have cc := wpO_of (C_cornerV (x := x) (y := y) hr (hr.1.trans hA) h.1.1.br (by omega) a3 hb) e1
  exact cc.trans en.symm
