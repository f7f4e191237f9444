/-! ===== lots: the reference's balance, by its value ===== -/
theorem N_tellsS {a b e : Int} (he : e = 1 ∨ e = -1) (a1 : -9223372036854775808 < a) (a2 : a < 9223372036854775808) (hb : 0 < e * b) (b1 : -9223372036854775808 < b) (b2 : b < 9223372036854775808) (M : Mem) : F_MO_tells (lI a) (lI b) M = some (mSL (mSL M 94 15 (lI (rU (e * a) (e * b)))) 94 16 (lI (rD (e * a) (e * b)))) := by
  rcases he with rfl | rfl
  · rw [Int.one_mul] at hb
    rw [Int.one_mul, Int.one_mul]
    exact N_tells a1 a2 hb b2 M
  · have hn : b < 0 := by omega
    have l0 : (0 : Int64) = lI 0 := rfl
    have l1 : (-1 : Int64) = lI (-1) := by decide
    have hg : 0 < Int.gcd a b := Int.gcd_pos_of_ne_zero_right a (by omega)
    have gle : Int.gcd a b ≤ b.natAbs := Nat.le_of_dvd (by omega) (Int.gcd_dvd_natAbs_right a b)
    unfold F_MO_tells
    rw [if_neg (by rw [l0, lI_le] <;> omega)]
    unfold F_MO_tells_j13
    rw [N_common a1 a2 (by omega) b2, bs]
    have e : lI (Int.gcd a b : Int) * (-1) = lI (-(Int.gcd a b : Int)) := by
      rw [l1, lI_mul]
      congr 1
      omega
    have hne : ¬ lI (-(Int.gcd a b : Int)) = 0 := by rw [l0, lI_eq] <;> omega
    rw [e, if_pos hne, if_pos hne, ldiv_lI (by omega) (by omega) (by omega) (by omega), ldiv_lI (by omega) (by omega) (by omega) (by omega), Int.tdiv_neg, Int.tdiv_neg, Int.tdiv_eq_ediv_of_dvd (Int.gcd_dvd_left a b), Int.tdiv_eq_ediv_of_dvd (Int.gcd_dvd_right a b)]
    have u : rU (-1 * a) (-1 * b) = -(a / (Int.gcd a b : Int)) := by
      unfold rU
      rw [show -1 * a = -a by omega, show -1 * b = -b by omega, Int.neg_gcd, Int.gcd_neg, Int.neg_ediv_of_dvd (Int.gcd_dvd_left a b)]
    have d : rD (-1 * a) (-1 * b) = -(b / (Int.gcd a b : Int)) := by
      unfold rD
      rw [show -1 * a = -a by omega, show -1 * b = -b by omega, Int.neg_gcd, Int.gcd_neg, Int.neg_ediv_of_dvd (Int.gcd_dvd_right a b)]
    rw [u, d]
/-- the entries of the determinant with a row or a column of ones -/
def lG (g : Nat → Nat → Int) (s t k : Nat) (own : Bool) (c : Nat) : Int := if (if own = true then c / 4 else c % 4) = k then 1 else g (btA s (c / 4)) (btA t (c % 4))
theorem lG_e {g : Nat → Nat → Int} {s t k : Nat} {own : Bool} {i j : Nat} (hj : j < 4) : lG g s t k own (4 * i + j) = if (if own = true then i else j) = k then 1 else g (btA s i) (btA t j) := by
  unfold lG
  rw [show (4 * i + j) / 4 = i by omega, show (4 * i + j) % 4 = j by omega]
def lF (g : Nat → Nat → Int) (s t : Nat) (own : Bool) (k : Nat) : Int := detF (lG g s t k own) (nrow s)
def lA (s : Nat) (f : Nat → Int) : Nat → Nat → Int
  | 0 => fun _ => 0
  | k + 1 => fun t => if t = btA s k then f k else lA s f k t
theorem lA_s (s : Nat) (f : Nat → Int) (k : Nat) : lA s f (k + 1) = fun t => if t = btA s k then f k else lA s f k t := rfl
def lX (g : Nat → Nat → Int) (s t : Nat) : Nat → Int := lA s (lF g s t true) (nrow s)
def lY (g : Nat → Nat → Int) (s t : Nat) : Nat → Int := lA t (lF g s t false) (nrow s)
def lV (g : Nat → Nat → Int) (s t : Nat) : Int := lF g s t true 9
def lS (f : Nat → Int) : Nat → Int
  | 0 => 0
  | k + 1 => lS f k + f k
theorem btT : ∀ A, A < 4 → ∀ s, s < 2 ^ A → ∀ k, k < 3 → k < nrow s → btA s k < A := by decide +kernel
theorem btU : ∀ s, s < 8 → (1 < nrow s → btA s 0 < btA s 1) ∧ (nrow s = 3 → s = 7) := by decide +kernel
theorem bt1 : ∀ i, i < 3 → nrow (2 ^ i) = 1 ∧ btA (2 ^ i) 0 = i := by decide +kernel
theorem bt2 : ∀ i, i < 3 → ∀ j, j < 3 → i < j → nrow (2 ^ i + 2 ^ j) = 2 ∧ btA (2 ^ i + 2 ^ j) 0 = i ∧ btA (2 ^ i + 2 ^ j) 1 = j := by decide +kernel
theorem bt3 : nrow 7 = 3 ∧ btA 7 0 = 0 ∧ btA 7 1 = 1 ∧ btA 7 2 = 2 := by decide +kernel
theorem btp : ∀ A, A < 4 → ∀ i, i < A → 2 ^ i < 2 ^ A ∧ 0 < 2 ^ i ∧ ∀ j, j < A → i < j → 2 ^ i + 2 ^ j < 2 ^ A := by decide +kernel
theorem lAll {s : Nat} {f : Nat → Int} (hs : s < 8) (h0 : 0 < s) : l3 (lA s f (nrow s)) = lS f (nrow s) := by
  obtain ⟨-, n2, n3⟩ := nrtab s hs
  have n4 := n3 h0
  obtain ⟨u1, u2⟩ := btU s hs
  have b := btT 3 (by decide) s hs
  have c : nrow s = 1 ∨ nrow s = 2 ∨ nrow s = 3 := by omega
  rcases c with c | c | c
  · have b0 := b 0 (by decide) (by omega)
    rw [c]
    show l3 (fun t => if t = btA s 0 then f 0 else 0) = 0 + f 0
    rw [l3_e]
    rcases m3c b0 with q | q | q <;> rw [q] <;> simp
  · have b0 := b 0 (by decide) (by omega)
    have b1 := b 1 (by decide) (by omega)
    have := u1 (by omega)
    rw [c]
    show l3 (fun t => if t = btA s 1 then f 1 else if t = btA s 0 then f 0 else 0) = 0 + f 0 + f 1
    rw [l3_two b0 b1 (by omega)]
    omega
  · have := u2 c
    subst this
    obtain ⟨-, q0, q1, q2⟩ := bt3
    rw [c]
    show l3 (fun t => if t = btA 7 2 then f 2 else if t = btA 7 1 then f 1 else if t = btA 7 0 then f 0 else 0) = 0 + f 0 + f 1 + f 2
    rw [q0, q1, q2, l3_e]
    simp
theorem lAat {s : Nat} {f : Nat → Int} {n : Nat} (k : Nat) (hk : k < n) (inj : ∀ a b, a < n → b < n → btA s a = btA s b → a = b) : ∀ m, k < m → m ≤ n → lA s f m (btA s k) = f k
  | 0, h, _ => absurd h (Nat.not_lt_zero _)
  | m + 1, h, h2 => by
    rw [lA_s]
    dsimp only
    by_cases q : btA s k = btA s m
    · rw [if_pos q, inj k m hk (by omega) q]
    · rw [if_neg q]
      exact lAat k hk inj m (by
        rcases Nat.lt_or_ge k m with c | c
        · exact c
        · exact absurd (by rw [show k = m by omega]) q) (by omega)
theorem lX1 {g : Nat → Nat → Int} {s t : Nat} (h : nrow s = 1) : lX g s t = x1F (btA s 0) ∧ lY g s t = x1F (btA t 0) ∧ lV g s t = g (btA s 0) (btA t 0) := by
  refine ⟨?_, ?_, ?_⟩
  · unfold lX
    rw [h]
    show (fun k => if k = btA s 0 then lF g s t true 0 else 0) = _
    unfold lF
    rw [h, det1]
    rfl
  · unfold lY
    rw [h]
    show (fun k => if k = btA t 0 then lF g s t false 0 else 0) = _
    unfold lF
    rw [h, det1]
    rfl
  · unfold lV lF
    rw [h, det1]
    rfl
theorem lX2 {g : Nat → Nat → Int} {s t : Nat} (h : nrow s = 2) : lX g s t = x2F g (btA s 0) (btA s 1) (btA t 0) (btA t 1) ∧ lY g s t = y2F g (btA s 0) (btA s 1) (btA t 0) (btA t 1) ∧ lV g s t = v2F g (btA s 0) (btA s 1) (btA t 0) (btA t 1) := by
  refine ⟨?_, ?_, ?_⟩
  · unfold lX
    rw [h]
    show (fun k => if k = btA s 1 then lF g s t true 1 else if k = btA s 0 then lF g s t true 0 else 0) = _
    unfold lF
    rw [h, det2, det2]
    show (fun k => if k = btA s 1 then g (btA s 0) (btA t 0) * 1 - g (btA s 0) (btA t 1) * 1 else if k = btA s 0 then 1 * g (btA s 1) (btA t 1) - 1 * g (btA s 1) (btA t 0) else 0) = _
    rw [Int.mul_one, Int.mul_one, Int.one_mul, Int.one_mul]
    rfl
  · unfold lY
    rw [h]
    show (fun k => if k = btA t 1 then lF g s t false 1 else if k = btA t 0 then lF g s t false 0 else 0) = _
    unfold lF
    rw [h, det2, det2]
    show (fun k => if k = btA t 1 then g (btA s 0) (btA t 0) * 1 - 1 * g (btA s 1) (btA t 0) else if k = btA t 0 then 1 * g (btA s 1) (btA t 1) - g (btA s 0) (btA t 1) * 1 else 0) = _
    rw [Int.mul_one, Int.mul_one, Int.one_mul, Int.one_mul]
    rfl
  · unfold lV lF
    rw [h, det2]
    rfl
theorem lX3 {g : Nat → Nat → Int} : lX g 7 7 = x3F g ∧ lY g 7 7 = y3F g ∧ lV g 7 7 = v3F g := by
  obtain ⟨h, q0, q1, q2⟩ := bt3
  have f0 : lF g 7 7 true 0 = x3F g 0 := by
    unfold lF
    rw [h, det3]
    show 1 * (g (btA 7 1) (btA 7 1) * g (btA 7 2) (btA 7 2) - g (btA 7 1) (btA 7 2) * g (btA 7 2) (btA 7 1)) - 1 * (g (btA 7 1) (btA 7 0) * g (btA 7 2) (btA 7 2) - g (btA 7 1) (btA 7 2) * g (btA 7 2) (btA 7 0)) + 1 * (g (btA 7 1) (btA 7 0) * g (btA 7 2) (btA 7 1) - g (btA 7 1) (btA 7 1) * g (btA 7 2) (btA 7 0)) = _
    rw [q0, q1, q2]
    show _ = (g 1 1 * g 2 2 - g 1 2 * g 2 1) - (g 1 0 * g 2 2 - g 1 2 * g 2 0) + (g 1 0 * g 2 1 - g 1 1 * g 2 0)
    grind
  have f1 : lF g 7 7 true 1 = x3F g 1 := by
    unfold lF
    rw [h, det3]
    show g (btA 7 0) (btA 7 0) * (1 * g (btA 7 2) (btA 7 2) - 1 * g (btA 7 2) (btA 7 1)) - g (btA 7 0) (btA 7 1) * (1 * g (btA 7 2) (btA 7 2) - 1 * g (btA 7 2) (btA 7 0)) + g (btA 7 0) (btA 7 2) * (1 * g (btA 7 2) (btA 7 1) - 1 * g (btA 7 2) (btA 7 0)) = _
    rw [q0, q1, q2]
    show _ = g 0 0 * (g 2 2 - g 2 1) - g 0 1 * (g 2 2 - g 2 0) + g 0 2 * (g 2 1 - g 2 0)
    grind
  have f2 : lF g 7 7 true 2 = x3F g 2 := by
    unfold lF
    rw [h, det3]
    show g (btA 7 0) (btA 7 0) * (g (btA 7 1) (btA 7 1) * 1 - g (btA 7 1) (btA 7 2) * 1) - g (btA 7 0) (btA 7 1) * (g (btA 7 1) (btA 7 0) * 1 - g (btA 7 1) (btA 7 2) * 1) + g (btA 7 0) (btA 7 2) * (g (btA 7 1) (btA 7 0) * 1 - g (btA 7 1) (btA 7 1) * 1) = _
    rw [q0, q1, q2]
    show _ = (g 0 0 * g 1 1 - g 0 1 * g 1 0) - (g 0 0 * g 1 2 - g 0 2 * g 1 0) + (g 0 1 * g 1 2 - g 0 2 * g 1 1)
    grind
  have o0 : lF g 7 7 false 0 = y3F g 0 := by
    unfold lF
    rw [h, det3]
    show 1 * (g (btA 7 1) (btA 7 1) * g (btA 7 2) (btA 7 2) - g (btA 7 1) (btA 7 2) * g (btA 7 2) (btA 7 1)) - g (btA 7 0) (btA 7 1) * (1 * g (btA 7 2) (btA 7 2) - g (btA 7 1) (btA 7 2) * 1) + g (btA 7 0) (btA 7 2) * (1 * g (btA 7 2) (btA 7 1) - g (btA 7 1) (btA 7 1) * 1) = _
    rw [q0, q1, q2]
    show _ = (g 1 1 * g 2 2 - g 1 2 * g 2 1) - (g 0 1 * g 2 2 - g 0 2 * g 2 1) + (g 0 1 * g 1 2 - g 0 2 * g 1 1)
    grind
  have o1 : lF g 7 7 false 1 = y3F g 1 := by
    unfold lF
    rw [h, det3]
    show g (btA 7 0) (btA 7 0) * (1 * g (btA 7 2) (btA 7 2) - g (btA 7 1) (btA 7 2) * 1) - 1 * (g (btA 7 1) (btA 7 0) * g (btA 7 2) (btA 7 2) - g (btA 7 1) (btA 7 2) * g (btA 7 2) (btA 7 0)) + g (btA 7 0) (btA 7 2) * (g (btA 7 1) (btA 7 0) * 1 - 1 * g (btA 7 2) (btA 7 0)) = _
    rw [q0, q1, q2]
    show _ = g 0 0 * (g 2 2 - g 1 2) - g 1 0 * (g 2 2 - g 0 2) + g 2 0 * (g 1 2 - g 0 2)
    grind
  have o2 : lF g 7 7 false 2 = y3F g 2 := by
    unfold lF
    rw [h, det3]
    show g (btA 7 0) (btA 7 0) * (g (btA 7 1) (btA 7 1) * 1 - 1 * g (btA 7 2) (btA 7 1)) - g (btA 7 0) (btA 7 1) * (g (btA 7 1) (btA 7 0) * 1 - 1 * g (btA 7 2) (btA 7 0)) + 1 * (g (btA 7 1) (btA 7 0) * g (btA 7 2) (btA 7 1) - g (btA 7 1) (btA 7 1) * g (btA 7 2) (btA 7 0)) = _
    rw [q0, q1, q2]
    show _ = (g 0 0 * g 1 1 - g 0 1 * g 1 0) - (g 0 0 * g 2 1 - g 0 1 * g 2 0) + (g 1 0 * g 2 1 - g 1 1 * g 2 0)
    grind
  refine ⟨?_, ?_, ?_⟩
  · unfold lX
    rw [h]
    show (fun k => if k = btA 7 2 then lF g 7 7 true 2 else if k = btA 7 1 then lF g 7 7 true 1 else if k = btA 7 0 then lF g 7 7 true 0 else 0) = _
    rw [f0, f1, f2, q0, q1, q2]
    rfl
  · unfold lY
    rw [h]
    show (fun k => if k = btA 7 2 then lF g 7 7 false 2 else if k = btA 7 1 then lF g 7 7 false 1 else if k = btA 7 0 then lF g 7 7 false 0 else 0) = _
    rw [o0, o1, o2, q0, q1, q2]
    rfl
  · unfold lV lF
    rw [h, det3]
    show g (btA 7 0) (btA 7 0) * (g (btA 7 1) (btA 7 1) * g (btA 7 2) (btA 7 2) - g (btA 7 1) (btA 7 2) * g (btA 7 2) (btA 7 1)) - g (btA 7 0) (btA 7 1) * (g (btA 7 1) (btA 7 0) * g (btA 7 2) (btA 7 2) - g (btA 7 1) (btA 7 2) * g (btA 7 2) (btA 7 0)) + g (btA 7 0) (btA 7 2) * (g (btA 7 1) (btA 7 0) * g (btA 7 2) (btA 7 1) - g (btA 7 1) (btA 7 1) * g (btA 7 2) (btA 7 0)) = _
    rw [q0, q1, q2]
    rfl
/-- the reference's pairs of sets are the ways -/
theorem lST {A s t : Nat} {g : Nat → Nat → Int} (a3 : A ≤ 3) (hs : s < 2 ^ A) (ht : t < 2 ^ A) (h0 : 0 < s) (he : nrow s = nrow t) : lWay A g (lX g s t) (lY g s t) (lV g s t) := by
  have t8 : 2 ^ A ≤ 8 := Nat.pow_le_pow_right (n := 2) (by decide) a3
  obtain ⟨-, n2, n3⟩ := nrtab s (by omega)
  have n4 := n3 h0
  have c : nrow s = 1 ∨ nrow s = 2 ∨ nrow s = 3 := by omega
  have b := btT A (by omega)
  rcases c with c | c | c
  · obtain ⟨e1, e2, e3⟩ := lX1 (g := g) (t := t) c
    rw [e1, e2, e3]
    exact Or.inl ⟨_, _, b s hs 0 (by decide) (by omega), b t ht 0 (by decide) (by omega), rfl, rfl, rfl⟩
  · obtain ⟨e1, e2, e3⟩ := lX2 (g := g) (t := t) c
    rw [e1, e2, e3]
    exact Or.inr (Or.inl ⟨_, _, _, _, (btU s (by omega)).1 (by omega), b s hs 1 (by decide) (by omega), (btU t (by omega)).1 (by omega), b t ht 1 (by decide) (by omega), rfl, rfl, rfl⟩)
  · have s7 := (btU s (by omega)).2 c
    have t7 := (btU t (by omega)).2 (by omega)
    subst s7
    subst t7
    obtain ⟨e1, e2, e3⟩ := lX3 (g := g)
    rw [e1, e2, e3]
    have b2 := b 7 hs 2 (by decide) (by omega)
    obtain ⟨-, -, -, q2⟩ := bt3
    rw [q2] at b2
    exact Or.inr (Or.inr ⟨by omega, rfl, rfl, rfl⟩)
theorem lTS {A : Nat} {g : Nat → Nat → Int} {X Y : Nat → Int} {v : Int} (a3 : A ≤ 3) (h : lWay A g X Y v) : ∃ s t, 0 < s ∧ 0 < t ∧ s < 2 ^ A ∧ t < 2 ^ A ∧ nrow s = nrow t ∧ X = lX g s t ∧ Y = lY g s t ∧ v = lV g s t := by
  rcases h with ⟨i, m, hi, hm, rfl, rfl, rfl⟩ | ⟨i, j, m, l, hij, hj, hml, hl, rfl, rfl, rfl⟩ | ⟨rfl, rfl, rfl, rfl⟩
  · obtain ⟨p1, p2, -⟩ := btp A (by omega) i hi
    obtain ⟨p3, p4, -⟩ := btp A (by omega) m hm
    obtain ⟨b1, b2⟩ := bt1 i (by omega)
    obtain ⟨b3, b4⟩ := bt1 m (by omega)
    obtain ⟨e1, e2, e3⟩ := lX1 (g := g) (t := 2 ^ m) b1
    rw [b2, b4] at e3
    rw [b2] at e1
    rw [b4] at e2
    exact ⟨2 ^ i, 2 ^ m, p2, p4, p1, p3, by omega, e1.symm, e2.symm, e3.symm⟩
  · obtain ⟨-, p2, p1⟩ := btp A (by omega) i (by omega)
    obtain ⟨-, p4, p3⟩ := btp A (by omega) m (by omega)
    obtain ⟨b1, b2, b2'⟩ := bt2 i (by omega) j (by omega) hij
    obtain ⟨b3, b4, b4'⟩ := bt2 m (by omega) l (by omega) hml
    obtain ⟨e1, e2, e3⟩ := lX2 (g := g) (t := 2 ^ m + 2 ^ l) b1
    rw [b2, b4, b2', b4'] at e1 e2 e3
    exact ⟨2 ^ i + 2 ^ j, 2 ^ m + 2 ^ l, Nat.add_pos_left p2 _, Nat.add_pos_left p4 _, p1 j hj hij, p3 l hl hml, by omega, e1.symm, e2.symm, e3.symm⟩
  · obtain ⟨e1, e2, e3⟩ := lX3 (g := g)
    exact ⟨7, 7, by decide, by decide, by decide, by decide, rfl, e1.symm, e2.symm, e3.symm⟩
