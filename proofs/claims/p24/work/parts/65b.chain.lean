/-! ===== the class's chain: a place behind a known one; all places of a path ===== -/
theorem C_back {b s : Nat} {S : Nat → Prop} {nx : Nat → Nat} {g : Nat → Nat → Int} {p q d : Int} {u : Nat → Int} {M : Mem} (hc : chS S nx g p q) (hM : chI b S nx g p q M) (hS : S s) (hD : M.2 (b + 8) (nx s) = lI d) (hU : ∀ pe, pe < 2 → M.2 (b + 6) (2 * nx s + pe) = lI (u pe)) : wpO (F_Chain_walkBack b (iI (s : Int)) M) (fun N => N.2 (b + 8) s = lI (q * d) ∧ (∀ pe, pe < 2 → N.2 (b + 6) (2 * s + pe) = lI (g s pe * (q * d) + p * u pe)) ∧ ∀ k j, ¬ (k = b + 8 ∧ j = s) → ¬ (k = b + 6 ∧ (j = 2 * s ∨ j = 2 * s + 1)) → N.2 k j = M.2 k j) := by
  obtain ⟨c1, c2, p1, pq, q12⟩ := hc
  obtain ⟨m1, m2, m3, m4, m5⟩ := hM
  obtain ⟨s9, sn⟩ := c1 s hS
  have n9 := (c1 _ sn).1
  have l2 : (2 : Int32) = iI 2 := rfl
  unfold F_Chain_walkBack
  rw [V_Row_small (by omega) (by omega) (by decide), bs, show ((s : Nat) : Int).toNat = s from rfl, m1 s s9 hS, lI_i, V_Row_at (by omega) (by omega) (by decide), bs, show ((nx s : Nat) : Int).toNat = nx s from rfl, hD, m5, lI_mul, V_Row_put (by omega) (by omega) (by decide), bs, show ((s : Nat) : Int).toNat = s from rfl]
  have f1 : ∀ k j, ¬ (k = b + 8 ∧ j = s) → (mSL M (b + 8) s (lI (q * d))).2 k j = M.2 k j := fun k j h => by rw [mSL_2, if_neg h]
  have v1 : (mSL M (b + 8) s (lI (q * d))).2 (b + 8) s = lI (q * d) := mL_hit
  generalize mSL M (b + 8) s (lI (q * d)) = N0 at *
  unfold F_Chain_walkBack_l35
  refine wp_bind (Ψ := fun N => N.2 (b + 8) s = lI (q * d) ∧ (∀ pe, pe < 2 → N.2 (b + 6) (2 * s + pe) = lI (g s pe * (q * d) + p * u pe)) ∧ ∀ k j, ¬ (k = b + 8 ∧ j = s) → ¬ (k = b + 6 ∧ (j = 2 * s ∨ j = 2 * s + 1)) → N.2 k j = M.2 k j) ?_ (fun N hN => wp_some hN)
  refine wp_iterS (P := fun (k : Nat) (z : Int32 × Mem) => z.1 = iI (k : Int) ∧ k ≤ 2 ∧ z.2.2 (b + 8) s = lI (q * d) ∧ (∀ pe, pe < k → z.2.2 (b + 6) (2 * s + pe) = lI (g s pe * (q * d) + p * u pe)) ∧ (∀ pe, k ≤ pe → pe < 2 → z.2.2 (b + 6) (2 * nx s + pe) = lI (u pe)) ∧ ∀ k j, ¬ (k = b + 8 ∧ j = s) → ¬ (k = b + 6 ∧ (j = 2 * s ∨ j = 2 * s + 1)) → z.2.2 k j = M.2 k j) 2 ?_ FUEL (0, N0) ⟨rfl, by omega, v1, fun pe h => absurd h (Nat.not_lt_zero _), fun pe _ h => (f1 _ _ (by omega)).trans (hU pe h), fun k j h1 _ => f1 k j h1⟩ (FUEL_big (by decide))
  rintro k ⟨z1, N⟩ hk ⟨e1, -, n8, nv, nu, nf⟩
  dsimp only at e1 n8 nv nu nf
  subst e1
  unfold F_Chain_walkBack_b35
  dsimp only
  rw [l2]
  refine wp_if (fun c => wp_some ⟨n8, fun pe h => nv pe ?_, nf⟩) (fun c => ?_)
  · rw [iI_le (by omega) (by omega) (by omega) (by omega)] at c
    omega
  rw [iI_le (by omega) (by omega) (by omega) (by omega)] at c
  have e4 : N.2 (b + 4) (2 * s + k) = lI (g s k) := (nf _ _ (by omega) (by omega)).trans (m3 s k hS s9 (by omega))
  have e6 : N.2 b 6 = lI p := (nf _ _ (by omega) (by omega)).trans m4
  have i2' : ∀ t : Nat, iI 2 * iI (t : Int) + iI (k : Int) = iI ((2 * t + k : Nat) : Int) := fun t => ix2 t k
  rw [i2', i2', V_Row_at (by omega) (by omega) (by decide), bs, show ((2 * s + k : Nat) : Int).toNat = 2 * s + k from rfl, e4, V_Row_at (by omega) (by omega) (by decide), bs, show ((2 * nx s + k : Nat) : Int).toNat = 2 * nx s + k from rfl, nu k (Nat.le_refl _) (by omega), e6, lI_mul, lI_mul, lI_add, V_Row_put (by omega) (by omega) (by decide), bs, show ((2 * s + k : Nat) : Int).toNat = 2 * s + k from rfl]
  refine wp_some ⟨by omega, iI_succ k, by omega, ?_, fun pe h => ?_, fun pe h1 h2 => ?_, fun k' j h1 h2 => ?_⟩
  · show (mSL N (b + 6) (2 * s + k) _).2 (b + 8) s = _
    rw [mL_cell (by omega), n8]
  · show (mSL N (b + 6) (2 * s + k) _).2 (b + 6) (2 * s + pe) = _
    by_cases q1 : pe = k
    · rw [q1, mL_hit]
    · rw [mL_ix (by omega)]
      exact nv pe (by omega)
  · show (mSL N (b + 6) (2 * s + k) _).2 (b + 6) (2 * nx s + pe) = _
    rw [mL_ix (by omega)]
    exact nu pe (by omega) h2
  · show (mSL N (b + 6) (2 * s + k) _).2 k' j = _
    rw [mSL_2, if_neg (fun w => h2 ⟨w.1, by omega⟩)]
    exact nf k' j h1 h2
/-- a place's numbers in the class's rows -/
def dM (b : Nat) (M : Mem) (s : Nat) : Int := (M.2 (b + 8) s).toInt
def uM (b : Nat) (M : Mem) (s pe : Nat) : Int := (M.2 (b + 6) (2 * s + pe)).toInt
/-- a place t days ahead of a ring of n -/
def RKp (nx : Nat → Nat) (s t n : Nat) : Prop := 1 ≤ n ∧ itN nx s (t + n) = itN nx s t ∧ ∀ i j, i < t + n → j < t + n → itN nx s i = itN nx s j → i = j
/-- a place whose worths are known -/
def slv (b : Nat) (S : Nat → Prop) (nx : Nat → Nat) (g : Nat → Nat → Int) (p q : Int) (M : Mem) (s : Nat) : Prop := S s ∧ 0 < dM b M (nx s) ∧ (∀ pe, pe < 2 → q * uM b M s pe * dM b M (nx s) = dM b M s * (g s pe * q * dM b M (nx s) + p * uM b M (nx s) pe)) ∧ (∃ t n, RKp nx s t n ∧ dM b M s = q ^ t * (q ^ n - p ^ n)) ∧ 0 < dM b M s ∧ ∀ pe, pe < 2 → fb 99 q (uM b M s pe, dM b M s)
theorem RKp.le9 {S : Nat → Prop} {nx : Nat → Nat} {g : Nat → Nat → Int} {p q : Int} {s t n : Nat} (hc : chS S nx g p q) (hS : S s) (h : RKp nx s t n) : t + n ≤ 9 := pig 9 (t + n) (itN nx s) (fun i _ => (hc.1 _ (hc.it hS i)).1) h.2.2
theorem slv.d9 {b : Nat} {S : Nat → Prop} {nx : Nat → Nat} {g : Nat → Nat → Int} {p q : Int} {M : Mem} {s : Nat} (hc : chS S nx g p q) (h : slv b S nx g p q M s) : dM b M s ≤ 5159780352 := by
  obtain ⟨hS, -, -, ⟨t, n, hr, e⟩, -, -⟩ := h
  have h9 := hr.le9 hc hS
  have p1 := hc.2.2.1
  have pq := hc.2.2.2.1
  have q12 := hc.2.2.2.2
  have a1 := pw12 (by omega : (1 : Int) ≤ q) q12 h9
  have a2 := pow_pos_i p1 n
  have a3 := pow_pos_i (show (1 : Int) ≤ q by omega) t
  have a4 : q ^ t * (q ^ n - p ^ n) ≤ q ^ t * q ^ n := Int.mul_le_mul_of_nonneg_left (by omega) (by omega)
  rw [← Int.pow_add] at a4
  omega
/-- rows of which each place's numbers are those of another memory -/
theorem slv.cg {b : Nat} {S : Nat → Prop} {nx : Nat → Nat} {g : Nat → Nat → Int} {p q : Int} {M N : Mem} {s : Nat} (h : slv b S nx g p q M s) (f8 : N.2 (b + 8) s = M.2 (b + 8) s) (f8n : N.2 (b + 8) (nx s) = M.2 (b + 8) (nx s)) (f6 : ∀ pe, pe < 2 → N.2 (b + 6) (2 * s + pe) = M.2 (b + 6) (2 * s + pe)) (f6n : ∀ pe, pe < 2 → N.2 (b + 6) (2 * nx s + pe) = M.2 (b + 6) (2 * nx s + pe)) : slv b S nx g p q N s := by
  have e1 : dM b N s = dM b M s := congrArg Int64.toInt f8
  have e2 : dM b N (nx s) = dM b M (nx s) := congrArg Int64.toInt f8n
  have e3 : ∀ pe, pe < 2 → uM b N s pe = uM b M s pe := fun pe hp => congrArg Int64.toInt (f6 pe hp)
  have e4 : ∀ pe, pe < 2 → uM b N (nx s) pe = uM b M (nx s) pe := fun pe hp => congrArg Int64.toInt (f6n pe hp)
  obtain ⟨h1, h2, h3, h4, h5, h6⟩ := h
  exact ⟨h1, by rw [e2]; exact h2, fun pe hp => by rw [e1, e2, e3 pe hp, e4 pe hp]; exact h3 pe hp, by rw [e1]; exact h4, by rw [e1]; exact h5, fun pe hp => by rw [e1, e3 pe hp]; exact h6 pe hp⟩
def chK (b : Nat) (S : Nat → Prop) (nx : Nat → Nat) (g : Nat → Nat → Int) (p q : Int) (M : Mem) : Prop := chI b S nx g p q M ∧ ∀ s, s < 9 → M.2 (b + 8) s = lI 0 ∨ slv b S nx g p q M s
theorem slv.nz {b : Nat} {S : Nat → Prop} {nx : Nat → Nat} {g : Nat → Nat → Int} {p q : Int} {M : Mem} {s : Nat} (h : slv b S nx g p q M s) : M.2 (b + 8) s ≠ lI 0 := fun e => by
  have := h.2.2.2.2.1
  unfold dM at this
  rw [e, lI_toInt (by omega) (by omega)] at this
  omega
theorem chK.of {b : Nat} {S : Nat → Prop} {nx : Nat → Nat} {g : Nat → Nat → Int} {p q : Int} {M N : Mem} (h : chK b S nx g p q M) (f : ∀ k j, (k = b ∨ k = b + 2 ∨ k = b + 4 ∨ k = b + 6 ∨ k = b + 8) → N.2 k j = M.2 k j) : chK b S nx g p q N := by
  refine ⟨h.1.of (fun k j hk => f k j (by omega)), fun s hs => ?_⟩
  rcases h.2 s hs with e | e
  · exact Or.inl ((f _ _ (by omega)).trans e)
  · exact Or.inr (e.cg (f _ _ (by omega)) (f _ _ (by omega)) (fun pe _ => f _ _ (by omega)) (fun pe _ => f _ _ (by omega)))
/-- what is known is known of all that follows -/
theorem chK.fol {b : Nat} {S : Nat → Prop} {nx : Nat → Nat} {g : Nat → Nat → Int} {p q : Int} {M : Mem} (hc : chS S nx g p q) (h : chK b S nx g p q M) {s : Nat} (hs : slv b S nx g p q M s) : ∀ k, slv b S nx g p q M (itN nx s k) := by
  intro k
  induction k with
  | zero => exact hs
  | succ k ih =>
    show slv b S nx g p q M (nx (itN nx s k))
    have hS := (hc.1 _ ih.1).2
    rcases h.2 _ (hc.1 _ hS).1 with e | e
    · exfalso
      have := ih.2.1
      unfold dM at this
      rw [e, lI_toInt (by omega) (by omega)] at this
      omega
    · exact e
theorem C_tail {b s : Nat} {S : Nat → Prop} {nx : Nat → Nat} {g : Nat → Nat → Int} {p q : Int} {M : Mem} (hc : chS S nx g p q) (hK : chK b S nx g p q M) (hS : S s) (h0 : M.2 (b + 8) s = lI 0) (hn : slv b S nx g p q M (nx s)) : wpO (F_Chain_walkBack b (iI (s : Int)) M) (fun N => chK b S nx g p q N ∧ slv b S nx g p q N s ∧ (∀ x, x ≠ s → N.2 (b + 8) x = M.2 (b + 8) x) ∧ ∀ j, N.2 (b + 10) j = M.2 (b + 10) j) := by
  have p1 := hc.2.2.1
  have pq := hc.2.2.2.1
  have q12 := hc.2.2.2.2
  obtain ⟨s9, sn⟩ := hc.1 s hS
  have hd := hn.2.2.2.2.1
  have hd9 := hn.d9 hc
  have hf := hn.2.2.2.2.2
  have nes : nx s ≠ s := fun e => by
    have := hn.nz
    rw [e] at this
    exact this h0
  have eD : M.2 (b + 8) (nx s) = lI (dM b M (nx s)) := (lI_of _).symm
  have eU : ∀ pe, pe < 2 → M.2 (b + 6) (2 * nx s + pe) = lI (uM b M (nx s) pe) := fun pe _ => (lI_of _).symm
  refine wp_mono (C_back hc hK.1 hS eD eU) (fun N hN => ?_)
  obtain ⟨n8, n6, nf⟩ := hN
  have hbk : ∀ pe, pe < 2 → fb 99 q (g s pe * (q * dM b M (nx s)) + p * uM b M (nx s) pe, q * dM b M (nx s)) := fun pe hp => by
    have := fb_back (gk := g s pe) p1 pq (by decide : (0 : Int) ≤ 99) (hc.2.1 s pe hS hp) (hf pe hp)
    dsimp only at this
    rw [Int.mul_assoc (g s pe)] at this
    exact this
  have hqd : q * dM b M (nx s) ≤ 61917364224 := by
    have h1 : q * dM b M (nx s) ≤ 12 * 5159780352 := Int.mul_le_mul q12 hd9 (by omega) (by omega)
    omega
  have hqd0 : 0 < q * dM b M (nx s) := Int.mul_pos (by omega) hd
  have ed : dM b N s = q * dM b M (nx s) := by
    show (N.2 (b + 8) s).toInt = _
    rw [n8, lI_toInt (by omega) (by omega)]
  have eu : ∀ pe, pe < 2 → uM b N s pe = g s pe * (q * dM b M (nx s)) + p * uM b M (nx s) pe := fun pe hp => by
    have h1 := fb_num (by omega) q12 (hbk pe hp) hqd
    show (N.2 (b + 6) (2 * s + pe)).toInt = _
    rw [n6 pe hp, lI_toInt (by omega) (by omega)]
  have edn : dM b N (nx s) = dM b M (nx s) := congrArg Int64.toInt (nf _ _ (by omega) (by omega))
  have eun : ∀ pe, pe < 2 → uM b N (nx s) pe = uM b M (nx s) pe := fun pe hp => congrArg Int64.toInt (nf _ _ (by omega) (by omega))
  have hs : slv b S nx g p q N s := by
    refine ⟨hS, by rw [edn]; exact hd, fun pe hp => ?_, ?_, by rw [ed]; exact hqd0, fun pe hp => by rw [ed, eu pe hp]; exact hbk pe hp⟩
    · rw [ed, edn, eu pe hp, eun pe hp]
      generalize dM b M (nx s) = D
      generalize uM b M (nx s) pe = U
      generalize g s pe = G
      grind
    · obtain ⟨t, n, ⟨r1, r2, r3⟩, r4⟩ := hn.2.2.2.1
      refine ⟨t + 1, n, ⟨r1, ?_, fun i j hi hj e => ?_⟩, ?_⟩
      · rw [show t + 1 + n = (t + n) + 1 by omega, ← itN_nx, ← itN_nx, r2]
      · have kn : ∀ k, itN nx s (k + 1) ≠ s := fun k w => by
          have := (hK.fol hc hn k).nz
          rw [itN_nx, w] at this
          exact this h0
        cases i with
        | zero =>
          cases j with
          | zero => rfl
          | succ j => exact absurd e.symm (kn j)
        | succ i =>
          cases j with
          | zero => exact absurd e (kn i)
          | succ j =>
            rw [← itN_nx, ← itN_nx] at e
            have := r3 i j (by omega) (by omega) e
            omega
      · rw [ed, r4, Int.pow_succ, ← Int.mul_assoc, Int.mul_comm (q ^ t) q]
  have n8x : ∀ x, x ≠ s → N.2 (b + 8) x = M.2 (b + 8) x := fun x hx => nf _ _ (by omega) (by omega)
  refine ⟨⟨hK.1.of (fun k j hk => nf k j (by omega) (by omega)), fun x hx => ?_⟩, hs, n8x, fun j => nf _ _ (by omega) (by omega)⟩
  by_cases qx : x = s
  · rw [qx]
    exact Or.inr hs
  · rcases hK.2 x hx with e | e
    · exact Or.inl ((n8x x qx).trans e)
    · have nn : nx x ≠ s := fun w => by
        have := (hK.fol hc e 1).nz
        rw [show itN nx x 1 = s from w] at this
        exact this h0
      exact Or.inr (e.cg (n8x x qx) (n8x _ nn) (fun pe hp => nf _ _ (by omega) (by omega)) (fun pe hp => nf _ _ (by omega) (by omega)))
theorem C_ring {b r n fr en : Nat} {S : Nat → Prop} {nx : Nat → Nat} {g : Nat → Nat → Int} {p q : Int} {M : Mem} (hc : chS S nx g p q) (hK : chK b S nx g p q M) (hr : S r) (hn : 1 ≤ n) (hen : fr + n = en) (h9 : en ≤ 9) (hper : itN nx r n = r) (hpath : ∀ i, i < n → M.2 (b + 10) (fr + i) = lI (itN nx r i : Int)) (hdis : ∀ i j, i < n → j < n → itN nx r i = itN nx r j → i = j) (h0 : ∀ i, i < n → M.2 (b + 8) (itN nx r i) = lI 0) : wpO ((F_Chain_closeRing b (iI (fr : Int)) (iI (en : Int)) 0 M).bind fun r6 => F_Chain_closeRing b (iI (fr : Int)) (iI (en : Int)) 1 r6) (fun N => chK b S nx g p q N ∧ (∀ i, i < n → slv b S nx g p q N (itN nx r i)) ∧ (∀ x, (∀ i, i < n → itN nx r i ≠ x) → N.2 (b + 8) x = M.2 (b + 8) x) ∧ ∀ j, N.2 (b + 10) j = M.2 (b + 10) j) := by
  have p1 := hc.2.2.1
  have pq := hc.2.2.2.1
  have q12 := hc.2.2.2.2
  have hit : ∀ k, S (itN nx r k) := hc.it hr
  have hlt : ∀ k, itN nx r k < 9 := fun k => (hc.1 _ (hit k)).1
  have hperk : ∀ k, itN nx r (n + k) = itN nx r k := fun k => by rw [← itN_add, hper]
  have hnR : ∀ i, i < n → ∃ i', i' < n ∧ nx (itN nx r i) = itN nx r i' := fun i hi => by
    by_cases c : i + 1 < n
    · exact ⟨i + 1, c, rfl⟩
    · exact ⟨0, by omega, by rw [← itN_s (nx := nx), show i + 1 = n by omega, hper]; rfl⟩
  refine wp_bind (C_close hc hK.1 hr hn hen h9 hper hpath hdis (pe := 0) (by decide)) (fun N1 hN1 => ?_)
  obtain ⟨v1, f1⟩ := hN1
  have hI1 : chI b S nx g p q N1 := hK.1.of (fun k j hk => f1 k j (by omega) (by omega))
  refine wp_mono (C_close hc hI1 hr hn hen h9 hper (fun i hi => (f1 _ _ (by omega) (by omega)).trans (hpath i hi)) hdis (pe := 1) (by decide)) (fun N hN => ?_)
  obtain ⟨v2, f2⟩ := hN
  have n10 : ∀ j, N.2 (b + 10) j = M.2 (b + 10) j := fun j => (f2 _ _ (by omega) (by omega)).trans (f1 _ _ (by omega) (by omega))
  have n8x : ∀ x, (∀ i, i < n → itN nx r i ≠ x) → N.2 (b + 8) x = M.2 (b + 8) x := fun x hx => (f2 _ _ (by omega) (fun ⟨_, i, hi, w⟩ => hx i hi w.symm)).trans (f1 _ _ (by omega) (fun ⟨_, i, hi, w⟩ => hx i hi w.symm))
  have n6x : ∀ x pe, pe < 2 → (∀ i, i < n → itN nx r i ≠ x) → N.2 (b + 6) (2 * x + pe) = M.2 (b + 6) (2 * x + pe) := fun x pe hp hx => (f2 _ _ (fun ⟨_, i, hi, w⟩ => hx i hi (by omega)) (by omega)).trans (f1 _ _ (fun ⟨_, i, hi, w⟩ => hx i hi (by omega)) (by omega))
  have hq9 := pw12 (by omega : (1 : Int) ≤ q) q12 (show n ≤ 9 by omega)
  have hpw := pow_lt_q p1 pq n (by omega)
  have n8 : ∀ i, i < n → dM b N (itN nx r i) = q ^ n - p ^ n := fun i hi => by
    show (N.2 (b + 8) (itN nx r i)).toInt = _
    rw [(v2 i hi).2, lI_toInt (by omega) (by omega)]
  have hA : ∀ pe i, pe < 2 → -(99 * (q ^ n - p ^ n)) ≤ ringA (fun k => g (itN nx r k) pe) p q i n ∧ ringA (fun k => g (itN nx r k) pe) p q i n ≤ 99 * (q ^ n - p ^ n) := fun pe i hp => ringA_abs p1 pq (by decide) (fun k => hc.2.1 _ pe (hit k) hp) (by omega)
  have hfb : ∀ pe i, pe < 2 → fb 99 q (q * ringA (fun k => g (itN nx r k) pe) p q i n, q ^ n - p ^ n) := fun pe i hp => by
    obtain ⟨a1, a2⟩ := hA pe i hp
    refine ⟨by dsimp only; omega, ?_, ?_⟩
    · dsimp only
      have := Int.mul_le_mul_of_nonneg_left a1 (show 0 ≤ q by omega)
      rw [Int.mul_neg] at this
      have e : 99 * q * (q ^ n - p ^ n) = q * (99 * (q ^ n - p ^ n)) := by
        generalize q ^ n - p ^ n = Z
        grind
      omega
    · dsimp only
      have := Int.mul_le_mul_of_nonneg_left a2 (show 0 ≤ q by omega)
      have e : 99 * q * (q ^ n - p ^ n) = q * (99 * (q ^ n - p ^ n)) := by
        generalize q ^ n - p ^ n = Z
        grind
      omega
  have n6 : ∀ i pe, i < n → pe < 2 → uM b N (itN nx r i) pe = q * ringA (fun k => g (itN nx r k) pe) p q i n := fun i pe hi hp => by
    have h1 := fb_num (by omega) q12 (hfb pe i hp) (by omega)
    show (N.2 (b + 6) (2 * itN nx r i + pe)).toInt = _
    have hp2 : pe = 0 ∨ pe = 1 := by omega
    rcases hp2 with rfl | rfl
    · rw [f2 _ _ (by omega) (by omega), (v1 i hi).1, lI_toInt (by omega) (by omega)]
    · rw [(v2 i hi).1, lI_toInt (by omega) (by omega)]
  have hring : ∀ i, i < n → slv b S nx g p q N (itN nx r i) := fun i hi => by
    obtain ⟨i', hi', ei'⟩ := hnR i hi
    refine ⟨hit i, by rw [ei', n8 i' hi']; omega, fun pe hp => ?_, ⟨0, n, ⟨hn, ?_, fun x y hx hy e => ?_⟩, ?_⟩, by rw [n8 i hi]; omega, fun pe hp => by rw [n8 i hi, n6 i pe hi hp]; exact hfb pe i hp⟩
    · rw [ei', n8 i hi, n8 i' hi', n6 i pe hi hp, n6 i' pe hi' hp]
      have hcy := ringA_cyc (g := fun k => g (itN nx r k) pe) (p := p) (q := q) (c := i) (n := n) (by
        show g (itN nx r (i + n)) pe = g (itN nx r i) pe
        rw [show i + n = n + i by omega, hperk])
      have hsh : ringA (fun k => g (itN nx r k) pe) p q (i + 1) n = ringA (fun k => g (itN nx r k) pe) p q i' n := by
        by_cases c : i + 1 < n
        · have : i' = i + 1 := hdis i' (i + 1) hi' c (by rw [← ei']; rfl)
          rw [this]
        · have e0 : i' = 0 := hdis i' 0 hi' (by omega) (by rw [← ei', ← itN_s (nx := nx), show i + 1 = n by omega, hper]; rfl)
          rw [e0]
          refine ringA_ext n (fun k _ => ?_)
          show g (itN nx r (i + 1 + k)) pe = g (itN nx r (0 + k)) pe
          rw [show i + 1 + k = n + k by omega, hperk, Nat.zero_add]
      rw [hsh] at hcy
      generalize ringA (fun k => g (itN nx r k) pe) p q i n = A at *
      generalize ringA (fun k => g (itN nx r k) pe) p q i' n = B at *
      generalize g (itN nx r i) pe = G at *
      generalize q ^ n - p ^ n = Z at *
      have e : q * (q * A) * Z = Z * (q * (G * Z + p * B)) := by
        rw [hcy]
        grind
      rw [e]
      grind
    · rw [itN_add, itN_add, show i + (0 + n) = n + i by omega, hperk]
      rfl
    · rw [itN_add, itN_add] at e
      by_cases cx : i + x < n
      · by_cases cy : i + y < n
        · have := hdis (i + x) (i + y) cx cy e
          omega
        · rw [show i + y = n + (i + y - n) by omega, hperk] at e
          have := hdis (i + x) (i + y - n) cx (by omega) e
          omega
      · rw [show i + x = n + (i + x - n) by omega, hperk] at e
        by_cases cy : i + y < n
        · have := hdis (i + x - n) (i + y) (by omega) cy e
          omega
        · rw [show i + y = n + (i + y - n) by omega, hperk] at e
          have := hdis (i + x - n) (i + y - n) (by omega) (by omega) e
          omega
    · rw [n8 i hi, Int.pow_zero, Int.one_mul]
  refine ⟨⟨hI1.of (fun k j hk => f2 k j (by omega) (by omega)), fun x hx => ?_⟩, hring, n8x, n10⟩
  by_cases c : ∃ i, i < n ∧ itN nx r i = x
  · obtain ⟨i, hi, e⟩ := c
    rw [← e]
    exact Or.inr (hring i hi)
  · have cx : ∀ i, i < n → itN nx r i ≠ x := fun i hi w => c ⟨i, hi, w⟩
    rcases hK.2 x hx with e | e
    · exact Or.inl ((n8x x cx).trans e)
    · have cn : ∀ i, i < n → itN nx r i ≠ nx x := fun i hi w => by
        have := (hK.fol hc e 1).nz
        rw [show itN nx x 1 = itN nx r i from w.symm] at this
        exact this (h0 i hi)
      exact Or.inr (e.cg (n8x x cx) (n8x _ cn) (fun pe hp => n6x x pe hp cx) (fun pe hp => n6x _ pe hp cn))
