/-! ===== the class's chain: settle, reckon ===== -/
theorem C_rest {b m s0 : Nat} {S : Nat → Prop} {nx : Nat → Nat} {g : Nat → Nat → Int} {p q : Int} {M : Mem} (hc : chS S nx g p q) (hK : chK b S nx g p q M) (hS : S s0) (hm : m ≤ 9) (hk : slv b S nx g p q M (itN nx s0 m)) (h0 : ∀ i, i < m → M.2 (b + 8) (itN nx s0 i) = lI 0) (hp : ∀ i, i < m → M.2 (b + 10) i = lI (itN nx s0 i : Int)) (hd : ∀ i j, i < m → j < m → itN nx s0 i = itN nx s0 j → i = j) : wpO (F_Chain_settle_l131 b (iI ((m : Int) - 1)) M) (fun N => chK b S nx g p q N ∧ slv b S nx g p q N s0 ∧ ∀ x, M.2 (b + 8) x ≠ lI 0 → N.2 (b + 8) x ≠ lI 0) := by
  have i0 : (0 : Int32) = iI 0 := rfl
  unfold F_Chain_settle_l131
  refine wp_bind (Ψ := fun N => chK b S nx g p q N ∧ slv b S nx g p q N s0 ∧ ∀ x, M.2 (b + 8) x ≠ lI 0 → N.2 (b + 8) x ≠ lI 0) ?_ (fun N hN => wp_some hN)
  refine wp_iterS (P := fun (j : Nat) (z : Int32 × Mem) => z.1 = iI ((m : Int) - 1 - j) ∧ j ≤ m ∧ chK b S nx g p q z.2 ∧ slv b S nx g p q z.2 (itN nx s0 (m - j)) ∧ (∀ i, i < m - j → z.2.2 (b + 8) (itN nx s0 i) = lI 0) ∧ (∀ i, i < m → z.2.2 (b + 10) i = lI (itN nx s0 i : Int)) ∧ ∀ x, M.2 (b + 8) x ≠ lI 0 → z.2.2 (b + 8) x ≠ lI 0) m ?_ FUEL (iI ((m : Int) - 1), M) ⟨by show iI ((m : Int) - 1) = iI ((m : Int) - 1 - (0 : Nat)); congr 1; omega, by omega, hK, hk, h0, hp, fun _ h => h⟩ (FUEL_big (by omega))
  rintro j ⟨z1, N⟩ hj ⟨e1, -, nK, nk, n0, np, nm⟩
  dsimp only at e1 nK nk n0 np nm
  subst e1
  unfold F_Chain_settle_b131
  dsimp only
  rw [i0]
  refine wp_if (fun c => wp_some ⟨nK, ?_, nm⟩) (fun c => ?_)
  · rw [iI_lt (by omega) (by omega) (by omega) (by omega)] at c
    rw [show m - j = 0 by omega] at nk
    exact nk
  rw [iI_lt (by omega) (by omega) (by omega) (by omega)] at c
  obtain ⟨i, hi⟩ : ∃ i, m = j + i + 1 := ⟨m - j - 1, by omega⟩
  have ei : (m : Int) - 1 - j = ((i : Nat) : Int) := by omega
  have hSi := hc.it hS i
  have hl := (hc.1 _ hSi).1
  rw [ei, V_Row_small (by omega) (by omega) (by decide), bs, show ((i : Nat) : Int).toNat = i from rfl, np i (by omega), lI_i]
  have hn : slv b S nx g p q N (nx (itN nx s0 i)) := by
    rw [show m - j = i + 1 by omega] at nk
    exact nk
  refine wp_bind (C_tail hc nK hSi (n0 i (by omega)) hn) (fun O hO => wp_some ?_)
  obtain ⟨oK, os, o8, o10⟩ := hO
  refine ⟨by omega, ?_, by omega, oK, ?_, fun i' h => ?_, fun i' h => (o10 i').trans (np i' h), fun x hx => ?_⟩
  · show iI ((i : Nat) : Int) + (-1) = iI ((m : Int) - 1 - ((j + 1 : Nat) : Int))
    rw [tm1, iI_add]
    congr 1
    omega
  · show slv b S nx g p q O (itN nx s0 (m - (j + 1)))
    rw [show m - (j + 1) = i by omega]
    exact os
  · show O.2 (b + 8) (itN nx s0 i') = lI 0
    rw [o8 _ (fun w => by have := hd i' i (by omega) (by omega) w; omega)]
    exact n0 i' (by omega)
  · show O.2 (b + 8) x ≠ lI 0
    by_cases q1 : x = itN nx s0 i
    · rw [q1]
      exact os.nz
    · rw [o8 x q1]
      exact nm x hx
theorem lI_ne {a c : Int} (h1 : -1000 ≤ a) (h2 : a ≤ 1000) (h3 : -1000 ≤ c) (h4 : c ≤ 1000) (h : lI a = lI c) : a = c := by
  rw [lI_eq (by omega) (by omega) (by omega) (by omega)] at h
  exact h
theorem C_settle {b s0 : Nat} {S : Nat → Prop} {nx : Nat → Nat} {g : Nat → Nat → Int} {p q : Int} {M : Mem} (hc : chS S nx g p q) (hK : chK b S nx g p q M) (hS : S s0) : wpO (F_Chain_settle b (iI (s0 : Int)) M) (fun N => chK b S nx g p q N ∧ slv b S nx g p q N s0 ∧ ∀ x, M.2 (b + 8) x ≠ lI 0 → N.2 (b + 8) x ≠ lI 0) := by
  have hit : ∀ k, S (itN nx s0 k) := hc.it hS
  have hlt : ∀ k, itN nx s0 k < 9 := fun k => (hc.1 _ (hit k)).1
  have l9 : (9 : Int32) = iI 9 := rfl
  have z0 : (0 : Int64) = lI 0 := rfl
  unfold F_Chain_settle
  refine wp_bind (T_Row_setAllQ (b + 12) 9 (-1) M) (fun r1 h1 => ?_)
  obtain ⟨f1, c1⟩ := h1
  unfold F_Chain_settle_l14
  refine wp_bind (Ψ := fun r => ∃ k : Nat, k ≤ 9 ∧ r.1 = iI (k : Int) ∧ r.2.1 = iI (itN nx s0 k : Int) ∧ (∀ i, i < k → r.2.2.2 (b + 10) i = lI (itN nx s0 i : Int)) ∧ (∀ i, i < k → r.2.2.2 (b + 12) (itN nx s0 i) = lI (i : Int)) ∧ (∀ i, i < k → M.2 (b + 8) (itN nx s0 i) = lI 0) ∧ (∀ c j, c ≠ b + 10 → c ≠ b + 12 → r.2.2.2 c j = M.2 c j) ∧ (M.2 (b + 8) (itN nx s0 k) = lI 0 → ∃ c, c < k ∧ itN nx s0 k = itN nx s0 c)) ?_ (fun r hr => ?_)
  · refine wp_iterS (P := fun (k : Nat) (z : Int32 × Int32 × Mem) => z.1 = iI (k : Int) ∧ z.2.1 = iI (itN nx s0 k : Int) ∧ k ≤ 9 ∧ (∀ i, i < k → z.2.2.2 (b + 10) i = lI (itN nx s0 i : Int)) ∧ (∀ i, i < k → z.2.2.2 (b + 12) (itN nx s0 i) = lI (i : Int)) ∧ (∀ x, x < 9 → (∀ i, i < k → itN nx s0 i ≠ x) → z.2.2.2 (b + 12) x = lI (-1)) ∧ (∀ i, i < k → M.2 (b + 8) (itN nx s0 i) = lI 0) ∧ ∀ c j, c ≠ b + 10 → c ≠ b + 12 → z.2.2.2 c j = M.2 c j) 9 ?_ FUEL (0, iI (s0 : Int), r1) ⟨rfl, rfl, by omega, fun i h => absurd h (Nat.not_lt_zero _), fun i h => absurd h (Nat.not_lt_zero _), fun x h9 _ => by rw [← tm1l]; exact c1 x h9 (by decide), fun i h => absurd h (Nat.not_lt_zero _), fun c j h2 h3 => (f1 c h3).2 j⟩ (FUEL_big (by decide))
    rintro k ⟨z1, z2, N⟩ hk ⟨e1, e2, k9, nP, nS, nU, nZ, nf⟩
    dsimp only at e1 e2 nP nS nU nZ nf
    subst e1
    subst e2
    have hl := hlt k
    have hdis : ∀ i j, i < k → j < k → itN nx s0 i = itN nx s0 j → i = j := fun i j hi hj e => by
      have h2 := nS i hi
      rw [e, nS j hj] at h2
      have := lI_ne (by omega) (by omega) (by omega) (by omega) h2
      omega
    unfold F_Chain_settle_b14
    dsimp only
    rw [l9]
    refine wp_if (fun c => wp_some ⟨k, k9, rfl, rfl, nP, nS, nZ, nf, fun _ => ?_⟩) (fun c => ?_)
    · rw [iI_le (by omega) (by omega) (by omega) (by omega)] at c
      refine Classical.byContradiction (fun hno => ?_)
      have hno2 : ∀ c, c < k → itN nx s0 k ≠ itN nx s0 c := fun c hc e => hno ⟨c, hc, e⟩
      have := pig 9 10 (itN nx s0) (fun i _ => hlt i) (fun i j hi hj e => by
        by_cases ci : i < k
        · by_cases cj : j < k
          · exact hdis i j ci cj e
          · rw [show j = k by omega] at e
            exact absurd e.symm (hno2 i ci)
        · by_cases cj : j < k
          · rw [show i = k by omega] at e
            exact absurd e (hno2 j cj)
          · omega)
      omega
    rw [iI_le (by omega) (by omega) (by omega) (by omega)] at c
    rw [V_Row_at (by omega) (by omega) (by decide), bs, show ((itN nx s0 k : Nat) : Int).toNat = itN nx s0 k from rfl, nf (b + 8) _ (by omega) (by omega), z0]
    refine wp_if (fun c2 => ?_) (fun c2 => wp_some ⟨k, k9, rfl, rfl, nP, nS, nZ, nf, fun w => absurd w c2⟩)
    rw [V_Row_at (by omega) (by omega) (by decide), bs, show ((itN nx s0 k : Nat) : Int).toNat = itN nx s0 k from rfl]
    by_cases cx : ∃ i, i < k ∧ itN nx s0 i = itN nx s0 k
    · obtain ⟨i, hi, ei⟩ := cx
      have es : N.2 (b + 12) (itN nx s0 k) = lI (i : Int) := by rw [← ei]; exact nS i hi
      rw [es, tm1l]
      refine wp_f (fun w => ?_) (wp_some ⟨k, k9, rfl, rfl, nP, nS, nZ, nf, fun _ => ⟨i, hi, ei.symm⟩⟩)
      have := lI_ne (by omega) (by omega) (by omega) (by omega) w
      omega
    · have cx2 : ∀ i, i < k → itN nx s0 i ≠ itN nx s0 k := fun i hi e => cx ⟨i, hi, e⟩
      rw [nU _ hl cx2]
      refine wp_t (by rw [tm1l]) ?_
      rw [V_Row_put (by omega) (by omega) (by decide), bs, show ((k : Nat) : Int).toNat = k from rfl, l64n _ (by omega), V_Row_put (by omega) (by omega) (by decide), bs, show ((itN nx s0 k : Nat) : Int).toNat = itN nx s0 k from rfl, l64n _ (by omega)]
      have f2 : ∀ c j, ¬ (c = b + 10 ∧ j = k) → ¬ (c = b + 12 ∧ j = itN nx s0 k) → (mSL (mSL N (b + 10) k (lI (itN nx s0 k : Int))) (b + 12) (itN nx s0 k) (lI (k : Int))).2 c j = N.2 c j := fun c j h1 h2 => by rw [mSL_2, if_neg h2, mSL_2, if_neg h1]
      have v10 : (mSL (mSL N (b + 10) k (lI (itN nx s0 k : Int))) (b + 12) (itN nx s0 k) (lI (k : Int))).2 (b + 10) k = lI (itN nx s0 k : Int) := by rw [mL_cell (by omega), mL_hit]
      have v12 : (mSL (mSL N (b + 10) k (lI (itN nx s0 k : Int))) (b + 12) (itN nx s0 k) (lI (k : Int))).2 (b + 12) (itN nx s0 k) = lI (k : Int) := mL_hit
      generalize mSL (mSL N (b + 10) k (lI (itN nx s0 k : Int))) (b + 12) (itN nx s0 k) (lI (k : Int)) = O at *
      rw [V_Row_small (by omega) (by omega) (by decide), bs, show ((itN nx s0 k : Nat) : Int).toNat = itN nx s0 k from rfl, f2 (b + 2) _ (by omega) (by omega), nf (b + 2) _ (by omega) (by omega), hK.1.1 _ hl (hit k), lI_i]
      refine wp_some ⟨by omega, iI_succ k, rfl, by omega, fun i hi => ?_, fun i hi => ?_, fun x hx hne => ?_, fun i hi => ?_, fun c' j h2 h3 => ?_⟩
      · show O.2 (b + 10) i = _
        by_cases q1 : i = k
        · rw [q1, v10]
        · rw [f2 _ _ (by omega) (by omega)]
          exact nP i (by omega)
      · show O.2 (b + 12) (itN nx s0 i) = _
        by_cases q1 : i = k
        · rw [q1, v12]
        · have := cx2 i (by omega)
          rw [f2 _ _ (by omega) (by omega)]
          exact nS i (by omega)
      · show O.2 (b + 12) x = _
        have := hne k (by omega)
        rw [f2 _ _ (by omega) (by omega)]
        exact nU x hx (fun i hi => hne i (by omega))
      · by_cases q1 : i = k
        · rw [q1]
          exact c2
        · exact nZ i (by omega)
      · show O.2 c' j = _
        rw [f2 _ _ (by omega) (by omega)]
        exact nf c' j h2 h3
  · obtain ⟨k, k9, e1, e2, nP, nS, nZ, nf, hx⟩ := hr
    obtain ⟨r1', r2', N⟩ := r
    dsimp only at e1 e2 nP nS nf ⊢
    subst e1
    subst e2
    have hl := hlt k
    have hdis : ∀ i j, i < k → j < k → itN nx s0 i = itN nx s0 j → i = j := fun i j hi hj e => by
      have h2 := nS i hi
      rw [e, nS j hj] at h2
      have := lI_ne (by omega) (by omega) (by omega) (by omega) h2
      omega
    have hKN : chK b S nx g p q N := hK.of (fun c j hcj => nf c j (by omega) (by omega))
    have n8 : ∀ x, N.2 (b + 8) x = M.2 (b + 8) x := fun x => nf _ _ (by omega) (by omega)
    unfold F_Chain_settle_j83
    rw [V_Row_at (by omega) (by omega) (by decide), bs, show ((itN nx s0 k : Nat) : Int).toNat = itN nx s0 k from rfl, n8, z0]
    refine wp_if (fun c2 => ?_) (fun c2 => ?_)
    · obtain ⟨c, hck, ec⟩ := hx c2
      rw [V_Row_small (by omega) (by omega) (by decide), bs, show ((itN nx s0 k : Nat) : Int).toNat = itN nx s0 k from rfl, ec, nS c hck, lI_i, ← Option.bind_assoc]
      refine wp_bind (C_ring (r := itN nx s0 c) (n := k - c) (fr := c) (en := k) hc hKN (hit c) (by omega) (by omega) k9 ?_ (fun i hi => ?_) (fun i j hi hj e => ?_) (fun i hi => ?_)) (fun O hO => ?_)
      · rw [itN_add, show c + (k - c) = k by omega, ec]
      · rw [itN_add]
        exact nP (c + i) (by omega)
      · rw [itN_add, itN_add] at e
        have := hdis (c + i) (c + j) (by omega) (by omega) e
        omega
      · rw [itN_add, n8]
        exact nZ (c + i) (by omega)
      · obtain ⟨oK, oR, o8, o10⟩ := hO
        have hone : iI (c : Int) - 1 = iI ((c : Int) - 1) := by rw [show (1 : Int32) = iI 1 from rfl, iI_sub]
        rw [hone]
        have oc := oR 0 (by omega)
        refine wp_mono (C_rest (m := c) hc oK hS (by omega) oc (fun i hi => ?_) (fun i hi => (o10 i).trans (nP i (by omega))) (fun i j hi hj e => hdis i j (by omega) (by omega) e)) (fun Q hQ => ⟨hQ.1, hQ.2.1, fun x hx2 => hQ.2.2 x ?_⟩)
        · rw [o8 _ (fun i' hi' w => by rw [itN_add] at w; have := hdis (c + i') i (by omega) (by omega) w; omega), n8]
          exact nZ i (by omega)
        · by_cases q1 : ∃ i, i < k - c ∧ itN nx (itN nx s0 c) i = x
          · obtain ⟨i, hi, ei⟩ := q1
            rw [← ei]
            exact (oR i hi).nz
          · rw [o8 x (fun i hi w => q1 ⟨i, hi, w⟩), n8]
            exact hx2
    · have hone : iI (k : Int) - 1 = iI ((k : Int) - 1) := by rw [show (1 : Int32) = iI 1 from rfl, iI_sub]
      rw [hone]
      have hkn : slv b S nx g p q N (itN nx s0 k) := by
        rcases hKN.2 _ hl with e | e
        · rw [n8] at e
          exact absurd e c2
        · exact e
      refine wp_mono (C_rest (m := k) hc hKN hS k9 hkn (fun i hi => (n8 _).trans (nZ i hi)) nP hdis) (fun Q hQ => ⟨hQ.1, hQ.2.1, fun x hx2 => hQ.2.2 x ?_⟩)
      rw [n8]
      exact hx2
theorem C_reckon {b : Nat} {S : Nat → Prop} {nx : Nat → Nat} {g : Nat → Nat → Int} {p q : Int} {M : Mem} (hc : chS S nx g p q) (m1 : ∀ s, s < 9 → S s → M.2 (b + 2) s = lI (nx s : Int)) (m2 : ∀ s, s < 9 → ¬ S s → M.2 (b + 2) s = lI (-1)) (m3 : ∀ s pe, S s → s < 9 → pe < 2 → M.2 (b + 4) (2 * s + pe) = lI (g s pe)) : wpO (F_Chain_reckon b (lI p) (lI q) M) (fun N => chI b S nx g p q N ∧ ∀ s, S s → slv b S nx g p q N s) := by
  have l9 : (9 : Int32) = iI 9 := rfl
  have z0 : (0 : Int64) = lI 0 := rfl
  unfold F_Chain_reckon
  have f0 : ∀ k j, k ≠ b → (mSL (mSL M b 6 (lI p)) b 7 (lI q)).2 k j = M.2 k j := fun k j h => by rw [mL_cell h, mL_cell h]
  have v6 : (mSL (mSL M b 6 (lI p)) b 7 (lI q)).2 b 6 = lI p := by rw [mL_ix (by decide), mL_hit]
  have v7 : (mSL (mSL M b 6 (lI p)) b 7 (lI q)).2 b 7 = lI q := mL_hit
  generalize mSL (mSL M b 6 (lI p)) b 7 (lI q) = M1 at *
  refine wp_bind (T_Row_setAllQ (b + 8) 9 0 M1) (fun r1 h1 => ?_)
  obtain ⟨f1, c1⟩ := h1
  have hK1 : chK b S nx g p q r1 := by
    refine ⟨⟨fun s h9 hS => ?_, fun s h9 hS => ?_, fun s pe hS h9 hp => ?_, ?_, ?_⟩, fun s hs => Or.inl (c1 s hs (by decide))⟩
    · rw [(f1 (b + 2) (by omega)).2, f0 _ _ (by omega)]
      exact m1 s h9 hS
    · rw [(f1 (b + 2) (by omega)).2, f0 _ _ (by omega)]
      exact m2 s h9 hS
    · rw [(f1 (b + 4) (by omega)).2, f0 _ _ (by omega)]
      exact m3 s pe hS h9 hp
    · rw [(f1 b (by omega)).2, v6]
    · rw [(f1 b (by omega)).2, v7]
  unfold F_Chain_reckon_l21
  refine wp_bind (Ψ := fun N => chI b S nx g p q N ∧ ∀ s, S s → slv b S nx g p q N s) ?_ (fun N hN => wp_some hN)
  refine wp_iterS (P := fun (k : Nat) (z : Int32 × Mem) => z.1 = iI (k : Int) ∧ chK b S nx g p q z.2 ∧ ∀ s, s < k → S s → z.2.2 (b + 8) s ≠ lI 0) 9 ?_ FUEL (0, r1) ⟨rfl, hK1, fun s h => absurd h (Nat.not_lt_zero _)⟩ (FUEL_big (by decide))
  rintro k ⟨z1, N⟩ hk ⟨e1, nK, nz⟩
  dsimp only at e1 nK nz
  subst e1
  unfold F_Chain_reckon_b21
  dsimp only
  rw [l9]
  refine wp_if (fun c => wp_some ⟨nK.1, fun s hS => ?_⟩) (fun c => ?_)
  · rw [iI_le (by omega) (by omega) (by omega) (by omega)] at c
    have s9 := (hc.1 s hS).1
    rcases nK.2 s s9 with e | e
    · exact absurd e (nz s (by omega) hS)
    · exact e
  rw [iI_le (by omega) (by omega) (by omega) (by omega)] at c
  rw [V_Row_at (by omega) (by omega) (by decide), bs, show ((k : Nat) : Int).toNat = k from rfl]
  by_cases hS : S k
  · have hn9 := (hc.1 _ (hc.1 k hS).2).1
    rw [nK.1.1 k (by omega) hS, tm1l]
    refine wp_f (fun w => ?_) ?_
    · have := lI_ne (by omega) (by omega) (by omega) (by omega) w
      omega
    rw [V_Row_at (by omega) (by omega) (by decide), bs, show ((k : Nat) : Int).toNat = k from rfl, z0]
    refine wp_if (fun c2 => ?_) (fun c2 => wp_some ⟨by omega, iI_succ k, nK, fun s hs hSs => ?_⟩)
    · refine wp_bind (C_settle hc nK hS) (fun O hO => wp_some ⟨by omega, iI_succ k, hO.1, fun s hs hSs => ?_⟩)
      by_cases q1 : s = k
      · rw [q1]
        exact hO.2.1.nz
      · exact hO.2.2 s (nz s (by omega) hSs)
    · by_cases q1 : s = k
      · rw [q1]
        exact c2
      · exact nz s (by omega) hSs
  · rw [nK.1.2.1 k (by omega) hS, tm1l]
    refine wp_t rfl (wp_some ⟨by omega, iI_succ k, nK, fun s hs hSs => ?_⟩)
    by_cases q1 : s = k
    · rw [q1] at hSs
      exact absurd hSs hS
    · exact nz s (by omega) hSs
