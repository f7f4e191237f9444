/-! ===== feed: the bytes; the image ===== -/
theorem pw_case {s : Nat} (hs : s = 24 ∨ s = 16 ∨ s = 8 ∨ s = 0) : 2 ^ s = 16777216 ∨ 2 ^ s = 65536 ∨ 2 ^ s = 256 ∨ 2 ^ s = 1 := by
  rcases hs with rfl | rfl | rfl | rfl <;> decide
theorem pw_arith {P N : Nat} {X : Int} (hP : P = 16777216 ∨ P = 65536 ∨ P = 256 ∨ P = 1) (hN : N < 4294967296) (hX : X = (N : Int) ∨ X = (N : Int) - 4294967296) : ((N / P % 256 : Nat) : Int) = X / ((P : Nat) : Int) % 256 := by
  rcases hP with rfl | rfl | rfl | rfl <;> rcases hX with rfl | rfl <;> omega
theorem byteV {x sI : Int32} {s : Nat} (hs : s = 24 ∨ s = 16 ∨ s = 8 ∨ s = 0) (h1 : (x >>> (sI &&& 31)).toBitVec = x.toBitVec.sshiftRight s) (h2 : (ush x sI).toBitVec = x.toBitVec >>> s) : ((ush x sI &&& 255).toInt64) = lI ((vp_nar .byte ((x >>> (sI &&& 31)).toInt8.toInt32)).toInt % 256) ∧ -128 ≤ (vp_nar .byte ((x >>> (sI &&& 31)).toInt8.toInt32)).toInt ∧ (vp_nar .byte ((x >>> (sI &&& 31)).toInt8.toInt32)).toInt ≤ 127 := by
  generalize hz : x >>> (sI &&& 31) = z at *
  have e1 : vp_nar .byte (z.toInt8.toInt32) = z.toInt8.toInt32 := by
    show z.toInt8.toInt32.toInt8.toInt32 = _
    rw [Int8.toInt8_toInt32]
  have e2 : z.toInt8.toInt32.toInt = z.toInt.bmod 256 := by
    rw [Int8.toInt_toInt32, Int32.toInt_toInt8]
  have e3 : z.toInt = x.toInt / ((2 ^ s : Nat) : Int) := by
    rw [← Int32.toInt_toBitVec, h1, BitVec.toInt_sshiftRight, Int32.toInt_toBitVec, Int.shiftRight_eq_div_pow]
  have b1 := Int.le_bmod (x := z.toInt) (m := 256) (by decide)
  have b2 := Int.bmod_lt (x := z.toInt) (m := 256) (by decide)
  have b3 : (z.toInt.bmod 256) % 256 = z.toInt % 256 := Int.bmod_emod
  rw [e1, e2]
  refine ⟨?_, by omega, by omega⟩
  rw [b3]
  have hN : (ush x sI &&& 255).toBitVec.toNat = x.toBitVec.toNat / 2 ^ s % 256 := by
    show ((ush x sI).toBitVec &&& (255 : Int32).toBitVec).toNat = _
    rw [h2, BitVec.toNat_and, BitVec.toNat_ushiftRight, Nat.shiftRight_eq_div_pow]
    exact Nat.and_two_pow_sub_one_eq_mod _ 8
  have hI : (ush x sI &&& 255).toInt = ((x.toBitVec.toNat / 2 ^ s % 256 : Nat) : Int) := by
    rw [← Int32.toInt_toBitVec, BitVec.toInt_eq_toNat_of_lt (by rw [hN]; omega), hN]
  have hX : x.toInt = (x.toBitVec.toNat : Int) ∨ x.toInt = (x.toBitVec.toNat : Int) - 4294967296 := by
    rw [← Int32.toInt_toBitVec, BitVec.toInt_eq_toNat_cond]
    by_cases c : 2 * x.toBitVec.toNat < 2 ^ 32
    · rw [if_pos c]
      exact Or.inl rfl
    · rw [if_neg c]
      exact Or.inr rfl
  have hlt : x.toBitVec.toNat < 4294967296 := x.toBitVec.isLt
  have key := pw_arith (pw_case hs) hlt hX
  apply Int64.toInt_inj.mp
  rw [Int32.toInt_toInt64, hI, lI_toInt (by omega) (by omega), e3, key]
/-- the byte that the class puts at a place of twenty, of five ints -/
def cB (xs : Nat → Int32) (i : Nat) : Int64 := ((ush (xs (i / 4)) (iI ((24 - 8 * (i % 4) : Nat) : Int)) &&& 255).toInt64)
theorem mod4 (i : Nat) : i % 4 = 0 ∨ i % 4 = 1 ∨ i % 4 = 2 ∨ i % 4 = 3 := by omega
theorem cB_ok {xs : Nat → Int32} {i : Nat} : cB xs i = lI ((vp_nar .byte (((xs (i / 4)) >>> (iI ((24 - 8 * (i % 4) : Nat) : Int) &&& 31)).toInt8.toInt32)).toInt % 256) ∧ -128 ≤ (vp_nar .byte (((xs (i / 4)) >>> (iI ((24 - 8 * (i % 4) : Nat) : Int) &&& 31)).toInt8.toInt32)).toInt ∧ (vp_nar .byte (((xs (i / 4)) >>> (iI ((24 - 8 * (i % 4) : Nat) : Int) &&& 31)).toInt8.toInt32)).toInt ≤ 127 := by
  unfold cB
  rcases mod4 i with e | e | e | e <;> rw [e]
  · exact byteV (s := 24) (Or.inl rfl) rfl rfl
  · exact byteV (s := 16) (Or.inr (Or.inl rfl)) rfl rfl
  · exact byteV (s := 8) (Or.inr (Or.inr (Or.inl rfl))) rfl rfl
  · exact byteV (s := 0) (Or.inr (Or.inr (Or.inr rfl))) rfl rfl
theorem fB_sh : ∀ i : Nat, i < 20 → (24 - (8 * (irm (iI (i : Int)) 4))) = iI ((24 - 8 * (i % 4) : Nat) : Int) := by decide +kernel
theorem apB_29 {x s : Int32} {M : Mem} {n : Nat} (h : (M.1 27 1).toInt = n) (j : Nat) : (apB x s M).2 29 j = if j = n then ((ush x s) &&& 255).toInt64 else M.2 29 j := by
  unfold apB
  show (mSL M 29 (M.1 27 1).toInt.toNat _).2 29 j = _
  rw [h, mSL_2]
  by_cases q : j = n
  · rw [if_pos ⟨rfl, by omega⟩, if_pos q]
  · rw [if_neg (fun w => q (by omega)), if_neg q]
theorem apB_n {x s : Int32} {M : Mem} {n : Nat} (h : (M.1 27 1).toInt = n) (hn : n < 1000) : ((apB x s M).1 27 1).toInt = ((n + 1 : Nat) : Int) := by
  rw [apB_len, a32] <;> rw [li1] <;> omega
theorem ap4_29 {x : Int32} {M : Mem} {n : Nat} (h : (M.1 27 1).toInt = n) (hn : n ≤ 396) (j : Nat) : (ap4 x M).2 29 j = if n ≤ j ∧ j < n + 4 then ((ush x (iI ((24 - 8 * ((j - n) % 4) : Nat) : Int)) &&& 255).toInt64) else M.2 29 j := by
  have h1 := apB_n (x := x) (s := 24) h (by omega)
  have h2 := apB_n (x := x) (s := 16) h1 (by omega)
  have h3 := apB_n (x := x) (s := 8) h2 (by omega)
  unfold ap4
  rw [apB_29 h3, apB_29 h2, apB_29 h1, apB_29 h]
  by_cases c : n ≤ j ∧ j < n + 4
  · rw [if_pos c]
    have hj : j = n + 1 + 1 + 1 ∨ j = n + 1 + 1 ∨ j = n + 1 ∨ j = n := by omega
    rcases hj with rfl | rfl | rfl | rfl
    · rw [if_pos rfl, show (n + 1 + 1 + 1 - n) % 4 = 3 by omega]
      rfl
    · rw [if_neg (by omega), if_pos rfl, show (n + 1 + 1 - n) % 4 = 2 by omega]
      rfl
    · rw [if_neg (by omega), if_neg (by omega), if_pos rfl, show (n + 1 - n) % 4 = 1 by omega]
      rfl
    · rw [if_neg (by omega), if_neg (by omega), if_neg (by omega), if_pos rfl, show (j - j) % 4 = 0 by omega]
      rfl
  · rw [if_neg c, if_neg (by omega), if_neg (by omega), if_neg (by omega), if_neg (by omega)]
theorem ap4_n {x : Int32} {M : Mem} {n : Nat} (h : (M.1 27 1).toInt = n) (hn : n ≤ 396) : ((ap4 x M).1 27 1).toInt = ((n + 4 : Nat) : Int) := by
  rw [ap4_len (by omega) (by omega)]
  omega
theorem ap20_29 {a b c d e : Int32} {M : Mem} {n : Nat} (xs : Nat → Int32) (x0 : xs 0 = a) (x1 : xs 1 = b) (x2 : xs 2 = c) (x3 : xs 3 = d) (x4 : xs 4 = e) (h : (M.1 27 1).toInt = n) (hn : n ≤ 380) (j : Nat) : (ap4 e (ap4 d (ap4 c (ap4 b (ap4 a M))))).2 29 j = if n ≤ j ∧ j < n + 20 then cB xs (j - n) else M.2 29 j := by
  have h1 := ap4_n (x := a) h (by omega)
  have h2 := ap4_n (x := b) h1 (by omega)
  have h3 := ap4_n (x := c) h2 (by omega)
  have h4 := ap4_n (x := d) h3 (by omega)
  rw [ap4_29 h4 (by omega), ap4_29 h3 (by omega), ap4_29 h2 (by omega), ap4_29 h1 (by omega), ap4_29 h (by omega)]
  unfold cB
  by_cases c5 : n + 4 + 4 + 4 + 4 ≤ j ∧ j < n + 4 + 4 + 4 + 4 + 4
  · rw [if_pos c5, if_pos (by omega), show (j - n) / 4 = 4 by omega, x4, show (j - (n + 4 + 4 + 4 + 4)) % 4 = (j - n) % 4 by omega]
  rw [if_neg c5]
  by_cases c4 : n + 4 + 4 + 4 ≤ j ∧ j < n + 4 + 4 + 4 + 4
  · rw [if_pos c4, if_pos (by omega), show (j - n) / 4 = 3 by omega, x3, show (j - (n + 4 + 4 + 4)) % 4 = (j - n) % 4 by omega]
  rw [if_neg c4]
  by_cases c3 : n + 4 + 4 ≤ j ∧ j < n + 4 + 4 + 4
  · rw [if_pos c3, if_pos (by omega), show (j - n) / 4 = 2 by omega, x2, show (j - (n + 4 + 4)) % 4 = (j - n) % 4 by omega]
  rw [if_neg c3]
  by_cases c2 : n + 4 ≤ j ∧ j < n + 4 + 4
  · rw [if_pos c2, if_pos (by omega), show (j - n) / 4 = 1 by omega, x1, show (j - (n + 4)) % 4 = (j - n) % 4 by omega]
  rw [if_neg c2]
  by_cases c1 : n ≤ j ∧ j < n + 4
  · rw [if_pos c1, if_pos (by omega), show (j - n) / 4 = 0 by omega, x0]
  rw [if_neg c1, if_neg (by omega)]
theorem Y_feed {a b c d e : Int32} {M : Mem} (h : RY M) : wpO (F_KW_feed a b c d e M) (fun r1 => wpO (F_MO_feed a b c d e r1.2) (fun r2 => RY r2.2 ∧ r1.1 = r2.1)) := by
  refine wp2 (B := fun _ O => RelY O.2) (G_feed h.1) (fun r s e1 e2 => ?_) (fun r s p q => ⟨⟨p.1, q⟩, p.2⟩)
  obtain ⟨i, ra, t⟩ := h.1
  have h3 := i.2.2.1
  have h4 := i.2.2.2
  obtain ⟨y1, y2, y3⟩ := h.2
  rcases Int.lt_or_le 380 (M.1 94 5).toInt with q | q
  · rw [S_feed_no a b c d e M (by rw [t]; exact q) (by rw [t]; exact h4)] at e1
    cases e1
    rw [S_mfeed_no a b c d e M q h4] at e2
    cases e2
    exact ⟨y1, y2, y3⟩
  · obtain ⟨n, hn⟩ : ∃ n : Nat, (M.1 94 5).toInt = n := ⟨(M.1 94 5).toInt.toNat, by omega⟩
    have hn27 : (M.1 27 1).toInt = n := by rw [t, hn]
    obtain ⟨s1, s2⟩ := S_feed a b c d e M (by rw [t]; exact h3) (by rw [t]; exact q)
    have fr := T_KW_feed a b c d e M
    have by29 := fun j => ap20_29 (a := a) (b := b) (c := c) (d := d) (e := e) (M := M) (n := n) (fun k => (fivM a b c d e M).1 98 k) rfl rfl rfl rfl rfl hn27 (by omega) j
    rw [s1] at fr e1
    have e1' := Option.some.inj e1
    subst e1'
    have f2 := wpO_some fr
    dsimp only at f2 e2
    generalize hN : ap4 e (ap4 d (ap4 c (ap4 b (ap4 a M)))) = N at *
    have iN : InvR N := i.sm f2 (fun k q => by first | omega | (dsimp only at q; omega))
    have n5 : N.1 94 5 = M.1 94 5 := (f2 94 (by omega)).1 5
    obtain ⟨r1, r2, r3, r4, r5⟩ := wpO_of (S_mfeed a b c d e N n (by rw [n5, hn]) (by omega)) e2
    have fO := Q_MO_feed a b c d e N s e2
    have yN : RelY N ∨ True := Or.inr trivial
    have c1 : ∀ k j, k ≠ 27 → k ≠ 28 → k ≠ 29 → k ≤ 93 → s.2.1 k j = M.1 k j ∧ s.2.2 k j = M.2 k j := fun k j q1 q2 q3 q4 => ⟨(fO k j (by omega)).1.trans ((f2 k (by omega)).1 j), (fO k j (by omega)).2.trans ((f2 k (by omega)).2 j)⟩
    have w95 : ∀ k j, k = 95 ∨ k = 96 → s.2.1 k j = M.1 k j := fun k j q => (fO k j (by omega)).1.trans ((f2 k (by omega)).1 j)
    have w3 : s.2.1 94 3 = M.1 94 3 := (fO 94 3 (by omega)).1.trans ((f2 94 (by omega)).1 3)
    refine ⟨y1.cg i.1 (c1 1 6 (by decide) (by decide) (by decide) (by decide)).1 (c1 1 7 (by decide) (by decide) (by decide) (by decide)).1 (fun j _ => (c1 5 j (by decide) (by decide) (by decide) (by decide)).2) (fun j _ => (c1 7 j (by decide) (by decide) (by decide) (by decide)).2) (fun j _ => w95 95 j (Or.inl rfl)), fun qi => ?_, ?_, fun j hj => ?_⟩
    · rw [w3] at qi
      exact (y2 qi).cg (i.2.1 qi) (c1 14 6 (by decide) (by decide) (by decide) (by decide)).1 (c1 14 7 (by decide) (by decide) (by decide) (by decide)).1 (fun j _ => (c1 18 j (by decide) (by decide) (by decide) (by decide)).2) (fun j _ => (c1 20 j (by decide) (by decide) (by decide) (by decide)).2) (fun j _ => w95 96 j (Or.inr rfl))
    · rw [(c1 0 4 (by decide) (by decide) (by decide) (by decide)).1, y3.1, (fO 94 9 (by omega)).1, (f2 94 (by omega)).1 9]
    · have e5 : (s.2.1 94 5).toInt = ((n + 20 : Nat) : Int) := by
        rw [r2, n5, a32] <;> rw [li20] <;> omega
      rw [e5] at hj
      rw [(fO 29 j (by omega)).2, by29 j]
      by_cases c0 : n ≤ j
      · obtain ⟨k, rfl⟩ : ∃ k, j = n + k := ⟨j - n, by omega⟩
        have hk : k < 20 := by omega
        rw [if_pos ⟨by omega, by omega⟩, show n + k - n = k by omega, r3 k hk]
        unfold fB
        rw [fB_sh k hk]
        have e98 : ∀ u, (fivM a b c d e N).1 98 u = (fivM a b c d e M).1 98 u := fun u => by
          unfold fivM
          simp only [mSI_1]
          rw [(f2 98 (by omega)).1 u]
        rw [e98]
        exact cB_ok (xs := fun k => (fivM a b c d e M).1 98 k)
      · rw [if_neg (by omega)]
        have e97 : s.2.1 97 j = M.1 97 j := by
          rw [r4 97 j (by omega) (by omega)]
          unfold fivM
          rw [mI_cell (by decide), mI_cell (by decide), mI_cell (by decide), mI_cell (by decide), mI_cell (by decide), mI_cell (by decide), (f2 97 (by omega)).1 j]
        rw [e97]
        exact y3.2 j (by omega)
theorem Y_image {M : Mem} (h : RY M) : wpO (F_KW_image M) (fun N => wpO (F_MO_image N) RY) := by
  refine wp2 (B := fun _ O => RelY O) (G_image h.1) (fun N O e e2 => ?_) (fun r s p q => ⟨p, q⟩)
  obtain ⟨i, ra, t⟩ := h.1
  obtain ⟨y1, y2, y3⟩ := h.2
  have f := wpO_of (T_KW_image M) e
  have iN : InvR N := i.sm f (fun k q => by first | omega | (dsimp only at q; omega))
  obtain ⟨m1, m2, m3, m4⟩ := wpO_of (N_image (M := N)) e2
  have fO := Q_MO_image N O e2
  unfold F_KW_image at e
  obtain ⟨r1, e3, h1⟩ := wp_q (C_take (b := 14) (o := 1) (M := M) (by omega)) (fun a ha => wpO_of (T_Well_takeFrom 14 1 M) ha)
  rw [e3, bs] at e
  cases e
  obtain ⟨⟨k1, k2, k3, k4, k5, k6, k7⟩, f1⟩ := h1
  have c : ∀ k, ¬ (14 ≤ k ∧ k ≤ 26) → (∀ j, r1.1 k j = M.1 k j) ∧ ∀ j, r1.2 k j = M.2 k j := fun k hk => f1 k (fun q => hk (by omega))
  have cO : ∀ k j, k ≤ 93 → O.1 k j = (mSI r1 0 2 1).1 k j ∧ O.2 k j = r1.2 k j := fun k j hk => fO k j (by omega)
  have n1 : ∀ k j, k ≠ 0 → k ≤ 93 → O.1 k j = r1.1 k j := fun k j h0 hk => (cO k j hk).1.trans (mI_cell h0)
  have w95 : ∀ j, O.1 95 j = M.1 95 j := fun j => by
    rw [m2]
    exact (mI_cell (by decide)).trans ((c 95 (by omega)).1 j)
  have w94 : ∀ j, j ≠ 0 → j ≠ 3 → O.1 94 j = M.1 94 j := fun j q1 q2 => (fO 94 j (by omega)).1.trans ((mI_cell (by decide)).trans ((c 94 (by omega)).1 j))
  have w97 : ∀ j, O.1 97 j = M.1 97 j := fun j => (fO 97 j (by omega)).1.trans ((mI_cell (by decide)).trans ((c 97 (by omega)).1 j))
  refine ⟨y1.cg i.1 ((n1 1 6 (by decide) (by decide)).trans ((c 1 (by omega)).1 6)) ((n1 1 7 (by decide) (by decide)).trans ((c 1 (by omega)).1 7)) (fun j _ => (cO 5 j (by decide)).2.trans ((c 5 (by omega)).2 j)) (fun j _ => (cO 7 j (by decide)).2.trans ((c 7 (by omega)).2 j)) (fun j _ => w95 j), fun _ => y1.cg i.1 ((n1 14 6 (by decide) (by decide)).trans (k1 6 (by decide))) ((n1 14 7 (by decide) (by decide)).trans (k1 7 (by decide))) (fun j hj => (cO 18 j (by decide)).2.trans (k3 j (by omega))) (fun j hj => (cO 20 j (by decide)).2.trans (k4 j hj)) (fun j hj => ?_), y3.cg ?_ (w94 9 (by decide) (by decide)) (by rw [w94 5 (by decide) (by decide)]; exact Int.le_refl _) (fun j => (cO 29 j (by decide)).2.trans ((c 29 (by omega)).2 j)) w97⟩
  · rw [m1 j (by unfold idY at hj; omega)]
    exact (mI_cell (by decide)).trans ((c 95 (by omega)).1 j)
  · exact (cO 0 4 (by decide)).1.trans ((mI_ix (by decide)).trans ((c 0 (by omega)).1 4))
theorem Y_back {M : Mem} (h : RY M) : wpO (F_KW_back M) (fun r1 => wpO (F_MO_back r1.2) (fun r2 => RY r2.2 ∧ r1.1 = r2.1)) := by
  refine wp2 (B := fun _ O => RelY O.2) (G_back h.1) (fun r O e e2 => ?_) (fun r s p q => ⟨⟨p.1, q⟩, p.2⟩)
  obtain ⟨i, ⟨a1, a2, a3⟩, t⟩ := h.1
  obtain ⟨y1, y2, y3⟩ := h.2
  have fO := Q_MO_back r.2 O e2
  have nb := wpO_of (N_back (M := r.2)) e2
  unfold F_KW_back at e
  by_cases c0 : M.1 0 2 = 0
  · rw [if_pos c0] at e
    cases e
    dsimp only at nb
    rcases nb with ⟨-, rfl⟩ | ⟨q, -⟩
    · exact ⟨y1, y2, y3⟩
    · exact absurd (a2.symm.trans c0) q
  · rw [if_neg c0] at e
    have c3 : ¬ M.1 94 3 = 0 := fun q => c0 (a2.trans q)
    have hI := i.2.1 c3
    obtain ⟨r1, e3, h1⟩ := wp_q (C_take (b := 1) (o := 14) (M := M) (by omega)) (fun a ha => wpO_of (T_Well_takeFrom 1 14 M) ha)
    rw [e3, bs] at e
    cases e
    obtain ⟨⟨k1, k2, k3, k4, k5, k6, k7⟩, f1⟩ := h1
    dsimp only at nb fO
    have c : ∀ k, ¬ (1 ≤ k ∧ k ≤ 13) → (∀ j, r1.1 k j = M.1 k j) ∧ ∀ j, r1.2 k j = M.2 k j := fun k hk => f1 k (fun q => hk (by omega))
    have n94 := (c 94 (by omega)).1
    have n96 := (c 96 (by omega)).1
    rcases nb with ⟨q, -⟩ | ⟨-, q1, q2, q3, q4, q5⟩
    · rw [n94 3] at q
      exact absurd q c3
    · have cO : ∀ k j, k ≤ 93 → O.2.1 k j = r1.1 k j ∧ O.2.2 k j = r1.2 k j := fun k j hk => fO k j (by omega)
      have w94 : ∀ j, j ≠ 0 → O.2.1 94 j = M.1 94 j := fun j q1 => (fO 94 j (by omega)).1.trans (n94 j)
      refine ⟨(y2 c3).cg hI ((cO 1 6 (by decide)).1.trans (k1 6 (by decide))) ((cO 1 7 (by decide)).1.trans (k1 7 (by decide))) (fun j hj => (cO 5 j (by decide)).2.trans (k3 j (by omega))) (fun j hj => (cO 7 j (by decide)).2.trans (k4 j hj)) (fun j hj => ?_), fun _ => (y2 c3).cg hI ((cO 14 6 (by decide)).1.trans ((c 14 (by omega)).1 6)) ((cO 14 7 (by decide)).1.trans ((c 14 (by omega)).1 7)) (fun j _ => (cO 18 j (by decide)).2.trans ((c 18 (by omega)).2 j)) (fun j _ => (cO 20 j (by decide)).2.trans ((c 20 (by omega)).2 j)) (fun j _ => by rw [q3]; exact n96 j), y3.cg ((cO 0 4 (by decide)).1.trans ((c 0 (by omega)).1 4)) (w94 9 (by decide)) (by rw [w94 5 (by decide)]; exact Int.le_refl _) (fun j => (cO 29 j (by decide)).2.trans ((c 29 (by omega)).2 j)) (fun j => (fO 97 j (by omega)).1.trans ((c 97 (by omega)).1 j))⟩
      rw [q2 j (by unfold idY at hj; omega)]
      exact n96 j
