/-! ===== the best answer, the class's side: acts are bettered until none can be ===== -/
def sumI (N : Nat → Int) : Nat → Int
  | 0 => 0
  | n + 1 => sumI N n + N n
theorem sumI_le {N N' : Nat → Int} : ∀ n, (∀ m, m < n → N m ≤ N' m) → sumI N n ≤ sumI N' n := by
  intro n
  induction n with
  | zero => exact fun _ => Int.le_refl _
  | succ n ih =>
    intro h
    have h1 := ih (fun m hm => h m (by omega))
    have h2 := h n (by omega)
    show sumI N n + N n ≤ sumI N' n + N' n
    omega
theorem sumI_lt {N N' : Nat → Int} : ∀ n, (∀ m, m < n → N m ≤ N' m) → (∃ m, m < n ∧ N m < N' m) → sumI N n < sumI N' n := by
  intro n
  induction n with
  | zero =>
    intro _ h
    obtain ⟨m, h1, -⟩ := h
    exact absurd h1 (Nat.not_lt_zero _)
  | succ n ih =>
    intro h h0
    obtain ⟨m, hm, hl⟩ := h0
    have h2 := h n (by omega)
    show sumI N n + N n < sumI N' n + N' n
    by_cases c : m = n
    · rw [c] at hl
      have h1 := sumI_le (N := N) (N' := N') n (fun m hm => h m (by omega))
      omega
    · have h1 := ih (fun m hm => h m (by omega)) ⟨m, by omega, hl⟩
      omega
theorem sumI_ext {N N' : Nat → Int} (n : Nat) (h : ∀ m, m < n → N m = N' m) : sumI N n = sumI N' n := by
  have h1 := sumI_le (N := N) (N' := N') n (fun m hm => Int.le_of_eq (h m hm))
  have h2 := sumI_le (N := N') (N' := N) n (fun m hm => Int.le_of_eq (h m hm).symm)
  omega
def dec3 (c m : Nat) : Nat := if m = 0 then c % 3 else if m = 1 then c / 3 % 3 else c / 9 % 3
theorem dec3_lt {c m : Nat} : dec3 c m < 3 := by
  unfold dec3
  by_cases h : m = 0
  · rw [if_pos h]
    omega
  · rw [if_neg h]
    by_cases h2 : m = 1
    · rw [if_pos h2]
      omega
    · rw [if_neg h2]
      omega
theorem dec3_0 (m : Nat) : dec3 0 m = 0 := by
  unfold dec3
  by_cases h : m = 0
  · rw [if_pos h]
  · rw [if_neg h]
    by_cases h2 : m = 1
    · rw [if_pos h2]
    · rw [if_neg h2]
theorem cod3_ok {n : Nat} {f : Nat → Nat} (hn : n ≤ 3) (hf : ∀ m, m < n → f m < 3) : ∃ c, c < 27 ∧ ∀ m, m < n → dec3 c m = f m := by
  have g : ∀ m, (if m < n then f m else 0) < 3 := fun m => by
    by_cases c : m < n
    · rw [if_pos c]
      exact hf m c
    · rw [if_neg c]
      decide
  have g0 := g 0
  have g1 := g 1
  have g2 := g 2
  have e : ∀ m, m < n → (if m < n then f m else 0) = f m := fun m c => if_pos c
  have e0 := e 0
  have e1 := e 1
  have e2 := e 2
  generalize (if 0 < n then f 0 else 0) = a0 at *
  generalize (if 1 < n then f 1 else 0) = a1 at *
  generalize (if 2 < n then f 2 else 0) = a2 at *
  refine ⟨a0 + 3 * a1 + 9 * a2, by omega, fun m hm => ?_⟩
  unfold dec3
  have m3 : m = 0 ∨ m = 1 ∨ m = 2 := by omega
  rcases m3 with rfl | rfl | rfl
  · rw [if_pos rfl, ← e0 hm]
    omega
  · rw [if_neg (by decide), if_pos rfl, ← e1 hm]
    omega
  · rw [if_neg (by decide), if_neg (by decide), ← e2 hm]
    omega
/-- the last act below j that is worth more -/
def lp (a : Nat → Int) (d : Nat) : Nat → Nat
  | 0 => d
  | e + 1 => if 0 < a e then e else lp a d e
theorem lp_lt {a : Nat → Int} {d A : Nat} (hd : d < A) : ∀ j, j ≤ A → lp a d j < A := by
  intro j
  induction j with
  | zero => exact fun _ => hd
  | succ j ih =>
    intro h
    show (if 0 < a j then j else lp a d j) < A
    by_cases c : 0 < a j
    · rw [if_pos c]
      omega
    · rw [if_neg c]
      exact ih (by omega)
theorem lp_pos {a : Nat → Int} {d : Nat} : ∀ j, (∃ e, e < j ∧ 0 < a e) → 0 < a (lp a d j) := by
  intro j
  induction j with
  | zero =>
    intro h
    obtain ⟨e, h1, -⟩ := h
    exact absurd h1 (Nat.not_lt_zero _)
  | succ j ih =>
    intro h
    obtain ⟨e, h1, h2⟩ := h
    show 0 < a (if 0 < a j then j else lp a d j)
    by_cases c : 0 < a j
    · rw [if_pos c]
      exact c
    · rw [if_neg c]
      refine ih ⟨e, ?_, h2⟩
      by_cases q : e = j
      · rw [q] at h2
        exact absurd h2 c
      · omega
theorem lp_none {a : Nat → Int} {d : Nat} : ∀ j, (∀ e, e < j → ¬ 0 < a e) → lp a d j = d := by
  intro j
  induction j with
  | zero => exact fun _ => rfl
  | succ j ih =>
    intro h
    show (if 0 < a j then j else lp a d j) = d
    rw [if_neg (h j (by omega))]
    exact ih (fun e he => h e (by omega))
theorem lp_nn {a : Nat → Int} {d : Nat} (h : a d = 0) : ∀ j, 0 ≤ a (lp a d j) := by
  intro j
  induction j with
  | zero =>
    show 0 ≤ a d
    rw [h]
    exact Int.le_refl _
  | succ j ih =>
    show 0 ≤ a (if 0 < a j then j else lp a d j)
    by_cases c : 0 < a j
    · rw [if_pos c]
      omega
    · rw [if_neg c]
      exact ih
abbrev dW (W : Nat → Int32) : Int := dAq (W 1).toInt (W 2).toInt
abbrev nW (W : Nat → Int32) (M : Mem) : Nat → Int := nA 53 (W 1).toInt (W 2).toInt M
abbrev avW (W : Nat → Int32) (pr w : Nat) (V : Nat → Int) : Nat → Nat → Int := adv (nxB W w) (gB W pr w) (W 1).toInt (W 2).toInt (dAq (W 1).toInt (W 2).toInt) V
abbrev PEW (W : Nat → Int32) (pr w : Nat) (f : Nat → Nat) (V : Nat → Int) : Prop := PE (mo W w) (nxB W w) (gB W pr w) (W 1).toInt (W 2).toInt (dAq (W 1).toInt (W 2).toInt) f V
theorem KN.sm {T : Nat → Prop} {W : Nat → Int32} {pr w : Nat} {f : Nat → Nat} {M N : Mem} (h : KN W pr w f M) (fr : Same T M N) (hs : ∀ k, T k → ¬ (k = 1 ∨ k = 3 ∨ k = 5 ∨ k = 7 ∨ k = 95 ∨ k = 52 ∨ k = 53 ∨ k = 55 ∨ k = 57 ∨ k = 59 ∨ k = 61)) : KN W pr w f N ∧ nW W N = nW W M := by
  obtain ⟨h1, h2, h3⟩ := h
  have e : ∀ k, (k = 53 ∨ k = 55 ∨ k = 57 ∨ k = 59 ∨ k = 61) → ∀ j, N.2 k j = M.2 k j := fun k hk => (fr k (fun q => hs k q (by omega))).2
  have e59 : ∀ j, N.2 59 j = M.2 59 j := e 59 (by omega)
  have e61 : ∀ j, N.2 61 j = M.2 61 j := e 61 (by omega)
  refine ⟨⟨h1.sm fr (fun k q w => hs k q (by omega)), h2.of (fun k j hk => e k (by omega) j), fun s hs => (h3 s hs).cg (e61 _) (e61 _) (fun pe _ => e59 _) (fun pe _ => e59 _)⟩, ?_⟩
  have u1 : ∀ s, uM 53 N s 0 = uM 53 M s 0 := fun s => congrArg Int64.toInt (e59 _)
  have u2 : ∀ s, dM 53 N s = dM 53 M s := fun s => congrArg Int64.toInt (e61 _)
  funext s
  show nA 53 (W 1).toInt (W 2).toInt N s = nA 53 (W 1).toInt (W 2).toInt M s
  unfold nA
  rw [u1, u2]
theorem KN.pe {W : Nat → Int32} {pr w : Nat} {f : Nat → Nat} {M : Mem} (h : KN W pr w f M) (hw : (w : Int) < (W 5).toInt) (hf : ∀ m, m < mo W w → f m < aN W) : PEW W pr w f (nW W M) := fun m hm => by
  have cw := h.1.1
  have mk := (cw.wk hw).moK
  have a3 := aN3 cw
  obtain ⟨-, -, p1, pq, q9⟩ := cw.pq
  have hx : ∀ s, s < mo W w → nxB W w s (f s) < mo W w := fun s hs => nxB_lt cw hw hs (by have := hf s hs; omega)
  have e := nA_eq p1 pq mk.2.1 hx (h.2.2 m hm) (h.2.2 _ (hx m hm))
  have e2 : (if (0 : Nat) = 0 then gB W pr w m (f m) else 0) = gB W pr w m (f m) := if_pos rfl
  rw [e2] at e
  exact e
theorem C_orderA {W : Nat → Int32} {pr w m e : Nat} {f : Nat → Nat} {M : Mem} (h : KN W pr w f M) (hp : pr < 2) (hw : (w : Int) < (W 5).toInt) (hf : ∀ m, m < mo W w → f m < aN W) (hm : m < mo W w) (he : e < 3) : F_Answer_orderOf (iI (m : Int)) (iI (e : Int)) M = some (iI (Int.sign (avW W pr w (nW W M) m e))) := by
  have cw := h.1.1
  have mk := (cw.wk hw).moK
  have a3 := aN3 cw
  obtain ⟨-, -, p1, pq, q9⟩ := cw.pq
  have gb := gB_b (pr := pr) cw hw hm he
  have nl := nxB_lt cw hw hm he
  have hC := AWS (pr := pr) cw hw hf
  have hx : ∀ s, s < mo W w → nxB W w s (f s) < mo W w := fun s hs => nxB_lt cw hw hs (by have := hf s hs; omega)
  have e1 := C_orderG (pe := 0) (G := gB W pr w m e) hC h.2.1 (h.2.2 m hm) (h.2.2 _ nl) (by decide) gb.1 gb.2
  rw [sgn_adv p1 pq mk.2.1 hx (h.2.2 m hm) (h.2.2 _ nl)] at e1
  unfold F_Answer_orderOf
  rw [C_bringsIn h.1 hp hw hm he, bs, h.1.2.2.1, C_nextOf cw hw hm he, bs, show gz W w m e = nxB W w m e from rfl, show (0 : Int32) = iI ((0 : Nat) : Int) from rfl, e1, bs]
  rfl
/-- the policy on the way: moods below k are done, of mood k the acts below j -/
def betP (a : Nat → Nat → Int) (f : Nat → Nat) (A k j m : Nat) : Nat := lp (a m) (f m) (if m < k then A else if m = k then j else 0)
theorem betP_s {a : Nat → Nat → Int} {f : Nat → Nat} {A k j m : Nat} : betP a f A k (j + 1) m = if m = k ∧ 0 < a k j then j else betP a f A k j m := by
  unfold betP
  by_cases c : m < k
  · rw [if_pos c, if_pos c, if_neg (fun w => by omega)]
  · by_cases c2 : m = k
    · rw [c2, if_neg (Nat.lt_irrefl k), if_neg (Nat.lt_irrefl k), if_pos rfl, if_pos rfl]
      show (if 0 < a k j then j else lp (a k) (f k) j) = _
      by_cases c3 : 0 < a k j
      · rw [if_pos c3, if_pos ⟨rfl, c3⟩]
      · rw [if_neg c3, if_neg (fun w => c3 w.2)]
    · rw [if_neg c, if_neg c, if_neg c2, if_neg c2, if_neg (fun w => c2 w.1)]
theorem betP_nx {a : Nat → Nat → Int} {f : Nat → Nat} {A k m : Nat} : betP a f A k A m = betP a f A (k + 1) 0 m := by
  have e : (if m < k then A else if m = k then A else 0) = (if m < k + 1 then A else if m = k + 1 then 0 else 0) := by
    by_cases c : m < k
    · rw [if_pos c, if_pos (by omega)]
    · by_cases c2 : m = k
      · rw [if_neg c, if_pos c2, if_pos (by omega)]
      · rw [if_neg c, if_neg c2, if_neg (by omega)]
        by_cases c3 : m = k + 1
        · rw [if_pos c3]
        · rw [if_neg c3]
  unfold betP
  rw [e]
theorem betP_0 {a : Nat → Nat → Int} {f : Nat → Nat} {A m : Nat} : betP a f A 0 0 m = f m := by
  have e : (if m < 0 then A else if m = 0 then 0 else 0) = 0 := by
    rw [if_neg (Nat.not_lt_zero m)]
    by_cases c : m = 0
    · rw [if_pos c]
    · rw [if_neg c]
  unfold betP
  rw [e]
  rfl
theorem betP_e {a : Nat → Nat → Int} {f : Nat → Nat} {A k m : Nat} (h : m < k) : betP a f A k 0 m = lp (a m) (f m) A := by
  unfold betP
  rw [if_pos h]
theorem C_isBettered {W : Nat → Int32} {pr w : Nat} {f : Nat → Nat} {M : Mem} (h : KN W pr w f M) (hr : RWp W w f M) (hp : pr < 2) (hw : (w : Int) < (W 5).toInt) : wpO (F_Answer_isBettered M) (fun r => Same (fun k => k = 67) M r.2 ∧ (∀ m, m < mo W w → r.2.2 67 m = lI (lp (avW W pr w (nW W M) m) (f m) (aN W) : Int)) ∧ (r.1 = true ↔ ∃ m e, (m < mo W w ∧ e < aN W) ∧ 0 < avW W pr w (nW W M) m e)) := by
  have cw := h.1.1
  have mk := (cw.wk hw).moK
  have a3 := aN3 cw
  have ord : ∀ (m e : Nat) (N : Mem), Same (fun k => k = 67) M N → m < mo W w → e < 3 → F_Answer_orderOf (iI (m : Int)) (iI (e : Int)) N = some (iI (Int.sign (avW W pr w (nW W M) m e))) := fun m e N fN hm he => by
    obtain ⟨hN, eN⟩ := h.sm fN (fun k q => by omega)
    rw [C_orderA hN hp hw (fun m hm => (hr m hm).1) hm he, eN]
  generalize avW W pr w (nW W M) = a at *
  have hA0 : ∀ N : Mem, Same (fun k => k = 67) M N → N.1 1 0 = iI (aN W : Int) := fun N fN => by
    rw [(fN 1 (by decide)).1 0, cw.2.2.1.1]
    exact a3.2.2
  have h525 : ∀ N : Mem, Same (fun k => k = 67) M N → N.1 52 5 = iI (mo W w : Int) := fun N fN => by
    rw [(fN 52 (by decide)).1 5]
    exact h.1.2.2.2
  unfold F_Answer_isBettered F_Answer_isBettered_l4
  refine wp_bind (Ψ := fun r => Same (fun k => k = 67) M r.2 ∧ (∀ m, m < mo W w → r.2.2 67 m = lI (lp (a m) (f m) (aN W) : Int)) ∧ (r.1 = true ↔ ∃ m e, (m < mo W w ∧ e < aN W) ∧ 0 < a m e)) ?_ (fun r hr => wp_some hr)
  refine wp_iterS (P := fun (k : Nat) (z : Bool × Int32 × Mem) => z.2.1 = iI (k : Int) ∧ k ≤ mo W w ∧ Same (fun k => k = 67) M z.2.2 ∧ (∀ m, m < mo W w → z.2.2.2 67 m = lI (betP a f (aN W) k 0 m : Int)) ∧ (z.1 = true ↔ ∃ m e, (m < k ∧ e < aN W) ∧ 0 < a m e)) (mo W w) ?_ FUEL (false, 0, M) ⟨rfl, by omega, Same.rfl', fun m hm => by rw [betP_0]; exact (hr m hm).2, ⟨(fun q => nomatch q), fun ⟨m, e, q, _⟩ => absurd q.1 (Nat.not_lt_zero m)⟩⟩ (FUEL_big (by omega))
  rintro k ⟨z1, z2, N⟩ hk ⟨e2, -, fN, nv, nb⟩
  dsimp only at e2 fN nv nb
  subst e2
  unfold F_Answer_isBettered_b4
  dsimp only
  rw [h525 N fN]
  refine wp_if (fun c => wp_some ?_) (fun c => ?_)
  · rw [iI_le (by omega) (by omega) (by omega) (by omega)] at c
    have ek : k = mo W w := by omega
    subst ek
    exact ⟨fN, fun m hm => by rw [nv m hm, betP_e hm], nb⟩
  rw [iI_le (by omega) (by omega) (by omega) (by omega)] at c
  have hkn : k < mo W w := by omega
  unfold F_Answer_isBettered_l14
  refine wp_bind (Ψ := fun r => Same (fun k => k = 67) M r.2 ∧ (∀ m, m < mo W w → r.2.2 67 m = lI (betP a f (aN W) (k + 1) 0 m : Int)) ∧ (r.1 = true ↔ ∃ m e, (m < k + 1 ∧ e < aN W) ∧ 0 < a m e)) ?_ (fun r hr => wp_some ⟨by omega, iI_succ k, by omega, hr⟩)
  refine wp_iterS (P := fun (j : Nat) (z : Bool × Int32 × Mem) => z.2.1 = iI (j : Int) ∧ j ≤ aN W ∧ Same (fun k => k = 67) M z.2.2 ∧ (∀ m, m < mo W w → z.2.2.2 67 m = lI (betP a f (aN W) k j m : Int)) ∧ (z.1 = true ↔ ∃ m e, ((m < k ∧ e < aN W) ∨ (m = k ∧ e < j)) ∧ 0 < a m e)) (aN W) ?_ FUEL (z1, 0, N) ⟨rfl, by omega, fN, nv, nb.trans ⟨fun ⟨m, e, q, q2⟩ => ⟨m, e, Or.inl q, q2⟩, fun ⟨m, e, q, q2⟩ => ⟨m, e, by omega, q2⟩⟩⟩ (FUEL_big (by omega))
  rintro j ⟨y1, y2, O⟩ hj ⟨e2, -, fO, ov, ob⟩
  dsimp only at e2 fO ov ob
  subst e2
  unfold F_Answer_isBettered_b14
  dsimp only
  rw [hA0 O fO]
  refine wp_if (fun c2 => wp_some ?_) (fun c2 => ?_)
  · rw [iI_le (by omega) (by omega) (by omega) (by omega)] at c2
    have ej : j = aN W := by omega
    subst ej
    exact ⟨fO, fun m hm => by rw [ov m hm, betP_nx], ob.trans ⟨fun ⟨m, e, q, q2⟩ => ⟨m, e, by omega, q2⟩, fun ⟨m, e, q, q2⟩ => ⟨m, e, by omega, q2⟩⟩⟩
  rw [iI_le (by omega) (by omega) (by omega) (by omega)] at c2
  rw [ord k j O fO hkn (by omega), bs]
  refine wp_if (fun c3 => ?_) (fun c3 => ?_)
  · have c4 := sgn_le.mp c3
    refine wp_some ⟨by omega, iI_succ j, by omega, fO, fun m hm => ?_, ob.trans ⟨fun ⟨m, e, q, q2⟩ => ⟨m, e, by omega, q2⟩, fun ⟨m, e, q, q2⟩ => ⟨m, e, ?_, q2⟩⟩⟩
    · show O.2 67 m = _
      rw [betP_s, if_neg (fun w => c4 w.2)]
      exact ov m hm
    · by_cases q3 : m = k ∧ e = j
      · rw [q3.1, q3.2] at q2
        exact absurd q2 c4
      · omega
  · have c4 : 0 < a k j := Decidable.not_not.mp (fun w => c3 (sgn_le.mpr w))
    rw [V_Row_put (by omega) (by omega) (by decide), bs, show ((k : Nat) : Int).toNat = k from rfl, l64n _ (by omega)]
    refine wp_some ⟨by omega, iI_succ j, by omega, fO.sL rfl, fun m hm => ?_, ⟨fun _ => ⟨k, j, by omega, c4⟩, fun _ => rfl⟩⟩
    show (mSL O 67 k (lI (j : Int))).2 67 m = _
    rw [betP_s]
    by_cases q : m = k
    · rw [if_pos ⟨q, c4⟩, q, mL_hit]
    · rw [if_neg (fun w => q w.1), mL_ix q]
      exact ov m hm
theorem C_lookA {W : Nat → Int32} {pr w : Nat} {M : Mem} (h : CW W M) (hp : pr < 2) (hw : (w : Int) < (W 5).toInt) : wpO (F_Answer_look (iI (pr : Int)) (iI (w : Int)) M) (fun N => ∃ f, KN W pr w f N ∧ RWp W w f N ∧ ∀ m e, m < mo W w → e < aN W → avW W pr w (nW W N) m e ≤ 0) := by
  have mk := (h.wk hw).moK
  have a3 := aN3 h
  obtain ⟨-, -, p1, pq, q9⟩ := h.pq
  unfold F_Answer_look
  have s2 : Same (fun k => k = 52) M (mSI (mSI M 52 3 (iI (pr : Int))) 52 4 (iI (w : Int))) := Same.trans (M1 := mSI M 52 3 (iI (pr : Int))) (Same.sI (S := fun k => k = 52) Same.rfl' rfl) (Same.sI (S := fun k => k = 52) Same.rfl' rfl)
  have e3 : (mSI (mSI M 52 3 (iI (pr : Int))) 52 4 (iI (w : Int))).1 52 3 = iI (pr : Int) := by rw [mI_ix (by decide), mI_hit]
  have e4 : (mSI (mSI M 52 3 (iI (pr : Int))) 52 4 (iI (w : Int))).1 52 4 = iI (w : Int) := mI_hit
  generalize mSI (mSI M 52 3 (iI (pr : Int))) 52 4 (iI (w : Int)) = M2 at *
  have cw2 := h.sm s2 (fun k q => by omega)
  rw [e4, C_moodsOf cw2 hw, bs, C_min3 mk.2.1, bs]
  have s5 : Same (fun k => k = 52) M (mSI M2 52 5 (iI (mo W w : Int))) := s2.trans (Same.sI (S := fun k => k = 52) Same.rfl' rfl)
  have g3 : (mSI M2 52 5 (iI (mo W w : Int))).1 52 3 = iI (pr : Int) := (mI_ix (by decide)).trans e3
  have g4 : (mSI M2 52 5 (iI (mo W w : Int))).1 52 4 = iI (w : Int) := (mI_ix (by decide)).trans e4
  have g5 : (mSI M2 52 5 (iI (mo W w : Int))).1 52 5 = iI (mo W w : Int) := mI_hit
  generalize mSI M2 52 5 (iI (mo W w : Int)) = M5 at *
  clear e3 e4 s2 cw2
  have aw5 : AW W pr w M5 := ⟨h.sm s5 (fun k q => by omega), g3, g4, g5⟩
  refine wp_bind (T_Row_setAllQ 67 3 0 M5) (fun r3 h3 => ?_)
  obtain ⟨f3, c3⟩ := h3
  have aw3 : AW W pr w r3 := aw5.sm f3 (fun k q => by omega)
  have rw3 : RWp W w (dec3 0) r3 := fun m hm => by
    rw [dec3_0]
    refine ⟨by omega, ?_⟩
    rw [c3 m (by omega) (by decide)]
    rfl
  refine wp_bind (C_reckonA aw3 rw3 hp hw) (fun r4 h4 => ?_)
  unfold F_Answer_look_l43
  obtain ⟨SV, hSV⟩ : ∃ SV : Nat → Int, ∀ c N, PEW W pr w (dec3 c) N → sumI N (mo W w) = SV c := by
    have ex : ∀ c, ∃ N, PEW W pr w (dec3 c) N := fun c => PE_ex (nx := fun m => nxB W w m (dec3 c m)) (g := fun m => gB W pr w m (dec3 c m)) p1 pq (by omega) mk.2.1 (fun s hs => nxB_lt h hw hs dec3_lt) (fun s hs => gB_b h hw hs dec3_lt)
    exact ⟨fun c => sumI (Classical.choose (ex c)) (mo W w), fun c N hN => sumI_ext _ (PE.uq p1 pq (fun m hm => nxB_lt h hw hm dec3_lt) hN (Classical.choose_spec (ex c)))⟩
  refine wp_bind (Ψ := fun N => ∃ f, KN W pr w f N ∧ RWp W w f N ∧ ∀ m e, m < mo W w → e < aN W → avW W pr w (nW W N) m e ≤ 0) ?_ (fun N hN => wp_some hN)
  refine wp_iterS (P := fun (k : Nat) (z : Int32 × Mem) => z.1 = iI (k : Int) ∧ ∃ C : Nat → Nat, (∀ i, i ≤ k → C i < 27) ∧ (∀ i j, i < j → j ≤ k → SV (C i) < SV (C j)) ∧ KN W pr w (dec3 (C k)) z.2 ∧ RWp W w (dec3 (C k)) z.2) 27 ?_ FUEL (0, r4) ⟨rfl, fun _ => 0, fun _ _ => (by decide : (0 : Nat) < 27), fun i j h1 h2 => absurd h1 (by omega), h4.1, h4.2⟩ (FUEL_big (by decide))
  rintro k ⟨z1, N⟩ hk ⟨e1, C, c1, c2, kN, rN⟩
  dsimp only at e1 kN rN
  subst e1
  have hinj := pig 27 (k + 1) C (fun i hi => c1 i (by omega)) (fun i j hi hj e => by
    rcases Nat.lt_trichotomy i j with c | c | c
    · have := c2 i j c (by omega)
      rw [e] at this
      omega
    · exact c
    · have := c2 j i c (by omega)
      rw [e] at this
      omega)
  have hf : ∀ m, m < mo W w → dec3 (C k) m < aN W := fun m hm => (rN m hm).1
  unfold F_Answer_look_b43
  dsimp only
  refine wp_f (by rw [show (100 : Int32) = iI 100 from rfl, iI_le (by omega) (by omega) (by omega) (by omega)]; omega) ?_
  refine wp_bind (C_isBettered kN rN hp hw) (fun r hr => ?_)
  obtain ⟨fr, pl, bt⟩ := hr
  obtain ⟨kr, en⟩ := kN.sm fr (fun k q => by omega)
  have pN := kN.pe hw hf
  refine wp_if (fun c => ?_) (fun c => wp_some ⟨dec3 (C k), kr, fun m hm => ⟨hf m hm, ?_⟩, fun m e hm he => ?_⟩)
  · have fA : ∀ m, m < mo W w → lp (avW W pr w (nW W N) m) (dec3 (C k) m) (aN W) < aN W := fun m hm => lp_lt (hf m hm) _ (Nat.le_refl _)
    obtain ⟨c', k1, k2⟩ : ∃ c', c' < 27 ∧ ∀ m, m < mo W w → dec3 c' m = lp (avW W pr w (nW W N) m) (dec3 (C k) m) (aN W) := cod3_ok (f := fun m => lp (avW W pr w (nW W N) m) (dec3 (C k) m) (aN W)) mk.2.1 (fun m hm => by
      have := fA m hm
      show lp (avW W pr w (nW W N) m) (dec3 (C k) m) (aN W) < 3
      omega)
    have f2 : ∀ m, m < mo W w → dec3 c' m < aN W := fun m hm => by
      rw [k2 m hm]
      exact fA m hm
    have rr : RWp W w (dec3 c') r.2 := fun m hm => ⟨f2 m hm, by rw [k2 m hm]; exact pl m hm⟩
    refine wp_bind (C_reckonA kr.1 rr hp hw) (fun r6 h6 => ?_)
    have p6 := h6.1.pe hw f2
    have hx2 : ∀ m, m < mo W w → nxB W w m (dec3 c' m) < mo W w := fun m hm => nxB_lt h hw hm dec3_lt
    have ad : ∀ m, m < mo W w → 0 ≤ avW W pr w (nW W N) m (dec3 c' m) := fun m hm => by
      rw [k2 m hm]
      exact lp_nn (PE.adv0 pN hm) _
    have up : SV (C k) < SV c' := by
      rw [← hSV _ _ pN, ← hSV _ _ p6]
      refine sumI_lt _ (PE.up p1 pq hx2 p6 ad) ?_
      obtain ⟨m, e, hme, hpos⟩ := bt.mp c
      refine ⟨m, hme.1, PE.up1 p1 pq hx2 p6 ad hme.1 ?_⟩
      rw [k2 m hme.1]
      exact lp_pos _ ⟨e, hme.2, hpos⟩
    have ek : (fun i => if i ≤ k then C i else c') (k + 1) = c' := if_neg (by omega)
    refine wp_some ⟨by omega, iI_succ k, fun i => if i ≤ k then C i else c', fun i hi => ?_, fun i j h1 h2 => ?_, ?_, ?_⟩
    · show (if i ≤ k then C i else c') < 27
      by_cases q : i ≤ k
      · rw [if_pos q]
        exact c1 i q
      · rw [if_neg q]
        exact k1
    · show SV (if i ≤ k then C i else c') < SV (if j ≤ k then C j else c')
      rw [if_pos (show i ≤ k by omega)]
      by_cases q : j ≤ k
      · rw [if_pos q]
        exact c2 i j h1 q
      · rw [if_neg q]
        by_cases q2 : i = k
        · rw [q2]
          exact up
        · have := c2 i k (by omega) (Nat.le_refl k)
          omega
    · rw [ek]
      exact h6.1
    · rw [ek]
      exact h6.2
  · rw [pl m hm, lp_none _ (fun e he w => c (bt.mpr ⟨m, e, ⟨hm, he⟩, w⟩))]
  · rw [en]
    exact Int.not_lt.mp (fun w => c (bt.mpr ⟨m, e, ⟨hm, he⟩, w⟩))
theorem sgn_z {X : Int} : iI (Int.sign X) = 0 ↔ X = 0 := by
  rw [show (0 : Int32) = iI 0 from rfl]
  rcases Int.lt_trichotomy X 0 with h | h | h
  · rw [sgn_of.2.1 h, iI_eq (by decide) (by decide) (by decide) (by decide)]
    omega
  · rw [sgn_of.2.2 h, iI_eq (by decide) (by decide) (by decide) (by decide)]
    omega
  · rw [sgn_of.1 h, iI_eq (by decide) (by decide) (by decide) (by decide)]
    omega
theorem C_actInA {W : Nat → Int32} {pr w m : Nat} {f : Nat → Nat} {M : Mem} (h : KN W pr w f M) (hr : RWp W w f M) (hp : pr < 2) (hw : (w : Int) < (W 5).toInt) (hm : m < mo W w) : wpO (F_Answer_actIn (iI (m : Int)) M) (fun r => ∃ e0 : Nat, e0 < aN W ∧ r = iI (e0 : Int) ∧ avW W pr w (nW W M) m e0 = 0 ∧ ∀ e, e < e0 → avW W pr w (nW W M) m e ≠ 0) := by
  have cw := h.1.1
  have mk := (cw.wk hw).moK
  have a3 := aN3 cw
  have hf : ∀ m, m < mo W w → f m < aN W := fun m hm => (hr m hm).1
  have z := PE.adv0 (h.pe hw hf) hm
  unfold F_Answer_actIn F_Answer_actIn_l2
  refine wp_bind (Ψ := fun q => match q with | .inl r => ∃ e0 : Nat, e0 < aN W ∧ r = iI (e0 : Int) ∧ avW W pr w (nW W M) m e0 = 0 ∧ ∀ e, e < e0 → avW W pr w (nW W M) m e ≠ 0 | .inr _ => False) ?_ (fun q hq => by
    rcases q with q | q
    · exact wp_some hq
    · exact hq.elim)
  refine wp_iterS (P := fun (k : Nat) (z : Int32) => z = iI (k : Int) ∧ ∀ e, e < k → avW W pr w (nW W M) m e ≠ 0) (aN W) ?_ FUEL 0 ⟨rfl, fun e q => absurd q (Nat.not_lt_zero e)⟩ (FUEL_big (by omega))
  rintro k z' hk ⟨rfl, hz⟩
  unfold F_Answer_actIn_b2
  rw [cw.2.2.1.1, a3.2.2]
  refine wp_if (fun c => ?_) (fun c => ?_)
  · rw [iI_le (by omega) (by omega) (by omega) (by omega)] at c
    have := hf m hm
    exact absurd z (hz (f m) (by omega))
  rw [iI_le (by omega) (by omega) (by omega) (by omega)] at c
  rw [C_orderA h hp hw hf hm (by omega), bs]
  refine wp_if (fun c2 => wp_some ⟨k, by omega, rfl, sgn_z.mp c2, hz⟩) (fun c2 => wp_some ⟨by omega, iI_succ k, fun e he => ?_⟩)
  by_cases q : e = k
  · rw [q]
    exact fun w => c2 (sgn_z.mpr w)
  · exact hz e (by omega)
theorem C_tellA {W : Nat → Int32} {pr w m o : Nat} {f : Nat → Nat} {M : Mem} (h : KN W pr w f M) (hw : (w : Int) < (W 5).toInt) (hf : ∀ m, m < mo W w → f m < aN W) (hm : m < mo W w) : F_Answer_tellWorth o (iI (m : Int)) M = some (mSL (mSL M o 0 (lI (rU (nW W M m) (dW W)))) o 1 (lI (rD (nW W M m) (dW W)))) := by
  have cw := h.1.1
  have mk := (cw.wk hw).moK
  have a3 := aN3 cw
  obtain ⟨-, -, p1, pq, q9⟩ := cw.pq
  have hC := AWS (pr := pr) cw hw hf
  have hx : ∀ s, s < mo W w → nxB W w s (f s) < mo W w := fun s hs => nxB_lt cw hw hs (by have := hf s hs; omega)
  have hs := h.2.2 m hm
  have red := nA_red p1 pq mk.2.1 hx hs
  have hd := hs.d9 hC
  obtain ⟨h1, h2, h3, h4, h5, h6⟩ := hs
  have hb := fb_num (by omega) (by omega) (h6 0 (by decide)) (by omega)
  unfold F_Answer_tellWorth F_Chain_tellWorth
  have eu : M.2 59 (2 * m + 0) = lI (uM 53 M m 0) := (lI_of _).symm
  have ed : M.2 61 m = lI (dM 53 M m) := (lI_of _).symm
  rw [show (0 : Int32) = iI ((0 : Nat) : Int) from rfl, ix2, V_Row_at (by omega) (by omega) (by decide), bs, V_Row_at (by omega) (by omega) (by decide), bs]
  show ((F_Fraction_be o (M.2 59 (2 * m + 0)) (M.2 61 m) M).bind fun r3 => some r3).bind (fun r1 => some r1) = _
  rw [eu, ed, C_be (by omega) (by omega) h5 (by omega), bs, bs, red.1, red.2]
