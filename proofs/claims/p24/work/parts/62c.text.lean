/-! ===== the class's reader of a text: seen, moods, the way ===== -/
def TXc (a : Nat → Int) (g : GoT) (M : Mem) : Prop := (∀ m, m < 3 → M.2 31 (1 + 4 * m) = lI (a m)) ∧ ∀ m s, m < 3 → s < 3 → M.2 31 (2 + 4 * m + s) = lI (g m s)
def NMc (L : NaT) (M : Mem) : Prop := ∀ v : Nat, v < 3 → M.2 33 v = lI (fs L v)
/-- what is named: places up to n, numbers -/
def NMb (L : NaT) (n : Nat) : Prop := upL L ∧ ∀ q, q ∈ L → q.2 < n ∧ 0 ≤ q.1 ∧ q.1 ≤ 2
/-- bounds of acts and of where it goes -/
def AGb (a : Nat → Int) (g : GoT) : Prop := (∀ m, 0 ≤ a m ∧ a m ≤ 2) ∧ ∀ m s, 0 ≤ g m s ∧ g m s ≤ 2
theorem AGb.g {a : Nat → Int} {g : GoT} {m : Nat} {seen to : Int} (h : AGb a g) (h0 : 0 ≤ to) (h2 : to ≤ 2) : AGb a (upG g m seen to) := by
  refine ⟨h.1, fun m2 s => ?_⟩
  unfold upG
  by_cases c : m2 = m ∧ (seen = -1 ∨ (s : Int) = seen)
  · rw [if_pos c]
    exact ⟨h0, h2⟩
  · rw [if_neg c]
    exact h.2 m2 s
theorem AGb.a {a : Nat → Int} {g : GoT} {m : Nat} {v : Int} (h : AGb a g) (h0 : 0 ≤ v) (h2 : v ≤ 2) : AGb (upA a m v) g := by
  refine ⟨fun m2 => ?_, h.2⟩
  unfold upA
  by_cases c : m2 = m
  · rw [if_pos c]
    exact ⟨h0, h2⟩
  · rw [if_neg c]
    exact h.1 m2
theorem C_named {α : Type} {t : Nat → Int} {n p v : Nat} {L : NaT} {M : Mem} {K : Mem → Option α} {Φ : α → Prop} (hn : n ≤ 400) (hN : NMc L M) (hb : NMb L n) (h7 : M.1 27 7 = iI (v : Int)) (hv : v < 3) (h5 : M.1 27 5 = iI ((sk t n p : Nat) : Int)) (hs : sk t n p < n) (hK : ∀ N : Mem, N.1 = M.1 → NMc (L ++ [((v : Int), sk t n p)]) N → (∀ k j, k ≠ 33 → N.2 k j = M.2 k j) → wpO (K N) Φ) : wpO ((F_Row_at 33 3 (M.1 27 7) M).bind fun r6 => if r6 = ((-1)) then (F_Row_put 33 3 (M.1 27 7) ((M.1 27 5).toInt64) M).bind fun r9 => K r9 else K M) Φ := by
  have hf := fs_b L (v : Int) (fun q hq => by have := hb.2 q hq; omega)
  rw [h7, V_Row_at (by omega) (by omega) (by decide), bs]
  have e : M.2 33 ((v : Int)).toNat = lI (fs L v) := hN v hv
  rw [e]
  have oth : ∀ u : Nat, u ≠ v → fs (L ++ [((v : Int), sk t n p)]) u = fs L u := fun u hu => by
    rw [fs_app]
    by_cases c : fs L u = -1
    · rw [if_pos c, if_neg (by omega), c]
    · rw [if_neg c]
  refine wp_if (fun c => ?_) (fun c => hK M rfl (fun u hu => ?_) (fun _ _ _ => rfl))
  · rw [tm1l, lI_eq (by omega) (by omega) (by omega) (by omega)] at c
    rw [V_Row_put (by omega) (by omega) (by decide), bs]
    refine hK _ rfl (fun u hu => ?_) (fun k j hk => mL_cell hk)
    by_cases q : u = v
    · rw [q, fs_app, if_pos c, if_pos rfl]
      show (mSL M 33 v _).2 33 v = _
      rw [mL_hit, h5, iI_l (by omega) (by omega)]
    · rw [oth u q]
      show (mSL M 33 v _).2 33 u = _
      rw [mL_ix q]
      exact hN u hu
  · have c2 : fs L v ≠ -1 := fun q => c (by rw [q, tm1l])
    by_cases q : u = v
    · rw [q, fs_app, if_neg c2]
      exact hN v hv
    · rw [oth u q]
      exact hN u hu
theorem C_putSeen {m lo hi : Nat} {M : Mem} (hm : m < 3) (h1 : lo ≤ hi) (h2 : hi ≤ 2) : wpO (iter (F_Tape_readSeen_b112 (iI ((2 + 4 * m : Nat) : Int)) (iI (hi : Int))) FUEL (iI (lo : Int), M)) (fun N => N.1 = M.1 ∧ ∀ b j, N.2 b j = if b = 31 ∧ 2 + 4 * m + lo ≤ j ∧ j ≤ 2 + 4 * m + hi then (M.1 27 7).toInt64 else M.2 b j) := by
  have l3 : (3 : Int32) = iI 3 := rfl
  refine wp_iterS (P := fun k z => z.1 = iI ((lo + k : Nat) : Int) ∧ z.2.1 = M.1 ∧ lo + k ≤ hi + 1 ∧ ∀ b j, z.2.2 b j = if b = 31 ∧ 2 + 4 * m + lo ≤ j ∧ j < 2 + 4 * m + lo + k then (M.1 27 7).toInt64 else M.2 b j) (hi + 1 - lo) ?_ _ _ ⟨rfl, rfl, by omega, fun b j => by rw [if_neg (by omega)]⟩ (FUEL_big (by omega))
  rintro k ⟨z1, N⟩ hk ⟨e1, e2, e3, e4⟩
  dsimp only at e1 e2 e4
  subst e1
  unfold F_Tape_readSeen_b112
  dsimp only
  have fin : lo + k = hi + 1 → ∀ b j, N.2 b j = if b = 31 ∧ 2 + 4 * m + lo ≤ j ∧ j ≤ 2 + 4 * m + hi then (M.1 27 7).toInt64 else M.2 b j := fun q b j => by
    rw [e4]
    by_cases c : b = 31 ∧ 2 + 4 * m + lo ≤ j ∧ j < 2 + 4 * m + lo + k
    · rw [if_pos c, if_pos (by omega)]
    · rw [if_neg c, if_neg (by omega)]
  refine wp_if (fun c => wp_some ⟨e2, fin ?_⟩) (fun c => ?_)
  · rw [iI_lt (by omega) (by omega) (by omega) (by omega)] at c
    omega
  rw [iI_lt (by omega) (by omega) (by omega) (by omega)] at c
  refine wp_if (fun c2 => wp_some ⟨e2, fin ?_⟩) (fun c2 => ?_)
  · rw [l3, iI_le (by omega) (by omega) (by omega) (by omega)] at c2
    omega
  have e : iI ((2 + 4 * m : Nat) : Int) + iI ((lo + k : Nat) : Int) = iI ((2 + 4 * m + lo + k : Nat) : Int) := by
    rw [iI_add]
    congr 1
    omega
  rw [e, V_Row_put (by omega) (by omega) (by decide), bs, iI_succ]
  refine wp_some ⟨by omega, rfl, e2, by omega, fun b j => ?_⟩
  show (mSL N 31 (2 + 4 * m + lo + k) _).2 b j = _
  rw [mSL_2, e2]
  by_cases c : b = 31 ∧ j = 2 + 4 * m + lo + k
  · rw [if_pos c, if_pos (by omega)]
  · rw [if_neg c, e4]
    by_cases c3 : b = 31 ∧ 2 + 4 * m + lo ≤ j ∧ j < 2 + 4 * m + lo + k
    · rw [if_pos c3, if_pos (by omega)]
    · rw [if_neg c3, if_neg (by omega)]
def poS (t : Nat → Int) (n m : Nat) (a : Nat → Int) (g : GoT) (L : NaT) (r : Bool × Mem) : Nat ⊕ (Int × Int × Nat × Nat) → Prop
  | .inl e => r.1 = false ∧ r.2.1 27 5 = iI (e : Int) ∧ e ≤ n
  | .inr x => r.1 = true ∧ TK t n x.2.2.2 r.2 ∧ x.2.2.2 ≤ n ∧ TXc a (upG g m x.1 x.2.1) r.2 ∧ NMc (L ++ [(x.2.1, x.2.2.1)]) r.2
theorem C_j45 {t : Nat → Int} {n m lo hi q : Nat} {seen : Int} {a : Nat → Int} {g : GoT} {L : NaT} {M : Mem} (hT : CTp t n M) (h6 : M.1 27 6 = iI (q : Int)) (hq : q ≤ n) (hm : m < 3) (h1 : lo ≤ hi) (h2 : hi ≤ 2) (hsn : (lo = 0 ∧ hi = 2 ∧ seen = -1) ∨ (lo = hi ∧ seen = (lo : Int))) (hx : TXc a g M) (hN : NMc L M) (hb : NMb L n) : wpO (F_Tape_readSeen_j45 (iI ((2 + 4 * m : Nat) : Int)) (iI (lo : Int)) (iI (hi : Int)) M) (fun r => f27 M r.2 ∧ poS t n m a g L r (if wd t n 2 q = false then .inl (sk t n q) else if fg t n (rn t n 97 122 (sk t n q)) = -1 then .inl (sk t n (rn t n 97 122 (sk t n q))) else .inr (seen, fg t n (rn t n 97 122 (sk t n q)), sk t n (rn t n 97 122 (sk t n q)), rn t n 48 57 (sk t n (rn t n 97 122 (sk t n q)))))) := by
  have hn := hT.2.1
  have sl : sk t n q ≤ n := sk_le hq
  have rl : rn t n 97 122 (sk t n q) ≤ n := rn_le sl
  unfold F_Tape_readSeen_j45
  refine wp_bind (C_step hT h6 hq) (fun r2 hr2 => ?_)
  obtain ⟨g2, k2⟩ := hr2
  have T2 := g2.f.ct hT
  rw [C_isWord (by decide) T2 k2 hq, bs]
  cases cw : wd t n 2 q with
  | false =>
    rw [if_pos rfl]
    refine wp_ff (wp_some ⟨g2.f, rfl, k2.1, sl⟩)
  | true =>
    rw [if_neg (show ¬ (true = false) by decide)]
    refine wp_tt ?_
    refine wp_bind (C_step (p := rn t n 97 122 (sk t n q)) T2 (by rw [k2.2.2.1, af_word (by decide) cw]) rl) (fun r4 hr4 => ?_)
    obtain ⟨g4, k4⟩ := hr4
    have T4 := g4.f.ct T2
    rw [C_isNumber k4, bs]
    by_cases cf : fg t n (rn t n 97 122 (sk t n q)) = -1
    · rw [if_pos cf, decide_eq_false (fun w => w cf)]
      refine wp_ff (wp_some ⟨g2.f.tr g4.f, rfl, k4.1, sk_le rl⟩)
    · rw [if_neg cf, decide_eq_true cf]
      refine wp_tt ?_
      have c := fg_in cf
      obtain ⟨n7, a7⟩ := k4.num cf
      have fb := fg_b (t := t) (n := n) (p := rn t n 97 122 (sk t n q))
      obtain ⟨v, hv⟩ : ∃ v : Nat, fg t n (rn t n 97 122 (sk t n q)) = (v : Int) := ⟨(fg t n (rn t n 97 122 (sk t n q))).toNat, by omega⟩
      rw [hv] at n7 fb ⊢
      have e42 : r4.2 = M.2 := g4.2.trans g2.2
      refine C_named (K := F_Tape_readSeen_l112 (iI ((2 + 4 * m : Nat) : Int)) (iI (hi : Int)) (iI (lo : Int))) (p := rn t n 97 122 (sk t n q)) hn (fun u hu => by rw [e42]; exact hN u hu) hb n7 (by omega) k4.1 c.1 (fun N9 n91 n9N n92 => ?_)
      unfold F_Tape_readSeen_l112
      refine wp_bind (C_putSeen hm h1 h2) (fun P hP => ?_)
      obtain ⟨p1, p2⟩ := hP
      unfold F_Tape_readSeen_j147
      have fP : f27 M P := ⟨fun k j _ _ w => by rw [p1, n91]; exact (g2.tr g4).1 k j w, fun k j w1 w2 => by rw [p2, if_neg (fun w => w1 w.1), n92 k j w2, e42]⟩
      have rl2 : rn t n 48 57 (sk t n (rn t n 97 122 (sk t n q))) ≤ n := rn_le (sk_le rl)
      refine wp_bind (C_step (p := rn t n 48 57 (sk t n (rn t n 97 122 (sk t n q)))) (fP.ct hT) (by rw [p1, n91, k4.2.2.1, a7]) rl2) (fun r7 hr7 => wp_some ?_)
      obtain ⟨g7, k7⟩ := hr7
      have n97 : (N9.1 27 7).toInt64 = lI (v : Int) := by rw [n91, n7, iI_l (by omega) (by omega)]
      refine ⟨fP.tr g7.f, rfl, k7, rl2, ⟨fun m2 hm2 => ?_, fun m2 s hm2 hs => ?_⟩, fun u hu => ?_⟩
      · rw [g7.2, p2, if_neg (by omega), n92 31 _ (by decide), e42]
        exact hx.1 m2 hm2
      · rw [g7.2, p2, n97]
        show _ = lI (upG g m seen (v : Int) m2 s)
        unfold upG
        by_cases cc : m2 = m ∧ (seen = -1 ∨ (s : Int) = seen)
        · rw [if_pos cc, if_pos (by omega)]
        · rw [if_neg cc, if_neg (by omega), n92 31 _ (by decide), e42]
          exact hx.2 m2 s hm2 hs
      · rw [g7.2, p2, if_neg (by omega)]
        exact n9N u hu
theorem C_readSeen {t : Nat → Int} {n m p : Nat} {a : Nat → Int} {g : GoT} {L : NaT} {M : Mem} (hT : CTp t n M) (hk : TK t n p M) (hp : p ≤ n) (hm : m < 3) (hx : TXc a g M) (hN : NMc L M) (hb : NMb L n) : wpO (F_Tape_readSeen (iI ((2 + 4 * m : Nat) : Int)) M) (fun r => f27 M r.2 ∧ poS t n m a g L r (pSeen t n p)) := by
  have sl : sk t n p ≤ n := sk_le hp
  unfold F_Tape_readSeen
  rw [C_isWord (by decide) hT hk hp, bs]
  have i0 : (0 : Int32) = iI ((0 : Nat) : Int) := rfl
  have i2 : (2 : Int32) = iI ((2 : Nat) : Int) := rfl
  cases cw : wd t n 1 p with
  | true =>
    refine wp_tt ?_
    unfold F_Tape_readSeen_j20
    refine wp_tt ?_
    unfold F_Tape_readSeen_j32
    refine wp_tt ?_
    have e : pS1 t n p = rn t n 97 122 (sk t n p) := by
      unfold pS1
      rw [if_pos cw]
    have es : pSeen t n p = if wd t n 2 (pS1 t n p) = false then .inl (sk t n (pS1 t n p)) else if fg t n (pS2 t n p) = -1 then .inl (sk t n (pS2 t n p)) else .inr (-1, fg t n (pS2 t n p), sk t n (pS2 t n p), rn t n 48 57 (sk t n (pS2 t n p))) := by
      unfold pSeen
      rw [if_neg (fun w => by rw [cw] at w; exact absurd w.1 (by decide)), if_pos cw]
    rw [es, i0, i2]
    exact C_j45 (q := pS1 t n p) hT (by rw [hk.2.2.1, af_word (by decide) cw, e]) (by rw [e]; exact rn_le sl) hm (by decide) (by decide) (Or.inl ⟨rfl, rfl, rfl⟩) hx hN hb
  | false =>
    refine wp_ff ?_
    rw [C_isNumber hk, bs]
    by_cases cf : fg t n p = -1
    · rw [decide_eq_false (fun w => w cf)]
      have es : pSeen t n p = .inl (sk t n p) := by
        unfold pSeen
        rw [if_pos ⟨cw, cf⟩]
      rw [es]
      refine wp_ff (wp_some ⟨f27.rf, rfl, hk.1, sl⟩)
    · rw [decide_eq_true cf]
      refine wp_tt ?_
      obtain ⟨n7, a7⟩ := hk.num cf
      have fb := fg_b (t := t) (n := n) (p := p)
      obtain ⟨v, hv⟩ : ∃ v : Nat, fg t n p = (v : Int) := ⟨(fg t n p).toNat, by omega⟩
      unfold F_Tape_readSeen_j20
      refine wp_ff ?_
      unfold F_Tape_readSeen_j32
      refine wp_ff ?_
      have e : pS1 t n p = rn t n 48 57 (sk t n p) := by
        unfold pS1
        rw [if_neg (by rw [cw]; decide)]
      have es : pSeen t n p = if wd t n 2 (pS1 t n p) = false then .inl (sk t n (pS1 t n p)) else if fg t n (pS2 t n p) = -1 then .inl (sk t n (pS2 t n p)) else .inr (fg t n p, fg t n (pS2 t n p), sk t n (pS2 t n p), rn t n 48 57 (sk t n (pS2 t n p))) := by
        unfold pSeen
        rw [if_neg (fun w => cf w.2), if_neg (show ¬ wd t n 1 p = true by rw [cw]; decide)]
      rw [es, n7, hv]
      exact C_j45 (q := pS1 t n p) hT (by rw [hk.2.2.1, a7, e]) (by rw [e]; exact rn_le sl) hm (Nat.le_refl v) (by omega) (Or.inr ⟨rfl, rfl⟩) hx hN hb
/-! a mood -/
def poC (t : Nat → Int) (n : Nat) (a : Nat → Int) (r : Bool × Mem) : Nat ⊕ (Nat × GoT × NaT) → Prop
  | .inl e => r.1 = false ∧ r.2.1 27 5 = iI (e : Int) ∧ e ≤ n
  | .inr x => r.1 = true ∧ TK t n x.1 r.2 ∧ x.1 ≤ n ∧ TXc a x.2.1 r.2 ∧ NMc x.2.2 r.2 ∧ NMb x.2.2 n ∧ AGb a x.2.1 ∧ ∀ q, q ∈ x.2.2 → q.2 < x.1
theorem pSeen_b {t : Nat → Int} {n p : Nat} {x : Int × Int × Nat × Nat} (hp : p ≤ n) (h : pSeen t n p = .inr x) : 0 ≤ x.2.1 ∧ x.2.1 ≤ 2 ∧ x.2.2.1 < n ∧ p ≤ x.2.2.1 ∧ x.2.2.1 < x.2.2.2 ∧ x.2.2.2 ≤ n := by
  have a0 := sk_ge (t := t) (n := n) (p := p)
  have a0l : sk t n p ≤ n := sk_le hp
  have a1 : sk t n p ≤ pS1 t n p ∧ pS1 t n p ≤ n := by
    unfold pS1
    by_cases c : wd t n 1 p = true
    · rw [if_pos c]
      exact ⟨rn_ge, rn_le a0l⟩
    · rw [if_neg c]
      exact ⟨rn_ge, rn_le a0l⟩
  have a2 := sk_ge (t := t) (n := n) (p := pS1 t n p)
  have a2l : sk t n (pS1 t n p) ≤ n := sk_le a1.2
  have a3 : sk t n (pS1 t n p) ≤ pS2 t n p ∧ pS2 t n p ≤ n := ⟨rn_ge, rn_le a2l⟩
  have a4 := sk_ge (t := t) (n := n) (p := pS2 t n p)
  have a4l : sk t n (pS2 t n p) ≤ n := sk_le a3.2
  unfold pSeen at h
  by_cases c1 : wd t n 1 p = false ∧ fg t n p = -1
  · rw [if_pos c1] at h
    cases h
  rw [if_neg c1] at h
  by_cases c2 : wd t n 2 (pS1 t n p) = false
  · rw [if_pos c2] at h
    cases h
  rw [if_neg c2] at h
  by_cases c3 : fg t n (pS2 t n p) = -1
  · rw [if_pos c3] at h
    cases h
  rw [if_neg c3] at h
  cases h
  have c4 := fg_in c3
  have fb := fg_b (t := t) (n := n) (p := pS2 t n p)
  have r1 := rn_in (lo := 48) (hi := 57) c4.1 c4.2
  have r2 := rn_ge (t := t) (n := n) (lo := 48) (hi := 57) (p := sk t n (pS2 t n p) + 1)
  refine ⟨by dsimp only; omega, by dsimp only; omega, c4.1, by dsimp only; omega, ?_, rn_le a4l⟩
  show sk t n (pS2 t n p) < rn t n 48 57 (sk t n (pS2 t n p))
  omega
theorem sgT_in {t : Nat → Int} {n p : Nat} {c : Int} (h : sgT t n c p = true) : sk t n p < n ∧ t (sk t n p) = c := of_decide_eq_true h
theorem C_com {t : Nat → Int} {n m p : Nat} {a : Nat → Int} {g : GoT} {L : NaT} {M : Mem} (hT : CTp t n M) (hk : TK t n p M) (hp : p ≤ n) (hm : m < 3) (hx : TXc a g M) (hN : NMc L M) (hb : NMb L n) (hg : AGb a g) (hL : ∀ q, q ∈ L → q.2 < p) : wpO (F_Tape_readMood_l76 (iI ((1 + 4 * m : Nat) : Int)) 0 M) (fun r => f27 M r.2 ∧ poC t n a r (pCom t n m 400 p g L)) := by
  have hn := hT.2.1
  have l400 : (400 : Int32) = iI 400 := rfl
  have l44 : (44 : Int32) = iI 44 := rfl
  unfold F_Tape_readMood_l76
  refine wp_bind (Ψ := fun q => match q with | .inl N => f27 M N ∧ ∃ e : Nat, pCom t n m 400 p g L = .inl e ∧ N.1 27 5 = iI (e : Int) ∧ e ≤ n | .inr N => f27 M N ∧ poC t n a (true, N) (pCom t n m 400 p g L)) ?_ (fun q hq => ?_)
  · refine wp_iterS (P := fun k z => z.1 = iI (k : Int) ∧ f27 M z.2 ∧ ∃ p' g' L', TK t n p' z.2 ∧ p' ≤ n ∧ TXc a g' z.2 ∧ NMc L' z.2 ∧ NMb L' n ∧ AGb a g' ∧ (∀ q, q ∈ L' → q.2 < p') ∧ pCom t n m (400 - k) p' g' L' = pCom t n m 400 p g L) 400 ?_ _ _ ⟨rfl, f27.rf, p, g, L, hk, hp, hx, hN, hb, hg, hL, rfl⟩ (FUEL_big (by decide))
    rintro k ⟨z1, N⟩ hk4 ⟨e1, fN, p', g', L', kN, pN, xN, nN, bN, gN, lN, eq⟩
    dsimp only at e1 fN kN xN nN
    subst e1
    have TN := fN.ct hT
    have sge := sk_ge (t := t) (n := n) (p := p')
    have stop : pCom t n m 400 p g L = .inr (sk t n p', g', L') → f27 M N ∧ poC t n a (true, N) (pCom t n m 400 p g L) := fun w => by
      rw [w]
      exact ⟨fN, rfl, kN.skK, sk_le pN, xN, nN, bN, gN, fun q hq => by have := lN q hq; dsimp only; omega⟩
    unfold F_Tape_readMood_b76
    dsimp only
    refine wp_if (fun c => wp_some (stop ?_)) (fun c => ?_)
    · rw [l400, iI_le (by omega) (by omega) (by omega) (by omega)] at c
      rw [← eq, show 400 - k = 0 by omega]
      rfl
    rw [l400, iI_le (by omega) (by omega) (by omega) (by omega)] at c
    have ek : 400 - k = (400 - (k + 1)) + 1 := by omega
    rw [l44, C_isSign TN kN (Or.inl rfl), bs]
    rw [ek] at eq
    cases cs : sgT t n 44 p' with
    | false =>
      refine wp_ff (wp_some (stop ?_))
      rw [← eq]
      show (if sgT t n 44 p' = true then _ else _) = _
      rw [if_neg (by rw [cs]; decide)]
    | true =>
      refine wp_tt ?_
      have ci := sgT_in cs
      have a6 : af t n p' = sk t n p' + 1 := (k_sgn ci.1 (by omega) (by omega)).2.1
      refine wp_bind (C_step (p := sk t n p' + 1) TN (by rw [kN.2.2.1, a6]) (by omega)) (fun r7 hr7 => ?_)
      obtain ⟨g7, k7⟩ := hr7
      have e2 : iI ((1 + 4 * m : Nat) : Int) + 1 = iI ((2 + 4 * m : Nat) : Int) := by
        rw [iI_succ]
        congr 2
        omega
      rw [e2]
      refine wp_bind (C_readSeen (g7.f.ct TN) k7 (by omega) hm (a := a) (g := g') (L := L') ⟨fun m2 h => by rw [g7.2]; exact xN.1 m2 h, fun m2 s h h2 => by rw [g7.2]; exact xN.2 m2 s h h2⟩ (fun v hv => by rw [g7.2]; exact nN v hv) bN) (fun r8 hr8 => ?_)
      obtain ⟨f8, o8⟩ := hr8
      have f9 := (fN.tr g7.f).tr f8
      have eq2 : (match pSeen t n (sk t n p' + 1) with | .inl e => .inl e | .inr x => pCom t n m (400 - (k + 1)) x.2.2.2 (upG g' m x.1 x.2.1) (L' ++ [(x.2.1, x.2.2.1)])) = pCom t n m 400 p g L := by
        rw [← eq]
        show _ = (if sgT t n 44 p' = true then _ else _)
        rw [if_pos cs]
        rfl
      obtain ⟨b8, N8⟩ := r8
      cases es : pSeen t n (sk t n p' + 1) with
      | inl e =>
        rw [es] at o8 eq2
        obtain ⟨o1, o2⟩ := o8
        dsimp only at o1 o2 f9 eq2
        subst o1
        refine wp_ff (wp_some ⟨f9, e, eq2.symm, o2⟩)
      | inr x =>
        rw [es] at o8 eq2
        obtain ⟨o1, o2, o3, o4, o5⟩ := o8
        dsimp only at o1 o2 o3 o4 o5 f9 eq2
        subst o1
        obtain ⟨x1, x2, x3, x4, x5, x6⟩ := pSeen_b (by omega) es
        refine wp_tt (wp_some ⟨by omega, iI_succ k, f9, x.2.2.2, upG g' m x.1 x.2.1, L' ++ [(x.2.1, x.2.2.1)], o2, o3, o4, o5, ⟨upL_app bN.1 (fun q hq => by have := lN q hq; omega), fun q hq => ?_⟩, gN.g x1 x2, fun q hq => ?_, eq2⟩)
        · rcases List.mem_append.mp hq with w | w
          · exact bN.2 q w
          · rw [List.mem_singleton] at w
            rw [w]
            exact ⟨x3, x1, x2⟩
        · rcases List.mem_append.mp hq with w | w
          · have := lN q w
            omega
          · rw [List.mem_singleton] at w
            rw [w]
            exact x5
  · rcases q with q | q
    · obtain ⟨f, e, h1, h2⟩ := hq
      refine wp_some ⟨f, ?_⟩
      rw [h1]
      exact ⟨rfl, h2⟩
    · exact wp_some hq
def poM (t : Nat → Int) (n : Nat) (r : Bool × Mem) : Nat ⊕ (Nat × (Nat → Int) × GoT × NaT) → Prop
  | .inl e => r.1 = false ∧ r.2.1 27 5 = iI (e : Int) ∧ e ≤ n
  | .inr x => r.1 = true ∧ TK t n x.1 r.2 ∧ x.1 ≤ n ∧ TXc x.2.1 x.2.2.1 r.2 ∧ NMc x.2.2.2 r.2 ∧ NMb x.2.2.2 n ∧ AGb x.2.1 x.2.2.1 ∧ ∀ q, q ∈ x.2.2.2 → q.2 < x.1
theorem C_readMood {t : Nat → Int} {n m p : Nat} {a : Nat → Int} {g : GoT} {L : NaT} {M : Mem} (hT : CTp t n M) (hk : TK t n p M) (hp : p ≤ n) (hm : m < 3) (hx : TXc a g M) (hN : NMc L M) (hb : NMb L n) (hg : AGb a g) (hL : ∀ q, q ∈ L → q.2 < p) : wpO (F_Tape_readMood (iI (m : Int)) M) (fun r => f27 M r.2 ∧ poM t n r (pMood t n m p a g L)) := by
  have l3 : (3 : Int32) = iI 3 := rfl
  have l4 : (4 : Int32) = iI 4 := rfl
  have l1 : (1 : Int32) = iI 1 := rfl
  have hn := hT.2.1
  have sl : sk t n p ≤ n := sk_le hp
  have rl : rn t n 97 122 (sk t n p) ≤ n := rn_le sl
  have s0 := sk_ge (t := t) (n := n) (p := p)
  have s1 := rn_ge (t := t) (n := n) (lo := 97) (hi := 122) (p := sk t n p)
  have s2 := sk_ge (t := t) (n := n) (p := rn t n 97 122 (sk t n p))
  have s3 := rn_ge (t := t) (n := n) (lo := 48) (hi := 57) (p := sk t n (rn t n 97 122 (sk t n p)))
  unfold F_Tape_readMood
  rw [C_isWord (by decide) hT hk hp, bs]
  cases cw : wd t n 0 p with
  | false =>
    have es : pMood t n m p a g L = .inl (sk t n p) := by
      unfold pMood
      rw [if_pos (Or.inr cw)]
    rw [es]
    exact wp_ff (wp_some ⟨f27.rf, rfl, hk.1, sl⟩)
  | true =>
    refine wp_tt ?_
    refine wp_bind (C_step (p := rn t n 97 122 (sk t n p)) hT (by rw [hk.2.2.1, af_word (by decide) cw]) rl) (fun r2 hr2 => ?_)
    obtain ⟨g2, k2⟩ := hr2
    have T2 := g2.f.ct hT
    rw [C_isNumber k2, bs]
    have nw : ¬ (m = 3 ∨ wd t n 0 p = false) := by
      rw [cw]
      rintro (w | w)
      · omega
      · cases w
    by_cases cf : fg t n (rn t n 97 122 (sk t n p)) = -1
    · rw [decide_eq_false (fun w => w cf)]
      have es : pMood t n m p a g L = .inl (sk t n (rn t n 97 122 (sk t n p))) := by
        unfold pMood
        rw [if_neg nw, if_pos cf]
      rw [es]
      exact wp_ff (wp_some ⟨g2.f, rfl, k2.1, sk_le rl⟩)
    · rw [decide_eq_true cf]
      refine wp_tt ?_
      obtain ⟨n7, a7⟩ := k2.num cf
      have fb := fg_b (t := t) (n := n) (p := rn t n 97 122 (sk t n p))
      have rl2 : rn t n 48 57 (sk t n (rn t n 97 122 (sk t n p))) ≤ n := rn_le (sk_le rl)
      have e1 : 1 + (4 * iI (m : Int)) = iI ((1 + 4 * m : Nat) : Int) := by
        rw [l1, l4, iI_mul, iI_add]
        rfl
      rw [e1, V_Row_put (by omega) (by omega) (by decide), bs, n7, iI_l (by omega) (by omega)]
      show wpO (F_Tape_readMood_l45 (iI (m : Int)) (iI ((1 + 4 * m : Nat) : Int)) 0 (mSL r2 31 (1 + 4 * m) (lI (fg t n (rn t n 97 122 (sk t n p)))))) _
      have hx3 : TXc (upA a m (fg t n (rn t n 97 122 (sk t n p)))) g (mSL r2 31 (1 + 4 * m) (lI (fg t n (rn t n 97 122 (sk t n p))))) := by
        refine ⟨fun m2 hm2 => ?_, fun m2 s hm2 hs => ?_⟩
        · unfold upA
          by_cases q : m2 = m
          · rw [if_pos q, q, mL_hit]
          · rw [if_neg q, mL_ix (by omega), g2.2]
            exact hx.1 m2 hm2
        · rw [mL_ix (by omega), g2.2]
          exact hx.2 m2 s hm2 hs
      have hN3 : NMc L (mSL r2 31 (1 + 4 * m) (lI (fg t n (rn t n 97 122 (sk t n p))))) := fun v hv => by
        rw [mL_cell (by decide), g2.2]
        exact hN v hv
      have f3 : f27 M (mSL r2 31 (1 + 4 * m) (lI (fg t n (rn t n 97 122 (sk t n p))))) := g2.f.tr ⟨fun _ _ _ _ _ => rfl, fun k j w _ => mL_cell w⟩
      have h63 : (mSL r2 31 (1 + 4 * m) (lI (fg t n (rn t n 97 122 (sk t n p))))).1 27 6 = iI ((rn t n 48 57 (sk t n (rn t n 97 122 (sk t n p))) : Nat) : Int) := by
        show r2.1 27 6 = _
        rw [k2.2.2.1, a7]
      generalize mSL r2 31 (1 + 4 * m) (lI (fg t n (rn t n 97 122 (sk t n p)))) = N3 at *
      have hg3 := (hg.a (m := m) (v := fg t n (rn t n 97 122 (sk t n p))) (by omega) (by omega)).g (m := m) (seen := -1) (to := (m : Int)) (by omega) (by omega)
      unfold F_Tape_readMood_l45
      refine wp_bind (Ψ := fun N => f27 M N ∧ N.1 = N3.1 ∧ TXc (upA a m (fg t n (rn t n 97 122 (sk t n p)))) (upG g m (-1) (m : Int)) N ∧ NMc L N) ?_ (fun N4 hN4 => ?_)
      · refine wp_iterS (P := fun k z => z.1 = iI (k : Int) ∧ z.2.1 = N3.1 ∧ ∀ b j, z.2.2 b j = if b = 31 ∧ 2 + 4 * m ≤ j ∧ j < 2 + 4 * m + k then lI (m : Int) else N3.2 b j) 3 ?_ _ _ ⟨rfl, rfl, fun b j => by rw [if_neg (by omega)]⟩ (FUEL_big (by decide))
        rintro k ⟨z1, N⟩ hk3 ⟨e1, e2, e4⟩
        dsimp only at e1 e2 e4
        subst e1
        unfold F_Tape_readMood_b45
        dsimp only
        refine wp_if (fun c => wp_some ?_) (fun c => ?_)
        · rw [l3, iI_le (by omega) (by omega) (by omega) (by omega)] at c
          refine ⟨f3.tr ⟨fun k j _ _ _ => by rw [e2], fun b j w _ => by rw [e4, if_neg (fun q => w q.1)]⟩, e2, ⟨fun m2 hm2 => ?_, fun m2 s hm2 hs => ?_⟩, fun v hv => ?_⟩
          · rw [e4, if_neg (by omega)]
            exact hx3.1 m2 hm2
          · rw [e4]
            show _ = lI (upG g m (-1) (m : Int) m2 s)
            unfold upG
            by_cases q : m2 = m
            · rw [if_pos (by omega), if_pos ⟨q, Or.inl rfl⟩]
            · rw [if_neg (by omega), if_neg (fun w => q w.1)]
              exact hx3.2 m2 s hm2 hs
          · rw [e4, if_neg (by omega)]
            exact hN3 v hv
        · rw [l3, iI_le (by omega) (by omega) (by omega) (by omega)] at c
          have e : (iI ((1 + 4 * m : Nat) : Int) + 1) + iI (k : Int) = iI ((2 + 4 * m + k : Nat) : Int) := by
            rw [iI_succ, iI_add]
            congr 1
            omega
          rw [e, V_Row_put (by omega) (by omega) (by decide), bs, iI_succ, iI_l (by omega) (by omega)]
          refine wp_some ⟨by omega, rfl, e2, fun b j => ?_⟩
          show (mSL N 31 (2 + 4 * m + k) _).2 b j = _
          rw [mSL_2]
          by_cases c : b = 31 ∧ j = 2 + 4 * m + k
          · rw [if_pos c, if_pos (by omega)]
          · rw [if_neg c, e4]
            by_cases c3 : b = 31 ∧ 2 + 4 * m ≤ j ∧ j < 2 + 4 * m + k
            · rw [if_pos c3, if_pos (by omega)]
            · rw [if_neg c3, if_neg (by omega)]
      · obtain ⟨f4, n41, x4, nm4⟩ := hN4
        unfold F_Tape_readMood_j70
        refine wp_bind (C_step (f4.ct hT) (by rw [n41, h63]) rl2) (fun r5 hr5 => ?_)
        obtain ⟨g5, k5⟩ := hr5
        have f5 := f4.tr g5.f
        refine wp_mono (C_com (f5.ct hT) k5 rl2 hm (a := upA a m (fg t n (rn t n 97 122 (sk t n p)))) (g := upG g m (-1) (m : Int)) (L := L) ⟨fun m2 h => by rw [g5.2]; exact x4.1 m2 h, fun m2 s h h2 => by rw [g5.2]; exact x4.2 m2 s h h2⟩ (fun v hv => by rw [g5.2]; exact nm4 v hv) hb hg3 (fun q hq => by have := hL q hq; omega)) (fun r hr => ?_)
        obtain ⟨f6, o6⟩ := hr
        refine ⟨f5.tr f6, ?_⟩
        have es : pMood t n m p a g L = match pCom t n m 400 (rn t n 48 57 (sk t n (rn t n 97 122 (sk t n p)))) (upG g m (-1) m) L with
          | .inl e => .inl e
          | .inr x => .inr (x.1, upA a m (fg t n (rn t n 97 122 (sk t n p))), x.2.1, x.2.2) := by
          unfold pMood
          rw [if_neg nw, if_neg cf]
          rfl
        rw [es]
        cases ec : pCom t n m 400 (rn t n 48 57 (sk t n (rn t n 97 122 (sk t n p)))) (upG g m (-1) m) L with
        | inl e =>
          rw [ec] at o6
          exact o6
        | inr x =>
          rw [ec] at o6
          exact o6
