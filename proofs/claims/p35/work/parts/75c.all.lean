/-! ===== all: how many hold, how many are best, the least ===== -/
def cnF (F : Nat → Bool) : Nat → Nat
  | 0 => 0
  | k + 1 => if F k = true then cnF F k + 1 else cnF F k
def lsF (F : Nat → Bool) : Nat → Int
  | 0 => -1
  | k + 1 => if lsF F k = -1 ∧ F k = true then (k : Int) else lsF F k
theorem cnF_s {F : Nat → Bool} {k : Nat} : cnF F (k + 1) = if F k = true then cnF F k + 1 else cnF F k := rfl
theorem lsF_s {F : Nat → Bool} {k : Nat} : lsF F (k + 1) = if lsF F k = -1 ∧ F k = true then (k : Int) else lsF F k := rfl
theorem cnF_ext {F F' : Nat → Bool} : ∀ k, (∀ i, i < k → F i = F' i) → cnF F k = cnF F' k := by
  intro k
  induction k with
  | zero => exact fun _ => rfl
  | succ k ih =>
    intro h
    rw [cnF_s, cnF_s, ih (fun i hi => h i (by omega)), h k (by omega)]
theorem lsF_ext {F F' : Nat → Bool} : ∀ k, (∀ i, i < k → F i = F' i) → lsF F k = lsF F' k := by
  intro k
  induction k with
  | zero => exact fun _ => rfl
  | succ k ih =>
    intro h
    rw [lsF_s, lsF_s, ih (fun i hi => h i (by omega)), h k (by omega)]
theorem cnF_le {F : Nat → Bool} : ∀ k, cnF F k ≤ k := by
  intro k
  induction k with
  | zero => exact Nat.le_refl 0
  | succ k ih =>
    rw [cnF_s]
    by_cases c : F k = true
    · rw [if_pos c]
      omega
    · rw [if_neg c]
      omega
theorem lsF_sp {F : Nat → Bool} : ∀ k, (∃ i, i < k ∧ F i = true ∧ lsF F k = (i : Int) ∧ ∀ j, j < i → ¬ F j = true) ∨ (lsF F k = -1 ∧ ∀ j, j < k → ¬ F j = true) := by
  intro k
  induction k with
  | zero => exact Or.inr ⟨rfl, fun j h => absurd h (Nat.not_lt_zero _)⟩
  | succ k ih =>
    rw [lsF_s]
    rcases ih with ⟨i, h1, h2, h3, h4⟩ | ⟨h1, h2⟩
    · refine Or.inl ⟨i, by omega, h2, ?_, h4⟩
      rw [if_neg (fun w => by omega)]
      exact h3
    · by_cases c : F k = true
      · rw [if_pos ⟨h1, c⟩]
        exact Or.inl ⟨k, by omega, c, rfl, h2⟩
      · rw [if_neg (fun w => c w.2)]
        refine Or.inr ⟨h1, fun j hj => ?_⟩
        by_cases q : j = k
        · rw [q]
          exact c
        · exact h2 j (by omega)
theorem lsF_b {F : Nat → Bool} (k : Nat) : -1 ≤ lsF F k ∧ lsF F k ≤ k := by
  rcases lsF_sp (F := F) k with ⟨i, h1, h2, h3, h4⟩ | ⟨h1, h2⟩
  · omega
  · omega
/-- the least from lo on -/
def lsS (F : Nat → Bool) (lo : Nat) (v : Int) : Prop := (∃ i, lo ≤ i ∧ i < 64 ∧ F i = true ∧ v = (i : Int) ∧ ∀ j, lo ≤ j → j < i → ¬ F j = true) ∨ (v = -1 ∧ ∀ j, lo ≤ j → j < 64 → ¬ F j = true)
theorem lsS.fin {F : Nat → Bool} {v : Int} (h : lsS F 0 v) : v = lsF F 64 := by
  rcases h with ⟨i, -, h1, h2, h3, h4⟩ | ⟨h1, h2⟩
  · rcases lsF_sp (F := F) 64 with ⟨i', k1, k2, k3, k4⟩ | ⟨k1, k2⟩
    · rcases Nat.lt_trichotomy i i' with c | c | c
      · exact absurd h2 (k4 i c)
      · omega
      · exact absurd k2 (h4 i' (Nat.zero_le _) c)
    · exact absurd h2 (k2 i h1)
  · rcases lsF_sp (F := F) 64 with ⟨i', k1, k2, k3, k4⟩ | ⟨k1, k2⟩
    · exact absurd k2 (h2 i' (Nat.zero_le _) k1)
    · omega
theorem lsS.t {F : Nat → Bool} {lo : Nat} {v : Int} (h : F lo = true) (h6 : lo < 64) : lsS F lo (lo : Int) := Or.inl ⟨lo, Nat.le_refl _, h6, h, rfl, fun j h1 h2 => by omega⟩
theorem lsS.f {F : Nat → Bool} {lo : Nat} {v : Int} (h : ¬ F lo = true) (hs : lsS F (lo + 1) v) : lsS F lo v := by
  rcases hs with ⟨i, h0, h1, h2, h3, h4⟩ | ⟨h1, h2⟩
  · refine Or.inl ⟨i, by omega, h1, h2, h3, fun j q1 q2 => ?_⟩
    by_cases q : j = lo
    · rw [q]
      exact h
    · exact h4 j (by omega) q2
  · refine Or.inr ⟨h1, fun j q1 q2 => ?_⟩
    by_cases q : j = lo
    · rw [q]
      exact h
    · exact h2 j (by omega) q2
def okH (W : Nat → Int32) (w c : Nat) (L : Mem) : Prop := PRS8 (layW W c) w 8 (W 1).toInt (W 2).toInt L
def cdH (W : Nat → Int32) (w c : Nat) (L : Mem) : Prop := fgR (layW W c) w 8 (W 1).toInt (W 2).toInt (uM 35 L) (dM 35 L) 18 0 = -1
def cdB (W : Nat → Int32) (V0 : Int) (L : Mem) : Prop := lI (rU (uM 35 L 0 1) (dM 35 L 0)) = lI (rU V0 (dW W)) ∧ lI (rD (uM 35 L 0 1) (dM 35 L 0)) = lI (rD V0 (dW W))
def okF (hold : Bool) (W : Nat → Int32) (w : Nat) (V0 : Int) (c : Nat) (b : Bool) : Prop := ∃ L, okH W w c L ∧ (b = true ↔ if hold = true then cdH W w c L else cdB W V0 L)
theorem lay_w {W : Nat → Int32} {w c : Nat} (hw : (w : Int) < (W 5).toInt) : wIn (layW W c) w := by
  refine Or.inl ?_
  rw [show layW W c 5 = W 5 from layK_o (by decide) (by decide) (by omega)]
  exact hw
theorem lay_k {W : Nat → Int32} {w c : Nat} (h : RIW W) (hw : (w : Int) < (W 5).toInt) (hc : c < 64) : WOKW (layW W c) w := (lay_RI h hc).way w (lay_w hw)
theorem C_look1 {W : Nat → Int32} {w c : Nat} {M : Mem} (cw : CW W M) (hw : (w : Int) < (W 5).toInt) (hc : c < 64) : wpO ((F_Well_putSpareWay (iI (c : Int)) M).bind fun r6 => F_Pair_look (iI (w : Int)) 8 ((r6.1 1 1).toInt64) ((r6.1 1 2).toInt64) r6) (fun L => okH W w c L ∧ CW W L ∧ (∀ j, L.1 52 j = M.1 52 j) ∧ ∀ k, 53 ≤ k → k ≤ 65 → ∀ j, L.2 k j = M.2 k j) := by
  refine wp_bind (C_spare (M := M) hc) (fun r6 h6 => ?_)
  obtain ⟨n1, nf, nm, nv⟩ := h6
  obtain ⟨cw6, cw8⟩ := cw.spare hc n1 nf nm nv
  have p := cw8.pq
  rw [show layW W c 1 = W 1 from layK_o (by decide) (by decide) (by omega), show layW W c 2 = W 2 from layK_o (by decide) (by decide) (by omega)] at p
  obtain ⟨q1, q2, p1, pq, q9⟩ := p
  rw [q1, q2, show (8 : Int32) = iI ((8 : Nat) : Int) from rfl]
  refine wp_mono (wp_q (Ψ := fun r => Same (fun k => (34 ≤ k ∧ k ≤ 47)) r6 r) (C_look8 cw8 (lay_w hw) (Or.inr rfl) p1 pq (by omega)) (fun a ha => wpO_of (T_Pair_look _ _ _ _ _) ha)) (fun L hL => ?_)
  obtain ⟨hP, fL⟩ := hL
  refine ⟨hP, cw6.sm fL (fun k q => by omega), fun j => ?_, fun k k1 k2 j => ?_⟩
  · rw [(fL 52 (by omega)).1 j, n1]
  · exact ((fL k (by omega)).2 j).trans (nf k j (by omega))
theorem okF_ex {W : Nat → Int32} {w : Nat} {V0 : Int} {M : Mem} (hold : Bool) (cw : CW W M) (hw : (w : Int) < (W 5).toInt) : ∃ F : Nat → Bool, ∀ c, c < 64 → okF hold W w V0 c (F c) := by
  have ex : ∀ c, c < 64 → ∃ b, okF hold W w V0 c b := fun c hc => by
    obtain ⟨L, -, hL, -⟩ := C_look1 cw hw hc
    by_cases q : (if hold = true then cdH W w c L else cdB W V0 L)
    · exact ⟨true, L, hL, ⟨fun _ => q, fun _ => rfl⟩⟩
    · exact ⟨false, L, hL, ⟨(fun z => nomatch z), fun z => absurd z q⟩⟩
  refine ⟨fun c => if h : c < 64 then Classical.choose (ex c h) else false, fun c hc => ?_⟩
  show okF hold W w V0 c (if h : c < 64 then Classical.choose (ex c h) else false)
  rw [dif_pos hc]
  exact Classical.choose_spec (ex c hc)
theorem C_isBest {W : Nat → Int32} {w c : Nat} {f : Nat → Nat} {L : Mem} (kL : KN W 1 w f L) (hw : (w : Int) < (W 5).toInt) (hf : ∀ m, m < mo W w → f m < aN W) (hc : c < 64) (hL : okH W w c L) : wpO (F_KW_isBestAnswer L) (fun r => Same (fun k => k = 93) L r.2 ∧ (r.1 = true ↔ cdB W (nW W L 0) L)) := by
  have cw := kL.1.1
  have hR := cw.2.1
  have mk := (cw.wk hw).moK
  obtain ⟨-, -, p1, pq, q9⟩ := cw.pq
  have kA := lay_k hR hw hc
  have kB := (lay_RI hR hc).2
  have hC := pairS8 (lay_RI hR hc) kA kB p1 pq (show (W 2).toInt ≤ 12 by omega)
  have mA := kA.moK
  have mB := kB.moK
  have t : F_Pair_tellWorth 93 0 0 1 L = some (mSL (mSL L 93 0 (lI (rU (uM 35 L 0 1) (dM 35 L 0)))) 93 1 (lI (rD (uM 35 L 0 1) (dM 35 L 0)))) := C_tell8 (x := 0) (y := 0) (pe := 1) (o := 93) kA kB (by omega) (by omega) hL hC ⟨by omega, by omega⟩ (by decide)
  unfold F_KW_isBestAnswer cdB
  rw [t, bs]
  have f1 : Same (fun k => k = 93) L (mSL (mSL L 93 0 (lI (rU (uM 35 L 0 1) (dM 35 L 0)))) 93 1 (lI (rD (uM 35 L 0 1) (dM 35 L 0)))) := Same.trans (M1 := mSL L 93 0 (lI (rU (uM 35 L 0 1) (dM 35 L 0)))) (Same.sL (S := fun k => k = 93) Same.rfl' rfl) (Same.sL (S := fun k => k = 93) Same.rfl' rfl)
  have v0 : (mSL (mSL L 93 0 (lI (rU (uM 35 L 0 1) (dM 35 L 0)))) 93 1 (lI (rD (uM 35 L 0 1) (dM 35 L 0)))).2 93 0 = lI (rU (uM 35 L 0 1) (dM 35 L 0)) := by rw [mL_ix (by decide), mL_hit]
  have v1 : (mSL (mSL L 93 0 (lI (rU (uM 35 L 0 1) (dM 35 L 0)))) 93 1 (lI (rD (uM 35 L 0 1) (dM 35 L 0)))).2 93 1 = lI (rD (uM 35 L 0 1) (dM 35 L 0)) := mL_hit
  generalize mSL (mSL L 93 0 (lI (rU (uM 35 L 0 1) (dM 35 L 0)))) 93 1 (lI (rD (uM 35 L 0 1) (dM 35 L 0))) = L1 at *
  obtain ⟨k1, e1⟩ := kL.sm f1 (fun k q => by omega)
  have t2 : F_Answer_tellWorth 93 0 L1 = some (mSL (mSL L1 93 0 (lI (rU (nW W L1 0) (dW W)))) 93 1 (lI (rD (nW W L1 0) (dW W)))) := C_tellA (m := 0) k1 hw hf (by omega)
  rw [t2, bs, e1]
  have f2 : Same (fun k => k = 93) L (mSL (mSL L1 93 0 (lI (rU (nW W L 0) (dW W)))) 93 1 (lI (rD (nW W L 0) (dW W)))) := (f1.sL rfl).sL rfl
  have w0 : (mSL (mSL L1 93 0 (lI (rU (nW W L 0) (dW W)))) 93 1 (lI (rD (nW W L 0) (dW W)))).2 93 0 = lI (rU (nW W L 0) (dW W)) := by rw [mL_ix (by decide), mL_hit]
  have w1 : (mSL (mSL L1 93 0 (lI (rU (nW W L 0) (dW W)))) 93 1 (lI (rD (nW W L 0) (dW W)))).2 93 1 = lI (rD (nW W L 0) (dW W)) := mL_hit
  generalize mSL (mSL L1 93 0 (lI (rU (nW W L 0) (dW W)))) 93 1 (lI (rD (nW W L 0) (dW W))) = L2 at *
  rw [v0, v1, w0, w1]
  refine wp_if (fun c1 => wp_if (fun c2 => wp_some ⟨f2, ⟨fun _ => ⟨c1, c2⟩, fun _ => rfl⟩⟩) (fun c2 => wp_some ⟨f2, ⟨(fun z => nomatch z), fun z => absurd z.2 c2⟩⟩)) (fun c1 => wp_some ⟨f2, ⟨(fun z => nomatch z), fun z => absurd z.1 c1⟩⟩)
def allP (x3 : Bool) (W : Nat → Int32) (w : Nat) (f : Nat → Nat) (V0 : Int) (k : Nat) (z : Int32 × Int32 × Int32 × Mem) : Prop := z.2.2.1 = iI (k : Int) ∧ k ≤ 64 ∧ (KN W 1 w f z.2.2.2 ∧ nW W z.2.2.2 0 = V0) ∧ ∃ F : Nat → Bool, (∀ c, c < k → okF x3 W w V0 c (F c)) ∧ z.1 = iI (cnF F k : Int) ∧ z.2.1 = iI (lsF F k)
theorem allP_nx {x3 : Bool} {W : Nat → Int32} {w : Nat} {f : Nat → Nat} {V0 : Int} {k : Nat} {F : Nat → Bool} {b : Bool} {L : Mem} (hk : k < 64) (hF : ∀ c, c < k → okF x3 W w V0 c (F c)) (hb : okF x3 W w V0 k b) (kL : KN W 1 w f L) (hV : nW W L 0 = V0) : allP x3 W w f V0 (k + 1) (iI ((if b = true then cnF F k + 1 else cnF F k : Nat) : Int), iI (if lsF F k = -1 ∧ b = true then (k : Int) else lsF F k), iI (k : Int) + 1, L) := by
  refine ⟨iI_succ k, by omega, ⟨kL, hV⟩, fun i => if i = k then b else F i, fun c hc => ?_, ?_, ?_⟩
  · show okF x3 W w V0 c (if c = k then b else F c)
    by_cases q : c = k
    · rw [if_pos q, q]
      exact hb
    · rw [if_neg q]
      exact hF c (by omega)
  · show iI ((if b = true then cnF F k + 1 else cnF F k : Nat) : Int) = iI (cnF (fun i => if i = k then b else F i) (k + 1) : Int)
    rw [cnF_s, if_pos rfl, cnF_ext (F := fun i => if i = k then b else F i) (F' := F) k (fun i hi => if_neg (by omega))]
  · show iI (if lsF F k = -1 ∧ b = true then (k : Int) else lsF F k) = iI (lsF (fun i => if i = k then b else F i) (k + 1))
    rw [lsF_s, if_pos (show k = k from rfl), lsF_ext (F := fun i => if i = k then b else F i) (F' := F) k (fun i hi => if_neg (by omega))]
theorem C_allL {W : Nat → Int32} {w : Nat} {f : Nat → Nat} {V0 : Int} {x2 : Int32} {x3 : Bool} {M : Mem} (kN : KN W 1 w f M) (hw : (w : Int) < (W 5).toInt) (hf : ∀ m, m < mo W w → f m < aN W) (hV : nW W M 0 = V0) : wpO (F_KW_all_l53 (iI (w : Int)) x2 x3 0 (-1) 0 M) (fun r => ∃ F : Nat → Bool, (∀ c, c < 64 → okF x3 W w V0 c (F c)) ∧ r.1 = .inr (if 1 < x2 then iI (lsF F 64) else iI (cnF F 64 : Int))) := by
  unfold F_KW_all_l53
  refine wp_bind (Ψ := fun r => ∃ F : Nat → Bool, (∀ c, c < 64 → okF x3 W w V0 c (F c)) ∧ r.1 = iI (cnF F 64 : Int) ∧ r.2.1 = iI (lsF F 64)) ?_ (fun r hr => ?_)
  · refine wp_iterS (P := allP x3 W w f V0) 64 ?_ FUEL (0, -1, 0, M) ⟨rfl, by decide, ⟨kN, hV⟩, fun _ => false, fun c h => absurd h (Nat.not_lt_zero _), rfl, rfl⟩ (FUEL_big (by decide))
    rintro k ⟨z1, z2, z3, N⟩ hk ⟨e3, -, ⟨nK, nV⟩, F, hF, e1, e2⟩
    dsimp only at e1 e2 e3 nK nV
    subst e1
    subst e2
    subst e3
    unfold F_KW_all_b53
    dsimp only
    refine wp_if (fun c => ?_) (fun c => ?_)
    · rw [show (64 : Int32) = iI 64 from rfl, iI_le (by omega) (by omega) (by omega) (by omega)] at c
      have ek : k = 64 := by omega
      subst ek
      exact wp_some ⟨F, hF, rfl, rfl⟩
    rw [show (64 : Int32) = iI 64 from rfl, iI_le (by omega) (by omega) (by omega) (by omega)] at c
    have kc : k < 64 := by omega
    have lb := lsF_b (F := F) k
    rw [← Option.bind_assoc]
    refine wp_bind (C_look1 nK.1.1 hw kc) (fun L hL => ?_)
    obtain ⟨oL, cwL, g1, g2⟩ := hL
    obtain ⟨kL, vL⟩ := nK.mv cwL g1 g2
    have vL0 : nW W L 0 = V0 := (congrFun vL 0).trans nV
    have cn1 : iI (cnF F k : Int) + 1 = iI ((cnF F k + 1 : Nat) : Int) := iI_succ _
    have stT : ∀ Q : Mem, KN W 1 w f Q → nW W Q 0 = V0 → okF x3 W w V0 k true → wpO (F_KW_all_j120 (iI (w : Int)) x2 x3 (iI (cnF F k : Int)) (iI (lsF F k)) (iI (k : Int)) Q) (sumP (fun s' => k < 64 ∧ allP x3 W w f V0 (k + 1) s') (fun r => ∃ F : Nat → Bool, (∀ c, c < 64 → okF x3 W w V0 c (F c)) ∧ r.1 = iI (cnF F 64 : Int) ∧ r.2.1 = iI (lsF F 64))) := fun Q kQ vQ ok => by
      have nx := allP_nx (b := true) kc hF ok kQ vQ
      rw [if_pos rfl] at nx
      unfold F_KW_all_j120
      rw [cn1]
      refine wp_if (fun c4 => wp_some ⟨kc, ?_⟩) (fun c4 => wp_some ⟨kc, ?_⟩)
      · rw [tm1, iI_eq (by omega) (by omega) (by omega) (by omega)] at c4
        rw [if_pos ⟨c4, rfl⟩] at nx
        exact nx
      · rw [tm1, iI_eq (by omega) (by omega) (by omega) (by omega)] at c4
        rw [if_neg (fun w => c4 w.1)] at nx
        exact nx
    have stF : ∀ Q : Mem, KN W 1 w f Q → nW W Q 0 = V0 → okF x3 W w V0 k false → k < 64 ∧ allP x3 W w f V0 (k + 1) (iI (cnF F k : Int), iI (lsF F k), iI (k : Int) + 1, Q) := fun Q kQ vQ ok => by
      have nx := allP_nx (b := false) kc hF ok kQ vQ
      rw [if_neg (by decide), if_neg (fun w => Bool.noConfusion w.2)] at nx
      exact ⟨kc, nx⟩
    obtain ⟨-, -, p1, pq, q9⟩ := nK.1.1.pq
    refine wp_if (fun c3 => ?_) (fun c3 => ?_)
    · subst c3
      rw [C_firstGain8 (lay_w hw) (Or.inr rfl) p1 pq (by omega) oL, bs]
      have vb := fgR_b (W := layW W k) (a := w) (b := 8) (p := (W 1).toInt) (q := (W 2).toInt) (U := uM 35 L) (D := dM 35 L) 18 0 (by omega)
      refine wp_if (fun c4 => stT L kL vL0 ⟨L, oL, ⟨fun _ => ?_, fun _ => rfl⟩⟩) (fun c4 => wp_some (stF L kL vL0 ⟨L, oL, ⟨(fun z => nomatch z), fun z => absurd ?_ c4⟩⟩))
      · rw [if_pos rfl]
        rw [tm1, iI_eq (by omega) (by omega) (by omega) (by omega)] at c4
        exact c4
      · rw [if_pos rfl] at z
        rw [show fgR (layW W k) w 8 (W 1).toInt (W 2).toInt (uM 35 L) (dM 35 L) 18 0 = -1 from z]
        rfl
    · refine wp_bind (C_isBest kL hw hf kc oL) (fun r8 h8 => ?_)
      obtain ⟨f8, t8⟩ := h8
      obtain ⟨k8, v8⟩ := kL.sm f8 (fun k q => by omega)
      have v80 : nW W r8.2 0 = V0 := (congrFun v8 0).trans vL0
      rw [vL0] at t8
      refine wp_if (fun c4 => stT r8.2 k8 v80 ⟨L, oL, ⟨fun _ => ?_, fun _ => rfl⟩⟩) (fun c4 => wp_some (stF r8.2 k8 v80 ⟨L, oL, ⟨(fun z => nomatch z), fun z => absurd (t8.mpr ?_) c4⟩⟩))
      · rw [if_neg c3]
        exact t8.mp c4
      · rw [if_neg c3] at z
        exact z
  · obtain ⟨F, hF, h1, h2⟩ := hr
    unfold F_KW_all_j144
    refine wp_if (fun c => wp_some ⟨F, hF, ?_⟩) (fun c => wp_some ⟨F, hF, ?_⟩)
    · rw [if_pos c, h2]
    · rw [if_neg c, h1]
