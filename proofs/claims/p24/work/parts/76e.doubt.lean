/-! ===== doubt: the reference's call, told exactly ===== -/
def dCf (W : Nat → Int32) (a b : Nat) (P q f e : Int) : Nat → Int := fun t => CMt W a b P q f e (t / 4) (t % 4)
def dDn (W : Nat → Int32) (a b : Nat) (P q f e : Int) : Int := D4 (dCf W a b P q f e)
def dUp (W : Nat → Int32) (a b : Nat) (P q f e : Int) (p : Nat) : Int := D4 (colB (dCf W a b P q f e) (fun s => BMt W a b q f s p))
theorem ite_b {c : Prop} [Decidable c] {w m : Int} (h1 : 0 ≤ w) (h2 : w ≤ m) : 0 ≤ (if c then w else 0) ∧ (if c then w else 0) ≤ m := by
  by_cases q : c
  · rw [if_pos q]
    exact ⟨h1, h2⟩
  · rw [if_neg q]
    omega
theorem tR_b {W : Nat → Int32} {n a b x y k : Nat} {f e : Int} (e1 : 0 ≤ e) (e2 : e < f) (f9 : f ≤ 9) : 0 ≤ TRt n W a b x y f e 4 k ∧ TRt n W a b x y f e 4 k ≤ 324 := by
  have m : ∀ u v : Int, 0 ≤ u → u ≤ 9 → 0 ≤ v → v ≤ 9 → 0 ≤ u * v ∧ u * v ≤ 81 := fun u v a1 a2 a3 a4 => by
    have h1 := Int.mul_nonneg a1 a3
    have h2 := mulb (a := u) (b := v) (m := 9) (n := 9) (by omega) (by omega) (by omega) (by omega)
    omega
  have m0 := m (f - e) (f - e) (by omega) (by omega) (by omega) (by omega)
  have m1 := m e (f - e) (by omega) (by omega) (by omega) (by omega)
  have m2 := m (f - e) e (by omega) (by omega) (by omega) (by omega)
  have m3 := m e e (by omega) (by omega) (by omega) (by omega)
  rw [tR_e]
  have i0 := ite_b (c := k = n * gz W a x (dz W b y) + gz W b y (dz W a x)) m0.1 m0.2
  have i1 := ite_b (c := k = n * gz W a x (1 - dz W b y) + gz W b y (dz W a x)) m1.1 m1.2
  have i2 := ite_b (c := k = n * gz W a x (dz W b y) + gz W b y (1 - dz W a x)) m2.1 m2.2
  have i3 := ite_b (c := k = n * gz W a x (1 - dz W b y) + gz W b y (1 - dz W a x)) m3.1 m3.2
  generalize (if k = n * gz W a x (dz W b y) + gz W b y (dz W a x) then (f - e) * (f - e) else 0) = t0 at *
  generalize (if k = n * gz W a x (1 - dz W b y) + gz W b y (dz W a x) then e * (f - e) else 0) = t1 at *
  generalize (if k = n * gz W a x (dz W b y) + gz W b y (1 - dz W a x) then (f - e) * e else 0) = t2 at *
  generalize (if k = n * gz W a x (1 - dz W b y) + gz W b y (1 - dz W a x) then e * e else 0) = t3 at *
  omega
/-- the reference's rows as the class's -/
theorem C_rows {W : Nat → Int32} {a b : Nat} {P q f e : Int} {N : Mem} (kA : WOKW W a) (kB : WOKW W b) (a2 : mo W a ≤ 2) (b2 : mo W b ≤ 2) (hd1 : ∀ m, m < mo W a → dz W a m ≤ 1) (hd2 : ∀ m, m < mo W b → dz W b m ≤ 1) (e1 : 0 ≤ e) (e2 : e < f) (f9 : f ≤ 9) (p1 : 1 ≤ P) (p2 : P < q) (q9 : q ≤ 9) (hV : ∀ s, s < mo W a * mo W b → rowV N (mo W a * mo W b) s P q f (TRt (mo W b) W a b (s / mo W b) (s % mo W b) f e 4)) : (∀ s k, s < mo W a * mo W b → k < mo W a * mo W b → dCf W a b P q f e (4 * (2 * (s / mo W b) + s % mo W b) + (2 * (k / mo W b) + k % mo W b)) = (N.2 110 (4 * s + k)).toInt) ∧ (∀ r k, r < 4 → k < 4 → ¬ (r / 2 < mo W a ∧ r % 2 < mo W b) → dCf W a b P q f e (4 * r + k) = if r = k then 1 else 0) ∧ (∀ r k, r < 4 → k < 4 → (r / 2 < mo W a ∧ r % 2 < mo W b) → ¬ (k / 2 < mo W a ∧ k % 2 < mo W b) → dCf W a b P q f e (4 * r + k) = 0) := by
  have mA := kA.moK
  have mB := kB.moK
  have hdiv : ∀ s, s < mo W a * mo W b → s / mo W b < mo W a ∧ s % mo W b < mo W b := fun s hs => ⟨Nat.div_lt_of_lt_mul (by rw [Nat.mul_comm]; exact hs), Nat.mod_lt _ (by omega)⟩
  obtain ⟨g1, g2, g3, g4⟩ := qPf (by omega : 1 ≤ f) f9 p1 p2 q9
  refine ⟨fun s k hs hk => ?_, fun r k hr hk nr => ?_, fun r k hr hk rr nk => ?_⟩
  · obtain ⟨s1, s2⟩ := hdiv s hs
    obtain ⟨k1, k2⟩ := hdiv k hk
    have ek : k = mo W b * (k / mo W b) + k % mo W b := (Nat.div_add_mod k (mo W b)).symm
    have es : s = mo W b * (s / mo W b) + s % mo W b := (Nat.div_add_mod s (mo W b)).symm
    have hv := hV s hs k hk
    have bd := tR_b (W := W) (n := mo W b) (a := a) (b := b) (x := s / mo W b) (y := s % mo W b) (k := k) e1 e2 f9
    have pb := mulb (a := P) (b := TRt (mo W b) W a b (s / mo W b) (s % mo W b) f e 4 k) (m := 9) (n := 324) (by omega) (by omega) (by omega) (by omega)
    have ib := ite_b (c := s = k) (w := q * f * f) (m := 729) (by omega) g2
    rw [hv, lI_toInt (by omega) (by omega)]
    unfold dCf
    rw [show (4 * (2 * (s / mo W b) + s % mo W b) + (2 * (k / mo W b) + k % mo W b)) / 4 = 2 * (s / mo W b) + s % mo W b by omega, show (4 * (2 * (s / mo W b) + s % mo W b) + (2 * (k / mo W b) + k % mo W b)) % 4 = 2 * (k / mo W b) + k % mo W b by omega]
    have d2 : (2 * (s / mo W b) + s % mo W b) / 2 = s / mo W b := by omega
    have m2 : (2 * (s / mo W b) + s % mo W b) % 2 = s % mo W b := by omega
    rw [CMt_t (show realP W a b (2 * (s / mo W b) + s % mo W b) from ⟨by omega, by omega⟩), d2, m2]
    have tt := tRC (W := W) (n := mo W b) (a := a) (b := b) (x := s / mo W b) (y := s % mo W b) (x' := k / mo W b) (y' := k % mo W b) (f := f) (e := e) (by omega) k2 (by omega) (fun v hv => by have := (kA.gzK s1 (show v < 3 by omega)).1; omega) (fun u hu => (kB.gzK s2 (show u < 3 by omega)).1) (hd1 _ s1) (hd2 _ s2)
    rw [← ek] at tt
    rw [← tt]
    congr 1
    by_cases c : s = k
    · rw [if_pos c, if_pos (by rw [c])]
    · rw [if_neg c, if_neg (fun w => c ?_)]
      have h1 : s / mo W b = k / mo W b := by omega
      have h2 : s % mo W b = k % mo W b := by omega
      rw [es, ek, h1, h2]
  · unfold dCf
    rw [show (4 * r + k) / 4 = r by omega, show (4 * r + k) % 4 = k by omega]
    exact CMt_f nr
  · unfold dCf
    rw [show (4 * r + k) / 4 = r by omega, show (4 * r + k) % 4 = k by omega, CMt_t rr, tC_0 (fun v hv => (kA.gzK rr.1 (show v < 3 by omega)).1) (fun u hu => (kB.gzK rr.2 (show u < 3 by omega)).1) b2 nk, if_neg (fun w => nk (by rw [← w]; exact rr)), Int.mul_zero]
    rfl
theorem R_doubtJ {a b p : Nat} {x4 x5 : Int32} {P q f e : Int} {M0 L : Mem} (h0 : RIW (M0.1 95)) (ha : (a : Int) < (M0.1 95 5).toInt) (hb : (b : Int) < (M0.1 95 5).toInt) (hp : p < 2) (hd1 : ∀ m, m < mo (M0.1 95) a → dz (M0.1 95) a m ≤ 1) (hd2 : ∀ m, m < mo (M0.1 95) b → dz (M0.1 95) b m ≤ 1) (k2 : mo (M0.1 95) a ≤ 2) (k4 : mo (M0.1 95) b ≤ 2) (eP : (M0.1 95 1).toInt = P) (eq : (M0.1 95 2).toInt = q) (ef : (M0.1 95 4).toInt = f) (ee : (M0.1 95 3).toInt = e) (hL : PRS (M0.1 95) a b P q L) : wpO (F_MO_doubt_j82 (iI (a : Int)) (iI (b : Int)) (iI (p : Int)) x4 x5 false M0) (fun r => r.2.1 94 0 = M0.1 94 0 ∧ (0 < dDn (M0.1 95) a b P q f e ∧ dDn (M0.1 95) a b P q f e ≤ 282429536481) ∧ (-671052578678856 ≤ dUp (M0.1 95) a b P q f e p ∧ dUp (M0.1 95) a b P q f e p ≤ 671052578678856) ∧ (0 < rD (uM 35 L 0 p) (dM 35 L 0) ∧ rD (uM 35 L 0 p) (dM 35 L 0) ≤ 6561) ∧ (-5845851 ≤ rU (uM 35 L 0 p) (dM 35 L 0) ∧ rU (uM 35 L 0 p) (dM 35 L 0) ≤ 5845851) ∧ r.1 = if x4 = 0 then (if x5 = 0 then lI (rU (dUp (M0.1 95) a b P q f e p) (dDn (M0.1 95) a b P q f e)) else lI (rD (dUp (M0.1 95) a b P q f e p) (dDn (M0.1 95) a b P q f e))) else (if x5 = 0 then lI (rU (rU (uM 35 L 0 p) (dM 35 L 0) * rD (dUp (M0.1 95) a b P q f e p) (dDn (M0.1 95) a b P q f e) - rU (dUp (M0.1 95) a b P q f e p) (dDn (M0.1 95) a b P q f e) * rD (uM 35 L 0 p) (dM 35 L 0)) (rD (uM 35 L 0 p) (dM 35 L 0) * rD (dUp (M0.1 95) a b P q f e p) (dDn (M0.1 95) a b P q f e))) else lI (rD (rU (uM 35 L 0 p) (dM 35 L 0) * rD (dUp (M0.1 95) a b P q f e p) (dDn (M0.1 95) a b P q f e) - rU (dUp (M0.1 95) a b P q f e p) (dDn (M0.1 95) a b P q f e) * rD (uM 35 L 0 p) (dM 35 L 0)) (rD (uM 35 L 0 p) (dM 35 L 0) * rD (dUp (M0.1 95) a b P q f e p) (dDn (M0.1 95) a b P q f e))))) := by
  have hA := h0.way a ha
  have hB := h0.way b hb
  have a8 := h0.w8 ha
  have b8 := h0.w8 hb
  obtain ⟨k1, -, -⟩ := hA.moK
  obtain ⟨k3, -, -⟩ := hB.moK
  unfold F_MO_doubt_j82
  refine wp_thr (fun q => nomatch q) (fun _ => thr_f ?_)
  dsimp only
  rw [N_plain, bs]
  refine wp_bind (N_worthsP h0 ha hb) (fun N hN => ?_)
  obtain ⟨hN1, hN2⟩ := hN
  have e95 : N.1 95 = M0.1 95 := hN1.w95
  have hP : N.1 94 19 = iI P := by
    rw [← eP]
    exact (hN1.1 94 19 (by decide)).trans (plM_P M0)
  have hQ : N.1 94 20 = iI q := by
    rw [← eq]
    exact (hN1.1 94 20 (by decide)).trans (plM_Q M0)
  have n0 : N.1 94 0 = M0.1 94 0 := by
    rw [hN1.1 94 0 (by decide)]
    unfold plM
    rw [mI_ix (by decide), mI_ix (by decide)]
  obtain ⟨p1, p2, p9⟩ := h0.tom
  obtain ⟨m1, m2, m3⟩ := h0.mis
  rw [eP] at p1 p2
  rw [eq] at p2 p9
  rw [ee] at m1 m2
  rw [ef] at m2 m3
  have hAN : WOKW (N.1 95) a := by rw [e95]; exact hA
  have hBN : WOKW (N.1 95) b := by rw [e95]; exact hB
  have s0 : stW (M0.1 95) a b 0 := ⟨by omega, by omega⟩
  have wok := hN2 0 p s0 hp
  obtain ⟨U, D, V1, V2, ⟨V3, V4, V5⟩, V6⟩ := wok.val4 (by omega) (by omega) (by omega) (by omega)
  dsimp only at V3 V4 V5
  rw [eP, eq] at wok
  rw [eq] at V4 V5
  obtain ⟨l1, l2⟩ := hL.same hA hB p1 p2 s0 hp wok
  obtain ⟨L1, L2, L3, L4, L5, L6⟩ := hL.2.2.2 0 s0
  have hC := pairS h0 hA hB p1 p2 (show q ≤ 12 by omega)
  have d9 := (hL.2.2.2 0 s0).d9 hC
  have fL := fb_num (by omega) (show q ≤ 12 by omega) (L6 p hp) (by omega)
  obtain ⟨w1, w2, w3, w4, w5, -⟩ := rUD (a := uM 35 L 0 p) L5
  have eU : rU (uM 35 L 0 p) (dM 35 L 0) = U := by
    have e := V1.symm.trans l1
    have hge : (rU (uM 35 L 0 p) (dM 35 L 0)).natAbs ≤ (uM 35 L 0 p).natAbs := Int.natAbs_ediv_le_natAbs _ _
    have gq := gq_bound (G := 99) (X := D) (by decide) (by decide) (show 0 ≤ q by omega) (by omega) (by omega) (by omega)
    rw [lI_eq (by omega) (by omega) (by omega) (by omega)] at e
    exact e.symm
  have eD : rD (uM 35 L 0 p) (dM 35 L 0) = D := by
    have e := V2.symm.trans l2
    rw [lI_eq (by omega) (by omega) (by omega) (by omega)] at e
    exact e.symm
  rw [eU, eD]
  clear l1 l2 L1 L2 L3 L4 L5 L6 fL w1 w2 w3 w4 w5 d9 hC eU eD
  have e0p : 2 * 0 + p = p := by omega
  rw [e0p] at V1 V2
  have bU : -5845851 ≤ U ∧ U ≤ 5845851 := by
    have h1 : 99 * q * D ≤ 99 * 9 * 6561 := Int.mul_le_mul (by omega) V6 (by omega) (by omega)
    omega
  rw [N_moods b8 hBN, bs, N_moods a8 hAN, bs, e95, iI_mulN]
  have hal : mo (M0.1 95) a * mo (M0.1 95) b = 1 ∨ mo (M0.1 95) a * mo (M0.1 95) b = 2 ∨ mo (M0.1 95) a * mo (M0.1 95) b = 4 := by
    have x1 : mo (M0.1 95) a = 1 ∨ mo (M0.1 95) a = 2 := by omega
    have x2 : mo (M0.1 95) b = 1 ∨ mo (M0.1 95) b = 2 := by omega
    rcases x1 with x1 | x1 <;> rcases x2 with x2 | x2 <;> rw [x1, x2] <;> decide
  have hF : N.1 95 4 = iI f := by rw [e95, ← ef, iI_of]
  have hE : N.1 95 3 = iI e := by rw [e95, ← ee, iI_of]
  have hdivA : ∀ s, s < mo (M0.1 95) a * mo (M0.1 95) b → s / mo (M0.1 95) b < mo (M0.1 95) a ∧ s % mo (M0.1 95) b < mo (M0.1 95) b := fun s hs => ⟨Nat.div_lt_of_lt_mul (by rw [Nat.mul_comm]; exact hs), Nat.mod_lt _ (by omega)⟩
  refine wp_bind (wp_q (wp_q (R_doubts (M := N) (P := P) (q := q) (f := f) (e := e) a8 b8 hAN hBN (by rw [e95]; omega) (by rw [e95]; omega) (by rw [e95]; exact hd1) (by rw [e95]; exact hd2) hF hE hP hQ m1 m2 m3 p1 p2 p9) (fun z hz => wpO_of (N_doubts (M := N) (P := P) (q := q) (f := f) (e := e) a8 b8 hAN hBN (by rw [e95]; omega) (by rw [e95]; omega) (by rw [e95]; exact hd1) (by rw [e95]; exact hd2) hF hE hP hQ m1 m2 m3 p1 p2 p9) hz)) (Q_MO_doubts _ _ _)) (fun r9 h9 => ?_)
  obtain ⟨⟨⟨g1, gV⟩, -, g2⟩, g3⟩ := h9
  rw [e95] at g2 gV
  have r104 : r9.2 104 p = lI U := ((g3 104 p (by omega)).2).trans V1
  have r105 : r9.2 105 p = lI D := ((g3 105 p (by omega)).2).trans V2
  obtain ⟨c1, c2, c3⟩ := C_rows hA hB k2 k4 hd1 hd2 m1 m2 m3 p1 p2 p9 gV
  obtain ⟨dp, dB⟩ := detPos hal g2 (by omega) m3 p1 p2 p9
  have dU := detUp hal g2 (by omega) m3 p1 p2 p9
  have eDn : dDn (M0.1 95) a b P q f e = detF (fun t => (r9.2 110 t).toInt) (mo (M0.1 95) a * mo (M0.1 95) b) := det_pat (show mo (M0.1 95) a = 1 ∨ mo (M0.1 95) a = 2 by omega) (show mo (M0.1 95) b = 1 ∨ mo (M0.1 95) b = 2 by omega) c1 c2 c3
  rw [← eDn] at dp dU
  have all4 : 1 ≤ mo (M0.1 95) a * mo (M0.1 95) b ∧ mo (M0.1 95) a * mo (M0.1 95) b ≤ 4 := by omega
  refine wp_bind (wp_q (N_number (n := mo (M0.1 95) a * mo (M0.1 95) b) (Q := fun t => (r9.2 110 t).toInt) (M := r9) all4.1 all4.2 (fun i j _ _ => (lI_of _).symm)) (Q_MO_number _ _)) (fun r10 h10 => ?_)
  obtain ⟨i1, i2⟩ := h10
  rw [i1, ← eDn]
  have j104 : r10.2.2 104 p = lI U := ((i2 104 p (by omega)).2).trans r104
  have j105 : r10.2.2 105 p = lI D := ((i2 105 p (by omega)).2).trans r105
  have j95 : r10.2.1 95 = M0.1 95 := (funext fun i => ((i2 95 i (by omega)).1)).trans (by rw [g1, e95])
  have jQ : r10.2.1 94 20 = iI q := ((i2 94 20 (by omega)).1).trans (by rw [g1, hQ])
  have j0 : r10.2.1 94 0 = M0.1 94 0 := ((i2 94 0 (by omega)).1).trans (by rw [g1, n0])
  have j110 : ∀ t, r10.2.2 110 t = r9.2 110 t := fun t => (i2 110 t (by omega)).2
  clear i1 i2
  generalize r10.2 = N1 at *
  have l0 : (0 : Int32) = iI 0 := rfl
  have hne : ¬ iI (mo (M0.1 95) b : Int) = 0 := by rw [l0, iI_eq] <;> omega
  have jF : M0.1 95 4 = iI f := by rw [← ef, iI_of]
  have brb : ∀ s, s < mo (M0.1 95) a * mo (M0.1 95) b → -99 ≤ br (M0.1 95) (dz (M0.1 95) a (s / mo (M0.1 95) b)) (dz (M0.1 95) b (s % mo (M0.1 95) b)) p ∧ br (M0.1 95) (dz (M0.1 95) a (s / mo (M0.1 95) b)) (dz (M0.1 95) b (s % mo (M0.1 95) b)) p ≤ 99 := fun s hs => by
    obtain ⟨d1, d2⟩ := hdivA s hs
    have w1 := hd1 _ d1
    have w2 := hd2 _ d2
    exact h0.br _ _ p (by omega) (by omega) hp
  have vb : ∀ s, s < mo (M0.1 95) a * mo (M0.1 95) b → -72171 ≤ br (M0.1 95) (dz (M0.1 95) a (s / mo (M0.1 95) b)) (dz (M0.1 95) b (s % mo (M0.1 95) b)) p * q * f * f ∧ br (M0.1 95) (dz (M0.1 95) a (s / mo (M0.1 95) b)) (dz (M0.1 95) b (s % mo (M0.1 95) b)) p * q * f * f ≤ 72171 := fun s hs => by
    have bb := brb s hs
    have n1 := mulb (a := br (M0.1 95) (dz (M0.1 95) a (s / mo (M0.1 95) b)) (dz (M0.1 95) b (s % mo (M0.1 95) b)) p) (b := q) (m := 99) (n := 9) (by omega) (by omega) (by omega) (by omega)
    have n2 := mulb (b := f) (n := 9) n1.1 n1.2 (by omega) (by omega)
    have n3 := mulb (b := f) (n := 9) n2.1 n2.2 (by omega) (by omega)
    omega
  unfold F_MO_doubt_l135
  refine wp_bind (Ψ := fun N2 => N2.1 = N1.1 ∧ N2.2 104 p = lI U ∧ N2.2 105 p = lI D ∧ (∀ i, i < mo (M0.1 95) a * mo (M0.1 95) b → (∀ j, 0 < j → j < mo (M0.1 95) a * mo (M0.1 95) b → N2.2 110 (4 * i + j) = r9.2 110 (4 * i + j)) ∧ N2.2 110 (4 * i) = lI (br (M0.1 95) (dz (M0.1 95) a (i / mo (M0.1 95) b)) (dz (M0.1 95) b (i % mo (M0.1 95) b)) p * q * f * f))) ?_ (fun N2 h2 => ?_)
  · refine wp_iterS (P := fun k z => z.1 = iI (k : Int) ∧ z.2.1 = N1.1 ∧ (∀ c, c ≠ 110 → z.2.2 c = N1.2 c) ∧ (∀ i, i < mo (M0.1 95) a * mo (M0.1 95) b → (∀ j, 0 < j → j < mo (M0.1 95) a * mo (M0.1 95) b → z.2.2 110 (4 * i + j) = r9.2 110 (4 * i + j)) ∧ (i < k → z.2.2 110 (4 * i) = lI (br (M0.1 95) (dz (M0.1 95) a (i / mo (M0.1 95) b)) (dz (M0.1 95) b (i % mo (M0.1 95) b)) p * q * f * f)))) (mo (M0.1 95) a * mo (M0.1 95) b) ?_ FUEL (0, N1) ⟨rfl, rfl, fun _ _ => rfl, fun i hi => ⟨fun j _ _ => j110 _, fun q => absurd q (Nat.not_lt_zero _)⟩⟩ (FUEL_big (by omega))
    rintro k ⟨z1, N2⟩ hk ⟨e1, o1, o2, o3⟩
    dsimp only at e1 o1 o2 o3
    subst e1
    unfold F_MO_doubt_b135
    dsimp only
    refine wp_if (fun c => wp_some ⟨o1, (congrFun (o2 104 (by decide)) p).trans j104, (congrFun (o2 105 (by decide)) p).trans j105, fun i hi => ⟨(o3 i hi).1, ?_⟩⟩) (fun c => ?_)
    · rw [iI_le (by omega) (by omega) (by omega) (by omega)] at c
      exact (o3 i hi).2 (by omega)
    rw [iI_le (by omega) (by omega) (by omega) (by omega)] at c
    have hka : k < mo (M0.1 95) a * mo (M0.1 95) b := by omega
    obtain ⟨d1, d2⟩ := hdivA k hka
    have o95 : N2.1 95 = M0.1 95 := by rw [o1, j95]
    have w1 := hd1 _ d1
    have w2 := hd2 _ d2
    have bb := brb k hka
    rw [idivN (by omega) (by omega), irmN (by omega) (by omega)]
    refine wp_t hne ?_
    rw [N_doesW (M := N2) a8 (by rw [o95]; exact hA) (by rw [o95]; exact d1), bs]
    refine wp_t hne ?_
    rw [N_doesW (M := N2) b8 (by rw [o95]; exact hB) (by rw [o95]; exact d2), bs, o95, N_brings (by omega) (by omega) hp, bs, o95]
    have e4 : 4 * iI (k : Int) = iI ((4 * k : Nat) : Int) := by
      rw [l32_4, iI_mul]
      rfl
    rw [e4]
    refine wp_t ib4 (wp_t ib4 (wp_t (inb_iI (by omega) (by omega) (by omega)) ?_))
    rw [tn4, jF, o1, jQ, iI_l (by omega) (by omega), iI_l (by omega) (by omega), iI_l (by omega) (by omega), lI_mul, lI_mul, lI_mul]
    refine (wp_some ⟨by omega, iI_succ k, o1, fun c' hc' => ?_, fun i hi => ⟨fun j j0 jn => ?_, fun hik => ?_⟩⟩)
    · funext i
      exact (mL_cell hc').trans (congrFun (o2 c' hc') i)
    · show (mSL N2 110 _ _).2 110 (4 * i + j) = _
      rw [clN (by omega), mL_ix (by omega)]
      exact (o3 i hi).1 j j0 jn
    · show (mSL N2 110 (iI ((4 * k : Nat) : Int)).toNatClampNeg _).2 110 (4 * i) = _
      rw [clN (by omega)]
      by_cases qi : i = k
      · rw [qi, mL_hit]
      · rw [mL_ix (by omega)]
        exact (o3 i hi).2 (by omega)
  · obtain ⟨o1, h104, h105, hs⟩ := h2
    have hsq : sqB (fun t => (N2.2 110 t).toInt) (mo (M0.1 95) a * mo (M0.1 95) b) 72171 := fun i hi => by
      obtain ⟨q1, q2⟩ := hs i hi
      have v := vb i hi
      refine ⟨?_, fun j j0 jn => ?_⟩
      · dsimp only
        rw [q2, lI_toInt (by omega) (by omega)]
        exact v
      · dsimp only
        rw [q1 j j0 jn]
        exact (dB i hi).2 j j0 jn
    have nb := detB hal (by decide) hsq
    have eUp : dUp (M0.1 95) a b P q f e p = detF (fun t => (N2.2 110 t).toInt) (mo (M0.1 95) a * mo (M0.1 95) b) := by
      refine det_pat (show mo (M0.1 95) a = 1 ∨ mo (M0.1 95) a = 2 by omega) (show mo (M0.1 95) b = 1 ∨ mo (M0.1 95) b = 2 by omega) (fun s k hs' hk' => ?_) (fun r k hr hk nr => ?_) (fun r k hr hk rr nk => ?_)
      · obtain ⟨s1, s2⟩ := hdivA s hs'
        obtain ⟨k1', k2'⟩ := hdivA k hk'
        have ek : k = mo (M0.1 95) b * (k / mo (M0.1 95) b) + k % mo (M0.1 95) b := (Nat.div_add_mod k (mo (M0.1 95) b)).symm
        unfold colB
        by_cases q0 : k = 0
        · subst q0
          rw [if_pos (by rw [Nat.zero_div, Nat.zero_mod]; omega), Nat.zero_div, Nat.zero_mod, show (4 * (2 * (s / mo (M0.1 95) b) + s % mo (M0.1 95) b) + (2 * 0 + 0)) / 4 = 2 * (s / mo (M0.1 95) b) + s % mo (M0.1 95) b by omega]
          have d2 : (2 * (s / mo (M0.1 95) b) + s % mo (M0.1 95) b) / 2 = s / mo (M0.1 95) b := by omega
          have m2' : (2 * (s / mo (M0.1 95) b) + s % mo (M0.1 95) b) % 2 = s % mo (M0.1 95) b := by omega
          have v := vb s hs'
          dsimp only
          rw [BMt_t (show realP (M0.1 95) a b (2 * (s / mo (M0.1 95) b) + s % mo (M0.1 95) b) from ⟨by omega, by omega⟩), d2, m2', show 4 * s + 0 = 4 * s from rfl, (hs s hs').2, lI_toInt (by omega) (by omega)]
          grind
        · have nz : ¬ (2 * (k / mo (M0.1 95) b) + k % mo (M0.1 95) b = 0) := fun w => q0 (by
            have w1 : k / mo (M0.1 95) b = 0 := by omega
            have w2 : k % mo (M0.1 95) b = 0 := by omega
            rw [w1, w2] at ek
            omega)
          rw [if_neg (by omega), c1 s k hs' hk']
          rw [(hs s hs').1 k (by omega) hk']
      · unfold colB
        by_cases q0 : k = 0
        · subst q0
          rw [if_pos (by omega), show (4 * r + 0) / 4 = r by omega]
          dsimp only
          rw [BMt_f nr, if_neg (fun w => nr (by rw [w]; omega))]
        · rw [if_neg (by omega)]
          exact c2 r k hr hk nr
      · have q0 : k ≠ 0 := fun w => nk (by rw [w]; omega)
        unfold colB
        rw [if_neg (by omega)]
        exact c3 r k hr hk rr nk
    rw [← eUp] at nb
    unfold F_MO_doubt_j205
    refine wp_bind (wp_q (N_number (n := mo (M0.1 95) a * mo (M0.1 95) b) (Q := fun t => (N2.2 110 t).toInt) (M := N2) all4.1 all4.2 (fun i j _ _ => (lI_of _).symm)) (Q_MO_number _ _)) (fun r11 h11 => ?_)
    obtain ⟨i1, i2⟩ := h11
    rw [i1, ← eUp]
    have k104 : r11.2.2 104 p = lI U := ((i2 104 p (by omega)).2).trans h104
    have k105 : r11.2.2 105 p = lI D := ((i2 105 p (by omega)).2).trans h105
    have k0 : r11.2.1 94 0 = M0.1 94 0 := ((i2 94 0 (by omega)).1).trans (by rw [o1, j0])
    clear i1 i2 eUp hsq hs eDn c1 c2 c3
    generalize dUp (M0.1 95) a b P q f e p = nn at *
    generalize dDn (M0.1 95) a b P q f e = dd at *
    obtain ⟨u1, u2, u3, u4, u5, -⟩ := rUD (a := nn) dp
    have hge : (rU nn dd).natAbs ≤ nn.natAbs := Int.natAbs_ediv_le_natAbs _ _
    rw [N_tells (by omega) (by omega) dp (by omega), bs]
    have bnd : (0 < dd ∧ dd ≤ 282429536481) ∧ (-671052578678856 ≤ nn ∧ nn ≤ 671052578678856) ∧ (0 < D ∧ D ≤ 6561) ∧ (-5845851 ≤ U ∧ U ≤ 5845851) := ⟨⟨dp, dU⟩, by omega, ⟨V3, V6⟩, bU⟩
    refine wp_if (fun cx => ?_) (fun cx => ?_)
    · unfold F_MO_doubt_j284
      refine wp_if (fun cy => wp_some ⟨?_, bnd.1, bnd.2.1, bnd.2.2.1, bnd.2.2.2, ?_⟩) (fun cy => wp_some ⟨?_, bnd.1, bnd.2.1, bnd.2.2.1, bnd.2.2.2, ?_⟩)
      · exact k0
      · rw [if_pos cx, if_pos cy]
        show (mSL (mSL r11.2 94 15 (lI (rU nn dd))) 94 16 (lI (rD nn dd))).2 94 15 = _
        rw [mL_ix (by decide), mL_hit]
      · exact k0
      · rw [if_pos cx, if_neg cy]
        show (mSL (mSL r11.2 94 15 (lI (rU nn dd))) 94 16 (lI (rD nn dd))).2 94 16 = _
        exact mL_hit
    have i18 : inb (iI (p : Int)) 18 := inb_iI (by omega) (by omega) (by omega)
    have v15 : (mSL (mSL r11.2 94 15 (lI (rU nn dd))) 94 16 (lI (rD nn dd))).2 94 15 = lI (rU nn dd) := by rw [mL_ix (by decide), mL_hit]
    have v16 : (mSL (mSL r11.2 94 15 (lI (rU nn dd))) 94 16 (lI (rD nn dd))).2 94 16 = lI (rD nn dd) := mL_hit
    have v104 : (mSL (mSL r11.2 94 15 (lI (rU nn dd))) 94 16 (lI (rD nn dd))).2 104 (iI (p : Int)).toNatClampNeg = lI U := by
      rw [clN (by omega), mL_cell (by decide), mL_cell (by decide), k104]
    have v105 : (mSL (mSL r11.2 94 15 (lI (rU nn dd))) 94 16 (lI (rD nn dd))).2 105 (iI (p : Int)).toNatClampNeg = lI D := by
      rw [clN (by omega), mL_cell (by decide), mL_cell (by decide), k105]
    have v0 : (mSL (mSL r11.2 94 15 (lI (rU nn dd))) 94 16 (lI (rD nn dd))).1 94 0 = M0.1 94 0 := k0
    generalize mSL (mSL r11.2 94 15 (lI (rU nn dd))) 94 16 (lI (rD nn dd)) = N3 at *
    refine wp_t i18 ?_
    rw [v16, v105, N_common (by omega) (by omega) (by omega) (by omega), bs]
    have hg : 0 < Int.gcd (rD nn dd) D := Int.gcd_pos_of_ne_zero_right _ (by omega)
    have gle : (Int.gcd (rD nn dd) D : Int) ≤ D := Int.le_of_dvd V3 (Int.gcd_dvd_right _ _)
    have hgp : (0 : Int) < (Int.gcd (rD nn dd) D : Int) := by omega
    have z0 : (0 : Int64) = lI 0 := rfl
    have hgn : ¬ lI (Int.gcd (rD nn dd) D : Int) = 0 := by rw [z0, lI_eq] <;> omega
    refine wp_t i18 (wp_t hgn (wp_t i18 (wp_t hgn (wp_t hgn (wp_t i18 ?_)))))
    have hdv : (Int.gcd (rD nn dd) D : Int) ∣ rD nn dd := Int.gcd_dvd_left _ _
    have hdv2 : (Int.gcd (rD nn dd) D : Int) ∣ D := Int.gcd_dvd_right _ _
    rw [v15, v104, ldiv_lI (a := rD nn dd) (by omega) (by omega) (by omega) (by omega), ldiv_lI (a := D) (by omega) (by omega) (by omega) (by omega), Int.tdiv_eq_ediv_of_dvd hdv, Int.tdiv_eq_ediv_of_dvd hdv2, lI_mul, lI_mul, lI_sub, lI_mul]
    have q1 : rD nn dd / (Int.gcd (rD nn dd) D : Int) * (Int.gcd (rD nn dd) D : Int) = rD nn dd := Int.ediv_mul_cancel hdv
    have q1' : D / (Int.gcd (rD nn dd) D : Int) * (Int.gcd (rD nn dd) D : Int) = D := Int.ediv_mul_cancel hdv2
    have q3 : rD nn dd / (Int.gcd (rD nn dd) D : Int) ≤ rD nn dd := Int.ediv_le_self _ (by omega)
    have q3' : D / (Int.gcd (rD nn dd) D : Int) ≤ D := Int.ediv_le_self _ (by omega)
    generalize (Int.gcd (rD nn dd) D : Int) = g at *
    generalize rD nn dd / g = X at *
    generalize D / g = Y at *
    have posX : ∀ x y : Int, x * g = y → 0 < y → 0 < x := fun x y hxy hy => by
      rcases Int.lt_or_le 0 x with q | q
      · exact q
      · have := Int.mul_nonpos_of_nonpos_of_nonneg q (show (0 : Int) ≤ g by omega)
        omega
    have q2 := posX X _ q1 u4
    have q2' := posX Y _ q1' V3
    have q4 := Int.mul_pos q2 V3
    have q5 := (mulb (a := X) (b := D) (m := 282429536481) (n := 6561) (by omega) (by omega) (by omega) (by omega)).2
    have q6 := mulb (a := U) (b := X) (m := 5845851) (n := 282429536481) (by omega) (by omega) (by omega) (by omega)
    have q7 := mulb (a := rU nn dd) (b := Y) (m := 671052578678856) (n := 6561) (by omega) (by omega) (by omega) (by omega)
    rw [N_tells (by omega) (by omega) q4 (by omega), bs]
    have dD := Int.mul_pos V3 u4
    obtain ⟨y1, y2⟩ := rU_one (a := U * X - rU nn dd * Y) (b := X * D) (c := U * rD nn dd - rU nn dd * D) (d := D * rD nn dd) q4 dD (by
      generalize rU nn dd = u at *
      generalize rD nn dd = v at *
      rw [← q1, ← q1']
      grind)
    rw [y1, y2]
    unfold F_MO_doubt_j284
    refine wp_if (fun cy => wp_some ⟨?_, bnd.1, bnd.2.1, bnd.2.2.1, bnd.2.2.2, ?_⟩) (fun cy => wp_some ⟨?_, bnd.1, bnd.2.1, bnd.2.2.1, bnd.2.2.2, ?_⟩)
    · exact v0
    · rw [if_neg cx, if_pos cy]
      show (mSL (mSL N3 94 15 (lI (rU (U * rD nn dd - rU nn dd * D) (D * rD nn dd)))) 94 16 (lI (rD (U * rD nn dd - rU nn dd * D) (D * rD nn dd)))).2 94 15 = _
      rw [mL_ix (by decide), mL_hit]
    · exact v0
    · rw [if_neg cx, if_neg cy]
      show (mSL (mSL N3 94 15 (lI (rU (U * rD nn dd - rU nn dd * D) (D * rD nn dd)))) 94 16 (lI (rD (U * rD nn dd - rU nn dd * D) (D * rD nn dd)))).2 94 16 = _
      exact mL_hit
