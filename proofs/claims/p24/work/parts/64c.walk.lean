/-! ===== days that are lived: judge, brought, drawn; field ===== -/
/-- the acts of a day of the row -/
def rwN (W : Nat → Int32) (j : Nat) : Nat := (W (152 + j)).toInt.toNat
theorem rwN_ok {W : Nat → Int32} {j : Nat} (h : RIW W) (hj : j < 400) : rwN W j ≤ 2 ∧ W (152 + j) = iI (rwN W j : Int) := by
  have r := h.row j hj
  refine ⟨?_, iI_nat r.1⟩
  unfold rwN
  omega
theorem C_rowAt {W : Nat → Int32} {j : Nat} {M : Mem} (h : CW W M) (hj : (j : Int) < 2 * (W 7).toInt) : F_Row_small 7 400 (iI (j : Int)) M = some (iI (rwN W j : Int)) := by
  have r7 := h.2.1.rowN
  have r := rwN_ok h.2.1 (j := j) (by omega)
  rw [V_Row_small (by omega) (by omega) (by decide)]
  show some (M.2 7 j).toInt32 = _
  rw [h.2.2.2.2.2 j hj, r.2, iI_l (by omega) (by omega), lI_i]
/-! judge -/
def jdS (W : Nat → Int32) (a b : Nat) : Nat → Nat × Nat
  | 0 => (0, 0)
  | d + 1 => (gz W a (jdS W a b d).1 (rwN W (2 * d + 1)), gz W b (jdS W a b d).2 (rwN W (2 * d)))
theorem jdS_s {W : Nat → Int32} {a b d : Nat} : jdS W a b (d + 1) = (gz W a (jdS W a b d).1 (rwN W (2 * d + 1)), gz W b (jdS W a b d).2 (rwN W (2 * d))) := rfl
def jdR (W : Nat → Int32) (a b : Nat) : Nat → Nat → Int
  | 0, _ => -1
  | f + 1, d => if rwN W (2 * d) ≠ dz W a (jdS W a b d).1 then 2 * (d : Int) else if rwN W (2 * d + 1) ≠ dz W b (jdS W a b d).2 then 2 * (d : Int) + 1 else jdR W a b f (d + 1)
theorem jdR_s {W : Nat → Int32} {a b f d : Nat} : jdR W a b (f + 1) d = if rwN W (2 * d) ≠ dz W a (jdS W a b d).1 then 2 * (d : Int) else if rwN W (2 * d + 1) ≠ dz W b (jdS W a b d).2 then 2 * (d : Int) + 1 else jdR W a b f (d + 1) := rfl
theorem jdS_b {W : Nat → Int32} {a b : Nat} (h : RIW W) (hA : WOKW W a) (hB : WOKW W b) : ∀ d, d ≤ 200 → (jdS W a b d).1 < mo W a ∧ (jdS W a b d).2 < mo W b := by
  intro d
  induction d with
  | zero => exact fun _ => ⟨hA.moK.1, hB.moK.1⟩
  | succ d ih =>
    intro hd
    have i := ih (by omega)
    rw [jdS_s]
    have d1 := (rwN_ok h (j := 2 * d + 1) (by omega)).1
    have d2 := (rwN_ok h (j := 2 * d) (by omega)).1
    exact ⟨(hA.gzK i.1 (by omega)).1, (hB.gzK i.2 (by omega)).1⟩
def jd (W : Nat → Int32) (a b : Nat) : Int32 := iI (jdR W a b (W 7).toInt.toNat 0)
theorem C_judge {W : Nat → Int32} {a b : Nat} {M : Mem} (h : CW W M) (ha : (a : Int) < (W 5).toInt) (hb : (b : Int) < (W 5).toInt) : wpO (F_Walk_firstOtherwise (iI (a : Int)) (iI (b : Int)) M) (fun r => r.1 = jd W a b) := by
  have hA := h.wk ha
  have hB := h.wk hb
  have r7 := h.2.1.rowN
  obtain ⟨R, hR⟩ : ∃ R : Nat, (W 7).toInt = R := ⟨(W 7).toInt.toNat, by omega⟩
  have e7 : W 7 = iI (R : Int) := by rw [← hR, iI_of]
  have ejd : jd W a b = iI (jdR W a b R 0) := by
    unfold jd
    rw [hR]
    rfl
  have mA := hA.moK
  have mB := hB.moK
  unfold F_Walk_firstOtherwise
  refine wp_bind (C_start h) (fun N0 hN0 => ?_)
  unfold F_Walk_firstOtherwise_l8
  refine wp_bind (Ψ := fun q => match q with | .inl r => 2 * r.1 = jd W a b | .inr (.inl r) => (2 * r.1) + 1 = jd W a b | .inr (.inr _) => (-1 : Int32) = jd W a b) ?_ (fun q hq => ?_)
  · refine wp_iterS (P := fun (d : Nat) (z : Int32 × Mem) => z.1 = iI (d : Int) ∧ d ≤ R ∧ WK W a b (jdS W a b d).1 (jdS W a b d).2 z.2 ∧ jdR W a b (R - d) d = jdR W a b R 0) R ?_ _ _ ⟨rfl, Nat.zero_le _, hN0.1, rfl⟩ (FUEL_big (by omega))
    rintro d ⟨z1, N⟩ hd ⟨e1, -, wk, eq⟩
    dsimp only at e1 wk
    subst e1
    unfold F_Walk_firstOtherwise_b8
    dsimp only
    rw [wk.1.2.2.1.2.2.2.2.2.2.2, e7]
    refine wp_if (fun c => wp_some ?_) (fun c => ?_)
    · rw [iI_le (by omega) (by omega) (by omega) (by omega)] at c
      rw [show R - d = 0 by omega] at eq
      show (-1 : Int32) = jd W a b
      rw [ejd, ← eq, tm1]
      rfl
    rw [iI_le (by omega) (by omega) (by omega) (by omega)] at c
    rw [show R - d = (R - (d + 1)) + 1 by omega, jdR_s] at eq
    have jb := jdS_b h.2.1 hA hB d (by omega)
    have r1 := rwN_ok h.2.1 (j := 2 * d) (by omega)
    have r2 := rwN_ok h.2.1 (j := 2 * d + 1) (by omega)
    have d1 := hA.dzK jb.1
    have d2 := hB.dzK jb.2
    have e2 : 2 * iI (d : Int) = iI ((2 * d : Nat) : Int) := by rw [l32n_2, iI_pm]
    rw [e2, iI_succ, C_rowAt wk.1 (by omega), bs, C_rowAt wk.1 (by omega), bs, wk.2.1, wk.2.2.1, wk.2.2.2.1, wk.2.2.2.2, C_actOf wk.1 ha jb.1, bs]
    refine wp_if (fun c1 => ?_) (fun c1 => wp_some ?_)
    · rw [iI_eq (by omega) (by omega) (by omega) (by omega)] at c1
      rw [if_neg (show ¬ (rwN W (2 * d) ≠ dz W a (jdS W a b d).1) from fun w => w (by omega))] at eq
      rw [C_actOf wk.1 hb jb.2, bs]
      refine wp_if (fun c2 => ?_) (fun c2 => wp_some ?_)
      · rw [iI_eq (by omega) (by omega) (by omega) (by omega)] at c2
        rw [if_neg (show ¬ (rwN W (2 * d + 1) ≠ dz W b (jdS W a b d).2) from fun w => w (by omega))] at eq
        refine wp_bind (C_goOn wk ha hb jb.1 jb.2 (by omega) (by omega)) (fun P hP => wp_some ⟨by omega, iI_succ d, by omega, hP.1, eq⟩)
      · rw [iI_eq (by omega) (by omega) (by omega) (by omega)] at c2
        rw [if_pos (show rwN W (2 * d + 1) ≠ dz W b (jdS W a b d).2 from fun w => c2 (by omega))] at eq
        show (2 * iI (d : Int)) + 1 = jd W a b
        rw [e2, iI_succ, ejd, ← eq]
        congr 1
    · rw [iI_eq (by omega) (by omega) (by omega) (by omega)] at c1
      rw [if_pos (show rwN W (2 * d) ≠ dz W a (jdS W a b d).1 from fun w => c1 (by omega))] at eq
      show 2 * iI (d : Int) = jd W a b
      rw [e2, ejd, ← eq]
      congr 1
  · rcases q with q | q | q
    · exact wp_some hq
    · exact wp_some hq
    · exact wp_some hq
theorem R_judge {W : Nat → Int32} {a b : Nat} {M : Mem} (hW : M.1 95 = W) (h : RIW W) (ha : (a : Int) < (W 5).toInt) (hb : (b : Int) < (W 5).toInt) : wpO (F_MO_judge_l73 (iI (a : Int)) (iI (b : Int)) 0 0 0 M) (fun r => r.1 = jd W a b ∧ r.2 = M) := by
  subst hW
  have hA := h.way a ha
  have hB := h.way b hb
  have r7 := h.rowN
  have r5 := h.ways
  obtain ⟨R, hR⟩ : ∃ R : Nat, (M.1 95 7).toInt = R := ⟨(M.1 95 7).toInt.toNat, by omega⟩
  have e7 : M.1 95 7 = iI (R : Int) := by rw [← hR, iI_of]
  have ejd : jd (M.1 95) a b = iI (jdR (M.1 95) a b R 0) := by
    unfold jd
    rw [hR]
    rfl
  have mA := hA.moK
  have mB := hB.moK
  unfold F_MO_judge_l73
  refine wp_bind (Ψ := fun q => match q with | .inl r => 2 * r = jd (M.1 95) a b | .inr (.inl r) => (2 * r) + 1 = jd (M.1 95) a b | .inr (.inr _) => (-1 : Int32) = jd (M.1 95) a b) ?_ (fun q hq => ?_)
  · refine wp_iterS (P := fun d z => z.2.2 = iI (d : Int) ∧ d ≤ R ∧ (z.1 = iI ((jdS (M.1 95) a b d).1 : Int) ∧ z.2.1 = iI ((jdS (M.1 95) a b d).2 : Int)) ∧ jdR (M.1 95) a b (R - d) d = jdR (M.1 95) a b R 0) R ?_ _ _ ⟨rfl, Nat.zero_le _, ⟨rfl, rfl⟩, rfl⟩ (FUEL_big (by omega))
    rintro d ⟨z1, z2, z3⟩ hd ⟨e3, -, ⟨e1, e2⟩, eq⟩
    dsimp only at e1 e2 e3
    subst e1
    subst e2
    subst e3
    unfold F_MO_judge_b73
    dsimp only
    refine wp_t ib7 ?_
    rw [tn7, e7]
    refine wp_if (fun c => wp_some ?_) (fun c => ?_)
    · rw [iI_le (by omega) (by omega) (by omega) (by omega)] at c
      rw [show R - d = 0 by omega] at eq
      show (-1 : Int32) = jd (M.1 95) a b
      rw [ejd, ← eq, tm1]
      rfl
    rw [iI_le (by omega) (by omega) (by omega) (by omega)] at c
    rw [show R - d = (R - (d + 1)) + 1 by omega, jdR_s] at eq
    have jb := jdS_b h hA hB d (by omega)
    have r1 := rwN_ok h (j := 2 * d) (by omega)
    have r2 := rwN_ok h (j := 2 * d + 1) (by omega)
    have d1 := hA.dzK jb.1
    have d2 := hB.dzK jb.2
    have e2 : 2 * iI (d : Int) = iI ((2 * d : Nat) : Int) := by rw [l32n_2, iI_pm]
    rw [e152, e153]
    refine wp_t (inb_iI (by omega) (by omega) (by omega)) (wp_t (inb_iI (by omega) (by omega) (by omega)) ?_)
    rw [clN (by omega), clN (by omega), r1.2, r2.2, N_doesW (by omega) hA jb.1, bs]
    refine wp_if (fun c1 => ?_) (fun c1 => wp_some ?_)
    · rw [iI_eq (by omega) (by omega) (by omega) (by omega)] at c1
      rw [if_neg (show ¬ (rwN (M.1 95) (2 * d) ≠ dz (M.1 95) a (jdS (M.1 95) a b d).1) from fun w => w (by omega))] at eq
      rw [N_doesW (by omega) hB jb.2, bs]
      refine wp_if (fun c2 => ?_) (fun c2 => wp_some ?_)
      · rw [iI_eq (by omega) (by omega) (by omega) (by omega)] at c2
        rw [if_neg (show ¬ (rwN (M.1 95) (2 * d + 1) ≠ dz (M.1 95) b (jdS (M.1 95) a b d).2) from fun w => w (by omega))] at eq
        rw [N_goesW (by omega) hA jb.1 r2.1, bs, N_goesW (by omega) hB jb.2 r1.1, bs]
        exact wp_some ⟨by omega, iI_succ d, by omega, ⟨rfl, rfl⟩, eq⟩
      · rw [iI_eq (by omega) (by omega) (by omega) (by omega)] at c2
        rw [if_pos (show rwN (M.1 95) (2 * d + 1) ≠ dz (M.1 95) b (jdS (M.1 95) a b d).2 from fun w => c2 (by omega))] at eq
        show (2 * iI (d : Int)) + 1 = jd (M.1 95) a b
        rw [e2, iI_succ, ejd, ← eq]
        congr 1
    · rw [iI_eq (by omega) (by omega) (by omega) (by omega)] at c1
      rw [if_pos (show rwN (M.1 95) (2 * d) ≠ dz (M.1 95) a (jdS (M.1 95) a b d).1 from fun w => c1 (by omega))] at eq
      show 2 * iI (d : Int) = jd (M.1 95) a b
      rw [e2, ejd, ← eq]
      congr 1
  · rcases q with q | q | q
    · exact wp_some ⟨hq, rfl⟩
    · exact wp_some ⟨hq, rfl⟩
    · exact wp_some ⟨hq, rfl⟩
/-- the row has acts that are none now -/
def rwB (W : Nat → Int32) : Bool := (List.range 400).any (fun j => decide ((j : Int) < 2 * (W 7).toInt ∧ (W 0).toInt ≤ (rwN W j : Int)))
theorem rwB_t {W : Nat → Int32} {j : Nat} (h : j < 400) (h1 : (j : Int) < 2 * (W 7).toInt) (h2 : (W 0).toInt ≤ (rwN W j : Int)) : rwB W = true := by
  unfold rwB
  rw [List.any_eq_true]
  exact ⟨j, List.mem_range.mpr h, decide_eq_true ⟨h1, h2⟩⟩
theorem rwB_f {W : Nat → Int32} (h : ∀ j : Nat, j < 400 → (j : Int) < 2 * (W 7).toInt → (rwN W j : Int) < (W 0).toInt) : rwB W = false := by
  unfold rwB
  rw [List.any_eq_false]
  intro j hj w
  have w2 := of_decide_eq_true w
  have := h j (List.mem_range.mp hj) w2.1
  omega
theorem C_unknown {W : Nat → Int32} {M : Mem} (h : CW W M) : F_Well_doesUnknownAct M = some (rwB W) := by
  have r7 := h.2.1.rowN
  have r0 := h.2.1.acts
  obtain ⟨R, hR⟩ : ∃ R : Nat, (W 7).toInt = R := ⟨(W 7).toInt.toNat, by omega⟩
  have e7 : W 7 = iI (R : Int) := by rw [← hR, iI_of]
  have l400 : (400 : Int32) = iI 400 := rfl
  have e2 : 2 * iI (R : Int) = iI ((2 * R : Nat) : Int) := by rw [l32n_2, iI_pm]
  apply wp_of
  unfold F_Well_doesUnknownAct F_Well_doesUnknownAct_l2
  refine wp_bind (Ψ := fun q => (q = .inl () ∧ rwB W = true) ∨ (q = .inr () ∧ rwB W = false)) ?_ (fun q hq => ?_)
  · refine wp_iterS (P := fun k z => z = iI (k : Int) ∧ k ≤ 2 * R ∧ ∀ j, j < k → (rwN W j : Int) < (W 0).toInt) 400 ?_ _ _ ⟨rfl, Nat.zero_le _, fun j q => absurd q (Nat.not_lt_zero _)⟩ (FUEL_big (by decide))
    rintro k z hk ⟨rfl, k2, hz⟩
    have done : 2 * R ≤ k → rwB W = false := fun w => rwB_f (fun j _ j2 => hz j (by omega))
    unfold F_Well_doesUnknownAct_b2
    refine wp_if (fun c => wp_some (Or.inr ⟨rfl, done ?_⟩)) (fun c => ?_)
    · rw [l400, iI_le (by omega) (by omega) (by omega) (by omega)] at c
      omega
    rw [l400, iI_le (by omega) (by omega) (by omega) (by omega)] at c
    rw [h.2.2.1.2.2.2.2.2.2.2, e7, e2]
    refine wp_if (fun c2 => wp_some (Or.inr ⟨rfl, done ?_⟩)) (fun c2 => ?_)
    · rw [iI_le (by omega) (by omega) (by omega) (by omega)] at c2
      omega
    rw [iI_le (by omega) (by omega) (by omega) (by omega)] at c2
    have r := rwN_ok h.2.1 (j := k) (by omega)
    rw [V_Row_at (by omega) (by omega) (by decide), bs]
    have ev : M.2 7 ((k : Int)).toNat = lI (rwN W k : Int) := by
      show M.2 7 k = _
      rw [h.2.2.2.2.2 k (by omega), r.2, iI_l (by omega) (by omega)]
    have e0 : (M.1 1 0).toInt64 = lI (W 0).toInt := by
      rw [h.2.2.1.1, ← iI_of (W 0), iI_l (by omega) (by omega), iI_of]
    rw [ev, e0]
    refine wp_if (fun c3 => wp_some ⟨by omega, iI_succ k, by omega, fun j hj => ?_⟩) (fun c3 => wp_some (Or.inl ⟨rfl, rwB_t (j := k) (by omega) (by omega) ?_⟩))
    · rw [lI_lt (by omega) (by omega) (by omega) (by omega)] at c3
      by_cases q : j = k
      · rw [q]
        exact c3
      · exact hz j (by omega)
    · rw [lI_lt (by omega) (by omega) (by omega) (by omega)] at c3
      omega
  · rcases hq with ⟨rfl, e⟩ | ⟨rfl, e⟩
    · exact wp_some e.symm
    · exact wp_some e.symm
theorem R_rowBar {W : Nat → Int32} {M : Mem} (hW : M.1 95 = W) (h : RIW W) : F_MO_rowIsBarred M = some (rwB W) := by
  subst hW
  have r7 := h.rowN
  have r0 := h.acts
  obtain ⟨R, hR⟩ : ∃ R : Nat, (M.1 95 7).toInt = R := ⟨(M.1 95 7).toInt.toNat, by omega⟩
  have e7 : M.1 95 7 = iI (R : Int) := by rw [← hR, iI_of]
  have e2 : 2 * iI (R : Int) = iI ((2 * R : Nat) : Int) := by rw [l32n_2, iI_pm]
  apply wp_of
  unfold F_MO_rowIsBarred F_MO_rowIsBarred_l4
  refine wp_bind (Ψ := fun r => r = rwB (M.1 95)) ?_ (fun r hr => wp_some hr)
  refine wp_iterS (P := fun k z => z.2 = iI (k : Int) ∧ k ≤ 2 * R ∧ (z.1 = true → rwB (M.1 95) = true) ∧ (z.1 = false → ∀ j, j < k → (rwN (M.1 95) j : Int) < (M.1 95 0).toInt)) 400 ?_ _ _ ⟨rfl, Nat.zero_le _, (fun q => nomatch q), fun _ j q => absurd q (Nat.not_lt_zero _)⟩ (FUEL_big (by decide))
  rintro k ⟨z1, z2⟩ hk ⟨ez, k2, h1, h2⟩
  dsimp only at ez h1 h2
  subst ez
  unfold F_MO_rowIsBarred_b4
  dsimp only
  refine wp_t ib7 ?_
  rw [tn7, e7, e2]
  refine wp_if (fun c => wp_some ?_) (fun c => ?_)
  · rw [iI_le (by omega) (by omega) (by omega) (by omega)] at c
    show z1 = rwB (M.1 95)
    cases hz : z1 with
    | true => exact (h1 hz).symm
    | false => exact (rwB_f (fun j _ j2 => h2 hz j (by omega))).symm
  rw [iI_le (by omega) (by omega) (by omega) (by omega)] at c
  refine wp_if (fun cz => wp_some ⟨by omega, iI_succ k, by omega, fun _ => h1 cz, (fun q => nomatch q)⟩) (fun cz => ?_)
  have zf : z1 = false := by
    cases hz : z1 with
    | true => exact absurd hz cz
    | false => rfl
  have e3 : 152 + iI (k : Int) = iI ((152 + k : Nat) : Int) := by
    rw [l32_152, iI_add]
    rfl
  have r := rwN_ok h (j := k) (by omega)
  rw [e3]
  refine wp_t (inb_iI (by omega) (by omega) (by omega)) ?_
  rw [clN (by omega), r.2, S_noAct (by rw [le_i, li0]; omega), bs]
  by_cases q : (rwN (M.1 95) k : Int) < (M.1 95 0).toInt
  · rw [decide_eq_true ⟨by rw [le_i, li0, iI_toInt (by omega) (by omega)]; omega, by rw [lt_i, iI_toInt (by omega) (by omega)]; exact q⟩]
    refine wp_ff (wp_some ⟨by omega, iI_succ k, by omega, (fun q => nomatch q), fun _ j hj => ?_⟩)
    by_cases q2 : j = k
    · rw [q2]
      exact q
    · exact h2 zf j (by omega)
  · rw [decide_eq_false (fun w => q (by have := w.2; rw [lt_i, iI_toInt (by omega) (by omega)] at this; exact this))]
    exact wp_tt (wp_some ⟨by omega, iI_succ k, by omega, fun _ => rwB_t (j := k) (by omega) (by omega) (by omega), (fun q => nomatch q)⟩)
theorem V_judge {x y : Int32} {M : Mem} (h : RY M) : wpO (F_LAW_judge x y M) (fun r1 => wpO (F_MO_judge x y r1.2) (fun r2 => RY r2.2 ∧ r2.2.1 94 0 = r1.1 ∧ (r1.1 = 0 → r2.2.2 121 0 = r2.1.toInt64))) := by
  refine wp2 (B := fun r1 r2 => r2.2.1 94 0 = r1.1 ∧ (r1.1 = 0 → r2.2.2 121 0 = r2.1.toInt64)) (Y_judge h) (fun r1 r2 e1 e2 => ?_) (fun r s p q => ⟨p, q⟩)
  have f1 := wpO_of (T_LAW_judge x y M) e1
  have f2 := Q_MO_judge x y r1.2 r2 e2
  have cw := h.cw
  have e95 : r1.2.1 95 = M.1 95 := funext (f1 95 (by omega)).1
  have e121 : r2.2.2 121 0 = r1.2.2 121 0 := (f2 121 0 (by omega)).2
  have hN : (mSI r1.2 94 0 0).1 95 = M.1 95 := e95
  have n0 : (mSI r1.2 94 0 0).1 94 0 = 0 := mI_hit
  unfold F_LAW_judge F_KW_judge at e1
  unfold F_MO_judge at e2
  generalize mSI r1.2 94 0 0 = N at *
  rw [R_ways hN cw.2.1 (J := fun b => F_MO_judge_j27 x y b N)] at e2
  by_cases c : wOk2 (M.1 95) x y
  · rw [decide_eq_true c] at e2
    obtain ⟨a, rfl, ha⟩ := wOk_nat c.1
    obtain ⟨b, rfl, hb⟩ := wOk_nat c.2
    rw [cw.pair ha hb] at e1
    change F_MO_judge_j27 (iI (a : Int)) (iI (b : Int)) false N = some r2 at e2
    unfold F_MO_judge_j27 at e2
    rw [S_throws_f, bs, if_f1, R_areB hN cw.2.1 ha hb, bs] at e2
    have jt : F_MO_judge_j56 (iI (a : Int)) (iI (b : Int)) true N = some r2 → r2.2.1 94 0 = 2 := fun q => by
      unfold F_MO_judge_j56 at q
      rw [S_throws_t, bs, if_pos rfl] at q
      cases q
      exact mI_hit
    cases hq : (barW (M.1 95) a || barW (M.1 95) b) with
    | true =>
      rw [hq, if_pos rfl, xb_inl, hb_inl, if_neg (by decide), if_pos rfl] at e1
      rw [hq, if_pos rfl] at e2
      cases e1
      exact ⟨jt e2, fun w => absurd w nz2⟩
    | false =>
      rw [hq, if_neg (by decide), xb_inr, C_unknown cw, bs] at e1
      rw [hq, if_neg (by decide), R_rowBar hN cw.2.1, bs] at e2
      cases hr : rwB (M.1 95) with
      | true =>
        rw [hr, if_pos rfl, hb_inl, if_neg (by decide), if_pos rfl] at e1
        rw [hr, if_pos rfl] at e2
        cases e1
        exact ⟨jt e2, fun w => absurd w nz2⟩
      | false =>
        rw [hr, if_neg (by decide)] at e1
        rw [hr, if_neg (by decide)] at e2
        unfold F_MO_judge_j56 at e2
        rw [S_throws_f, bs, if_f1] at e2
        obtain ⟨q, eq, q1⟩ := C_judge cw ha hb
        obtain ⟨u, eu, u1, u2⟩ := R_judge hN cw.2.1 ha hb
        rw [eq, bs, hb_inr, if_pos ib01] at e1
        rw [eu] at e2
        cases e1
        cases e2
        refine ⟨by rw [u2, n0], fun _ => ?_⟩
        rw [e121]
        show (mSL q.2 121 ((0 : Int32)).toNatClampNeg q.1.toInt64).2 121 0 = _
        rw [tn0, mL_hit, q1, u1]
  · rw [decide_eq_false c] at e2
    rw [cw.pair_no c, xb_inl, hb_inl, if_pos rfl] at e1
    change F_MO_judge_j27 x y true N = some r2 at e2
    unfold F_MO_judge_j27 at e2
    rw [S_throws_t, bs, if_pos rfl] at e2
    cases e1
    cases e2
    exact ⟨mI_hit, fun w => absurd w nz1⟩
/-! brought -/
def bgS (W : Nat → Int32) (p : Nat) : Nat → Int32
  | 0 => 0
  | d + 1 => bgS W p d + iI (br W (rwN W (2 * d)) (rwN W (2 * d + 1)) p)
theorem C_brought {W : Nat → Int32} {p : Nat} {M : Mem} (h : CW W M) (hp : p < 2) : F_Walk_broughtByRow (iI (p : Int)) M = some (bgS W p (W 7).toInt.toNat) := by
  have r7 := h.2.1.rowN
  obtain ⟨R, hR⟩ : ∃ R : Nat, (W 7).toInt = R := ⟨(W 7).toInt.toNat, by omega⟩
  have e7 : W 7 = iI (R : Int) := by rw [← hR, iI_of]
  apply wp_of
  unfold F_Walk_broughtByRow F_Walk_broughtByRow_l4
  refine wp_bind (Ψ := fun r => r = bgS W p (W 7).toInt.toNat) ?_ (fun r hr => wp_some hr)
  refine wp_iterS (P := fun d z => z.2 = iI (d : Int) ∧ z.1 = bgS W p d) R ?_ _ _ ⟨rfl, rfl⟩ (FUEL_big (by omega))
  rintro d ⟨z1, z2⟩ hd ⟨e2, e1⟩
  dsimp only at e1 e2
  subst e2
  unfold F_Walk_broughtByRow_b4
  dsimp only
  rw [h.2.2.1.2.2.2.2.2.2.2, e7]
  refine wp_if (fun c => wp_some ?_) (fun c => ?_)
  · rw [iI_le (by omega) (by omega) (by omega) (by omega)] at c
    show z1 = _
    rw [e1, iI_toInt (by omega) (by omega), show ((R : Int)).toNat = d by omega]
  rw [iI_le (by omega) (by omega) (by omega) (by omega)] at c
  have r1 := rwN_ok h.2.1 (j := 2 * d) (by omega)
  have r2 := rwN_ok h.2.1 (j := 2 * d + 1) (by omega)
  rw [l32n_2, iI_pm, iI_succ, C_rowAt h (by omega), bs, C_rowAt h (by omega), bs, C_brW h (by omega) (by omega) hp, bs, iI_succ]
  refine wp_some ⟨by omega, rfl, ?_⟩
  show z1 + _ = _
  rw [e1]
  rfl
theorem R_brought {W : Nat → Int32} {p : Nat} {M : Mem} (hW : M.1 95 = W) (h : RIW W) (hp : p < 2) : wpO (F_MO_brought_l23 (iI (p : Int)) 0 0 M) (fun r => r.1 = bgS W p (W 7).toInt.toNat ∧ r.2 = M) := by
  subst hW
  have r7 := h.rowN
  obtain ⟨R, hR⟩ : ∃ R : Nat, (M.1 95 7).toInt = R := ⟨(M.1 95 7).toInt.toNat, by omega⟩
  have e7 : M.1 95 7 = iI (R : Int) := by rw [← hR, iI_of]
  unfold F_MO_brought_l23
  refine wp_bind (Ψ := fun r => r = bgS (M.1 95) p (M.1 95 7).toInt.toNat) ?_ (fun r hr => wp_some ⟨hr, rfl⟩)
  refine wp_iterS (P := fun d z => z.2 = iI (d : Int) ∧ z.1 = bgS (M.1 95) p d) R ?_ _ _ ⟨rfl, rfl⟩ (FUEL_big (by omega))
  rintro d ⟨z1, z2⟩ hd ⟨e2, e1⟩
  dsimp only at e1 e2
  subst e2
  unfold F_MO_brought_b23
  dsimp only
  refine wp_t ib7 ?_
  rw [tn7]
  refine wp_if (fun c => wp_some ?_) (fun c => ?_)
  · rw [e7, iI_le (by omega) (by omega) (by omega) (by omega)] at c
    show z1 = _
    rw [e1, hR, show ((R : Int)).toNat = d by omega]
  rw [e7, iI_le (by omega) (by omega) (by omega) (by omega)] at c
  have r1 := rwN_ok h (j := 2 * d) (by omega)
  have r2 := rwN_ok h (j := 2 * d + 1) (by omega)
  rw [e152, e153]
  refine wp_t (inb_iI (by omega) (by omega) (by omega)) (wp_t (inb_iI (by omega) (by omega) (by omega)) ?_)
  rw [clN (by omega), clN (by omega), r1.2, r2.2, N_brings (by omega) (by omega) hp, bs, iI_succ]
  refine wp_some ⟨by omega, rfl, ?_⟩
  show z1 + _ = _
  rw [e1]
  rfl
theorem V_brought {x : Int32} {M : Mem} (h : RY M) : wpO (F_LAW_brought x M) (fun r1 => wpO (F_MO_brought x r1.2) (fun r2 => RY r2.2 ∧ r2.2.1 94 0 = r1.1 ∧ (r1.1 = 0 → r2.2.2 121 0 = r2.1.toInt64))) := by
  refine wp2 (B := fun r1 r2 => r2.2.1 94 0 = r1.1 ∧ (r1.1 = 0 → r2.2.2 121 0 = r2.1.toInt64)) (Y_brought h) (fun r1 r2 e1 e2 => ?_) (fun r s p q => ⟨p, q⟩)
  have f1 := wpO_of (T_LAW_brought x M) e1
  have f2 := Q_MO_brought x r1.2 r2 e2
  have cw := h.cw
  have e95 : r1.2.1 95 = M.1 95 := funext (f1 95 (by omega)).1
  have e121 : r2.2.2 121 0 = r1.2.2 121 0 := (f2 121 0 (by omega)).2
  have hN : (mSI r1.2 94 0 0).1 95 = M.1 95 := e95
  have n0 : (mSI r1.2 94 0 0).1 94 0 = 0 := mI_hit
  unfold F_LAW_brought F_KW_brought at e1
  unfold F_MO_brought at e2
  generalize mSI r1.2 94 0 0 = N at *
  rw [S_noPerson, bs] at e2
  by_cases c : 0 ≤ x ∧ x ≤ 1
  · rw [S_person_ok c, xb_inr] at e1
    rw [decide_eq_true c] at e2
    change ((F_MO_throwsIf (b2i false) 1 N).bind _) = some r2 at e2
    rw [S_throws_f, bs, if_f1] at e2
    have b := i2 c
    rw [li0, li1] at b
    have ex : x = iI ((x.toInt.toNat : Nat) : Int) := iI_nat b.1
    have hp : x.toInt.toNat < 2 := by omega
    generalize x.toInt.toNat = p at *
    subst ex
    obtain ⟨u, eu, u1, u2⟩ := R_brought hN cw.2.1 hp
    rw [C_brought cw hp, bs, hb_inr, if_pos ib01] at e1
    rw [eu] at e2
    cases e1
    cases e2
    refine ⟨by rw [u2, n0], fun _ => ?_⟩
    rw [e121]
    show (mSL M 121 ((0 : Int32)).toNatClampNeg _).2 121 0 = _
    rw [tn0, mL_hit, u1]
  · rw [S_person_no c, xb_inl, hb_inl, if_pos rfl] at e1
    rw [decide_eq_false c] at e2
    change ((F_MO_throwsIf (b2i true) 1 N).bind _) = some r2 at e2
    rw [S_throws_t, bs, if_pos rfl] at e2
    cases e1
    cases e2
    exact ⟨mI_hit, fun w => absurd w nz1⟩
