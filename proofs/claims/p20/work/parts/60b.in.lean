/-! ===== values: in, both calls ===== -/
theorem lstB {W : Nat → Int32} {A p : Nat} (h : brOK W) (a2 : 2 ≤ A) (a3 : A ≤ 3) : -99 ≤ lstW W A p ∧ lstW W A p ≤ 99 := by
  have t := thB W A p (A - 1)
  exact mxB h (by omega) A a3
theorem i_mul {l : Int} {x : Int32} (h1 : -99 ≤ l) (h2 : l ≤ 99) (x1 : 1 ≤ x.toInt) (x2 : x.toInt ≤ 1000) : (iI l * x).toInt = l * x.toInt := by
  have m := mulb (a := l) (b := x.toInt) (m := 99) (n := 1000) (by omega) (by omega) (by omega) (by omega)
  have e : iI l * x = iI (l * x.toInt) := by rw [← iI_mul, iI_of]
  rw [e, iI_toInt (by omega) (by omega)]
theorem li1000 : (1000 : Int32).toInt = 1000 := by decide
theorem li1e5 : (100000 : Int32).toInt = 100000 := by decide
theorem lim1e5 : ((-100000) : Int32).toInt = -100000 := by decide
def inVV (W : Nat → Int32) (A c : Nat) (g : Nat → Nat) (x1 x2 x3 x4 : Int32) : Prop := inB (pX W A) (pY W A) c g x1.toInt x2.toInt x3.toInt ∧ (x4 = 0 ∨ (lstW W A 0 * x3.toInt < x1.toInt ∧ lstW W A 1 * x3.toInt < x2.toInt))
theorem N_inV {A : Nat} {x1 x2 x3 x4 : Int32} {M : Mem} (h : RIW (M.1 95)) (hA : M.1 95 0 = iI (A : Int)) (a2 : 2 ≤ A) (a3 : A ≤ 3) : wpO (F_MO_in x1 x2 x3 x4 M) (fun r => (rngP x1 x2 x3 ∧ r.2.1 94 0 = 0 ∧ ∃ (c : Nat) (g : Nat → Nat), bodyS (pX (M.1 95) A) (pY (M.1 95) A) (A * A) c g ∧ (r.1 = true ↔ inVV (M.1 95) A c g x1 x2 x3 x4)) ∨ (¬ rngP x1 x2 x3 ∧ r.2.1 94 0 = 1)) := by
  have h0 : RIW ((mSI M 94 0 0).1 95) := h
  have hA0 : (mSI M 94 0 0).1 95 0 = iI (A : Int) := hA
  have t0 : (mSI M 94 0 0).1 94 0 = 0 := mI_hit
  show wpO (F_MO_in x1 x2 x3 x4 M) (fun r => (rngP x1 x2 x3 ∧ r.2.1 94 0 = 0 ∧ ∃ (c : Nat) (g : Nat → Nat), bodyS (pX ((mSI M 94 0 0).1 95) A) (pY ((mSI M 94 0 0).1 95) A) (A * A) c g ∧ (r.1 = true ↔ inVV ((mSI M 94 0 0).1 95) A c g x1 x2 x3 x4)) ∨ (¬ rngP x1 x2 x3 ∧ r.2.1 94 0 = 1))
  unfold F_MO_in
  generalize mSI M 94 0 0 = N at *
  have bad : ¬ rngP x1 x2 x3 → wpO (F_MO_in_j48 x1 x2 x3 x4 true N) (fun r => (rngP x1 x2 x3 ∧ r.2.1 94 0 = 0 ∧ ∃ (c : Nat) (g : Nat → Nat), bodyS (pX (N.1 95) A) (pY (N.1 95) A) (A * A) c g ∧ (r.1 = true ↔ inVV (N.1 95) A c g x1 x2 x3 x4)) ∨ (¬ rngP x1 x2 x3 ∧ r.2.1 94 0 = 1)) := by
    intro q
    unfold F_MO_in_j48
    exact wp_thr (fun _ => thr_t (wp_some (Or.inr ⟨q, mI_hit⟩))) (fun q => nomatch q)
  refine wp_within (fun p1 p2 => wp_tt ?_) (fun q => wp_ff (bad (fun w => q ?_)))
  · refine wp_within (fun p3 p4 => wp_tt ?_) (fun q => wp_ff (bad (fun w => q ?_)))
    · refine wp_within (fun p5 p6 => wp_tt ?_) (fun q => wp_ff (bad (fun w => q ?_)))
      · rw [le_i, li1] at p1
        rw [le_i, li1000] at p2
        rw [le_i, lim1e5] at p3
        rw [le_i, li1e5] at p4
        rw [le_i, lim1e5] at p5
        rw [le_i, li1e5] at p6
        have hr : rngP x1 x2 x3 := ⟨⟨p1, p2⟩, ⟨p3, p4⟩, p5, p6⟩
        unfold F_MO_in_j48
        refine wp_thr (fun q => nomatch q) (fun _ => thr_f ?_)
        dsimp only
        refine wp_bind (wp_q (N_isInV h0 hA0 a2 a3 hr) (Q_MO_isIn x1.toInt64 x2.toInt64 x3.toInt64 N)) (fun r3 h3 => ?_)
        obtain ⟨⟨r95, c, g, hb, hi⟩, fr⟩ := h3
        have t3 : r3.2.1 94 0 = 0 := (fr 94 0 (by omega)).1.trans t0
        have hR : RIW (r3.2.1 95) := by rw [r95]; exact h0
        have hA3 : r3.2.1 95 0 = iI (A : Int) := by rw [r95]; exact hA0
        have k0 : F_MO_leastOf 0 r3.2 = some (iI (lstW (N.1 95) A 0)) := by
          have q := N_leastOfV (p := 0) hR hA3 a2 a3 (by decide)
          rw [r95] at q
          exact q
        have k1 : F_MO_leastOf 1 r3.2 = some (iI (lstW (N.1 95) A 1)) := by
          have q := N_leastOfV (p := 1) hR hA3 a2 a3 (by decide)
          rw [r95] at q
          exact q
        have m0 := i_mul (x := x3) (lstB (p := 0) h0.br a2 a3).1 (lstB (p := 0) h0.br a2 a3).2 p1 p2
        have m1 := i_mul (x := x3) (lstB (p := 1) h0.br a2 a3).1 (lstB (p := 1) h0.br a2 a3).2 p1 p2
        refine wp_if (fun z => wp_if (fun z4 => wp_some (Or.inl ⟨hr, t3, c, g, hb, ⟨fun _ => ⟨hi.mp z, Or.inl z4⟩, fun _ => rfl⟩⟩)) (fun z4 => ?_)) (fun z => wp_some (Or.inl ⟨hr, t3, c, g, hb, ⟨fun w => Bool.noConfusion w, fun w => absurd (hi.mpr w.1) z⟩⟩))
        rw [k0, bs, k1, bs]
        refine wp_if (fun w => wp_some (Or.inl ⟨hr, t3, c, g, hb, ⟨fun q => Bool.noConfusion q, fun q => ?_⟩⟩)) (fun w => ?_)
        · rw [le_i, m0] at w
          rcases q.2 with q | q
          · exact absurd q z4
          · omega
        rw [le_i, m0] at w
        refine wp_if (fun w2 => wp_some (Or.inl ⟨hr, t3, c, g, hb, ⟨fun q => Bool.noConfusion q, fun q => ?_⟩⟩)) (fun w2 => wp_some (Or.inl ⟨hr, t3, c, g, hb, ⟨fun _ => ⟨hi.mp z, Or.inr ⟨by omega, ?_⟩⟩, fun _ => rfl⟩⟩))
        · rw [le_i, m1] at w2
          rcases q.2 with q | q
          · exact absurd q z4
          · omega
        · rw [le_i, m1] at w2
          omega
      · rw [le_i, le_i, lim1e5, li1e5]
        exact w.2.2
    · rw [le_i, le_i, lim1e5, li1e5]
      exact w.2.1
  · rw [le_i, le_i, li1, li1000]
    exact w.1
theorem fin_lawB {bb : Bool} {P : Mem} {E : String} {Φ : Int32 × Mem → Prop} (h1 : bb = true → Φ (0, mSL P 121 0 1)) (h0 : ¬ bb = true → Φ (0, mSL P 121 0 0)) : wpO (hbind (some (.inr bb, P) : Option ((String ⊕ Bool) × Mem)) (fun E1 M1 => if E1 = E then some (((1 : Int32), M1)) else none) fun r1 M1 => if r1 = true then if inb ((0 : Int32)) 1 then some ((0, mSL M1 121 ((0 : Int32)).toNatClampNeg 1)) else none else if inb ((0 : Int32)) 1 then some ((0, mSL M1 121 ((0 : Int32)).toNatClampNeg 0)) else none) Φ := by
  rw [hb_inr]
  refine wp_if (fun w => wp_t ib01 (wp_some ?_)) (fun w => wp_t ib01 (wp_some ?_))
  · rw [tn0]
    exact h1 w
  · rw [tn0]
    exact h0 w
theorem C_keptV {A : Nat} {x1 x2 x3 : Int32} {M : Mem} (hr : relB M) (h : RIW (M.1 95)) (hA : M.1 95 0 = iI (A : Int)) (a2 : 2 ≤ A) (a3 : A ≤ 3) (hg : rngP x1 x2 x3) : ∃ b : Bool, F_Day_mustBeKept x1 x2 x3 M = some b ∧ (b = true ↔ (lstW (M.1 95) A 0 * x3.toInt < x1.toInt ∧ lstW (M.1 95) A 1 * x3.toInt < x2.toInt)) := by
  have k0 : F_Day_leastOf 0 M = some (iI (lstW (M.1 95) A 0)) := C_leastOfV (p := 0) hr h hA a2 a3 (by decide)
  have k1 : F_Day_leastOf 1 M = some (iI (lstW (M.1 95) A 1)) := C_leastOfV (p := 1) hr h hA a2 a3 (by decide)
  have m0 := i_mul (x := x3) (lstB (p := 0) h.br a2 a3).1 (lstB (p := 0) h.br a2 a3).2 hg.1.1 hg.1.2
  have m1 := i_mul (x := x3) (lstB (p := 1) h.br a2 a3).1 (lstB (p := 1) h.br a2 a3).2 hg.1.1 hg.1.2
  unfold F_Day_mustBeKept
  rw [k0, bs, k1, bs]
  by_cases w : x1 ≤ iI (lstW (M.1 95) A 0) * x3
  · rw [if_pos w]
    rw [le_i, m0] at w
    exact ⟨false, rfl, fun q => Bool.noConfusion q, fun q => by omega⟩
  · rw [if_neg w]
    rw [le_i, m0] at w
    by_cases w2 : x2 ≤ iI (lstW (M.1 95) A 1) * x3
    · rw [if_pos w2]
      rw [le_i, m1] at w2
      exact ⟨false, rfl, fun q => Bool.noConfusion q, fun q => by omega⟩
    · rw [if_neg w2]
      rw [le_i, m1] at w2
      exact ⟨true, rfl, fun _ => by omega, fun _ => rfl⟩
theorem C_inV {A c : Nat} {g : Nat → Nat} {x1 x2 x3 x4 : Int32} {M : Mem} (hr : relB M) (h : RIW (M.1 95)) (hA : M.1 95 0 = iI (A : Int)) (a2 : 2 ≤ A) (a3 : A ≤ 3) (hb : bodyS (pX (M.1 95) A) (pY (M.1 95) A) (A * A) c g) : wpO (F_LAW_in x1 x2 x3 x4 M) (fun r => (rngP x1 x2 x3 ∧ r.1 = 0 ∧ (inVV (M.1 95) A c g x1 x2 x3 x4 → r.2.2 121 0 = 1) ∧ (¬ inVV (M.1 95) A c g x1 x2 x3 x4 → r.2.2 121 0 = 0)) ∨ (¬ rngP x1 x2 x3 ∧ r.1 = 1)) := by
  unfold F_LAW_in F_KW_in
  by_cases q3 : (1 : Int32) ≤ x3 ∧ x3 ≤ 1000
  · rw [S_num_ok q3, xb_inr]
    by_cases q1 : ((-100000) : Int32) ≤ x1 ∧ x1 ≤ 100000
    · rw [S_num_ok q1, xb_inr]
      by_cases q2 : ((-100000) : Int32) ≤ x2 ∧ x2 ≤ 100000
      · rw [S_num_ok q2, xb_inr]
        rw [le_i, le_i, li1, li1000] at q3
        rw [le_i, le_i, lim1e5, li1e5] at q1 q2
        have hg : rngP x1 x2 x3 := ⟨q3, q1, q2⟩
        obtain ⟨N, eN, ⟨s0, s9, s3⟩, nc, cel⟩ := C_findCornersV hr (hr.1.trans hA) h.br (by omega) a3 hb
        obtain ⟨hB, hle⟩ := hb.b h.br a3
        have cc : cornC (pX (M.1 95) A) (pY (M.1 95) A) c g N := ⟨nc, ⟨hb.1, hb.2.1⟩, cel, hB⟩
        obtain ⟨b, eb, hbb⟩ := C_bodyHasV cc hg
        obtain ⟨b2, eb2, hb2⟩ := C_keptV (M := N) (hr.of s0 s9 s3) (by rw [s9]; exact h) (by rw [s9]; exact hA) a2 a3 hg
        rw [s9] at hb2
        rw [eN, bs, eb, bs]
        by_cases w : b = true
        · rw [if_pos w]
          by_cases w4 : x4 = 0
          · rw [if_pos w4]
            exact fin_lawB (fun _ => Or.inl ⟨hg, rfl, fun _ => mL_hit, fun q => absurd ⟨hbb.mp w, Or.inl w4⟩ q⟩) (fun q => absurd rfl q)
          · rw [if_neg w4, eb2, bs]
            by_cases w5 : b2 = true
            · rw [if_pos w5]
              exact fin_lawB (fun _ => Or.inl ⟨hg, rfl, fun _ => mL_hit, fun q => absurd ⟨hbb.mp w, Or.inr (hb2.mp w5)⟩ q⟩) (fun q => absurd rfl q)
            · rw [if_neg w5]
              exact fin_lawB (fun q => Bool.noConfusion q) (fun _ => Or.inl ⟨hg, rfl, fun q => absurd (hb2.mpr (q.2.resolve_left w4)) w5, fun _ => mL_hit⟩)
        · rw [if_neg w]
          exact fin_lawB (fun q => Bool.noConfusion q) (fun _ => Or.inl ⟨hg, rfl, fun q => absurd (hbb.mpr q.1) w, fun _ => mL_hit⟩)
      · rw [S_num_no q2, xb_inl, hb_inl]
        exact wp_t rfl (wp_some (Or.inr ⟨fun w => q2 (by rw [le_i, le_i, lim1e5, li1e5]; exact w.2.2), rfl⟩))
    · rw [S_num_no q1, xb_inl, hb_inl]
      exact wp_t rfl (wp_some (Or.inr ⟨fun w => q1 (by rw [le_i, le_i, lim1e5, li1e5]; exact w.2.1), rfl⟩))
  · rw [S_num_no q3, xb_inl, hb_inl]
    exact wp_t rfl (wp_some (Or.inr ⟨fun w => q3 (by rw [le_i, le_i, li1, li1000]; exact w.1), rfl⟩))
theorem V_in {x1 x2 x3 x4 : Int32} {M : Mem} (h : RS M) : wpO (F_LAW_in x1 x2 x3 x4 M) (fun r1 => wpO (F_MO_in x1 x2 x3 x4 r1.2) (fun r2 => RS r2.2 ∧ r2.2.1 94 0 = r1.1 ∧ (r1.1 = 0 → (r2.1 = true → r2.2.2 121 0 = 1) ∧ (¬ r2.1 = true → r2.2.2 121 0 = 0)))) := by
  obtain ⟨r1, e1, r2, e2, rs⟩ := G_in (x1 := x1) (x2 := x2) (x3 := x3) (x4 := x4) h
  refine ⟨r1, e1, r2, e2, rs, ?_⟩
  obtain ⟨A, hA, a2, a3⟩ := h.1.1.actN
  have t := wpO_of (T_LAW_in x1 x2 x3 x4 M) e1
  have q := Q_MO_in x1 x2 x3 x4 r1.2 r2 e2
  have w : r1.2.1 95 = M.1 95 := funext (t 95 (by omega)).1
  have n := wpO_of (N_inV (x1 := x1) (x2 := x2) (x3 := x3) (x4 := x4) (M := r1.2) (by rw [w]; exact h.1.1) (by rw [w]; exact hA) a2 a3) e2
  have o := (q 121 0 (by omega)).2
  rw [w] at n
  have hr := h.2.1.1.relB
  obtain ⟨P, eP, p95, c0, g0, pc, hb0, -⟩ := N_bodyV (M := M) h.1.1 hA a2 a3
  rcases n with ⟨b1, b2, c, g, hb, hi⟩ | ⟨b1, b2⟩
  · have cc := wpO_of (C_inV (x1 := x1) (x2 := x2) (x3 := x3) (x4 := x4) hr h.1.1 hA a2 a3 hb) e1
    rcases cc with ⟨d1, d2, d3, d4⟩ | ⟨d1, d2⟩
    · exact ⟨b2.trans d2.symm, fun _ => ⟨fun z => by rw [o]; exact d3 (hi.mp z), fun z => by rw [o]; exact d4 (fun v => z (hi.mpr v))⟩⟩
    · exact absurd b1 d1
  · have cc := wpO_of (C_inV (x1 := x1) (x2 := x2) (x3 := x3) (x4 := x4) hr h.1.1 hA a2 a3 hb0) e1
    rcases cc with ⟨d1, d2, d3, d4⟩ | ⟨d1, d2⟩
    · exact absurd d1 b1
    · exact ⟨b2.trans d2.symm, fun z => by rw [d2] at z; exact absurd z (by decide)⟩
