/-! ===== the reference's way: the text ===== -/
def pt (M : Mem) : Int := (M.1 94 6).toInt
def en (M : Mem) : Int := (M.1 94 7).toInt
def bg (M : Mem) : Int := (M.1 94 8).toInt
def nm (M : Mem) : Int := (M.1 94 14).toInt
/-- only the places 6 and 8 differ -/
def sm68 (M N : Mem) : Prop := (∀ k j, ¬ (k = 94 ∧ (j = 6 ∨ j = 8)) → N.1 k j = M.1 k j) ∧ N.2 = M.2
theorem sm68.rf {M : Mem} : sm68 M M := ⟨fun _ _ _ => rfl, rfl⟩
theorem sm68.tr {M N O : Mem} (h : sm68 M N) (h2 : sm68 N O) : sm68 M O := ⟨fun k j q => (h2.1 k j q).trans (h.1 k j q), h2.2.trans h.2⟩
theorem sm68.s6 {M N : Mem} {v : Int32} (h : sm68 M N) : sm68 M (mSI N 94 6 v) := h.tr ⟨fun k j q => by rw [mSI_1, if_neg (fun w => q ⟨w.1, Or.inl w.2⟩)], rfl⟩
theorem sm68.s8 {M N : Mem} {v : Int32} (h : sm68 M N) : sm68 M (mSI N 94 8 v) := h.tr ⟨fun k j q => by rw [mSI_1, if_neg (fun w => q ⟨w.1, Or.inr w.2⟩)], rfl⟩
theorem sm68.enK {M N : Mem} (h : sm68 M N) : en N = en M := by
  unfold en
  rw [h.1 94 7 (by omega)]
theorem sm68.nmK {M N : Mem} (h : sm68 M N) : nm N = nm M := by
  unfold nm
  rw [h.1 94 14 (by omega)]
def tp0 (M : Mem) : Prop := 0 ≤ pt M ∧ pt M ≤ en M ∧ en M ≤ 400
/-- a step ahead in the text -/
def stp (M N : Mem) : Prop := pt M ≤ pt N ∧ pt N ≤ en M ∧ 0 ≤ bg N ∧ bg N ≤ pt N ∧ sm68 M N
theorem stp.tp {M N : Mem} (h : stp M N) (h0 : tp0 M) : tp0 N := by
  have := h.2.2.2.2.enK
  obtain ⟨a, b, c⟩ := h0
  obtain ⟨d, e, -⟩ := h
  exact ⟨by omega, by omega, by omega⟩
theorem stp.tr {M N O : Mem} (h : stp M N) (h2 : stp N O) : stp M O := by
  have := h.2.2.2.2.enK
  obtain ⟨a, b, c, d, e⟩ := h
  obtain ⟨a2, b2, c2, d2, e2⟩ := h2
  exact ⟨by omega, by omega, c2, d2, e.tr e2⟩
theorem N_isAt {lo hi : Int32} {M : Mem} (h0 : 0 ≤ pt M) (h4 : en M ≤ 400) : wpO (F_MO_isAt lo hi M) (fun r => r = true → pt M < en M ∧ lo ≤ M.1 97 (pt M).toNat ∧ M.1 97 (pt M).toNat ≤ hi) := by
  unfold F_MO_isAt
  refine wp_if (fun _ => wp_some (fun q => nomatch q)) (fun c => ?_)
  rw [le_i] at c
  have hlt : pt M < en M := by
    unfold pt en
    omega
  have ib : inb (M.1 94 6) 400 := inb_i h0 (by unfold pt at hlt; omega)
  refine wp_t ib (wp_if (fun _ => wp_some (fun q => nomatch q)) (fun c2 => wp_t ib (wp_if (fun _ => wp_some (fun q => nomatch q)) (fun c3 => wp_some (fun _ => ⟨hlt, n32.mp c2, n32.mp c3⟩)))))
theorem mSI_tw {M : Mem} {k j : Nat} {v w : Int32} : mSI (mSI M k j v) k j w = mSI M k j w := by
  refine Prod.ext (funext fun a => funext fun b => ?_) rfl
  by_cases q : a = k ∧ b = j
  · simp only [mSI_1, if_pos q]
  · simp only [mSI_1, if_neg q]
theorem N_scan {lo hi : Int32} {M : Mem} {body : Mem → Option (Mem ⊕ Mem)} (hb : ∀ z, body z = (F_MO_isAt lo hi z).bind fun r1 => if r1 = true then some (.inl (mSI z 94 6 ((z.1 94 6) + 1))) else some (.inr z)) (h : tp0 M) : wpO (iter body FUEL M) (fun N => pt M ≤ pt N ∧ pt N ≤ en M ∧ ∃ v, N = mSI M 94 6 v ∨ N = M) := by
  obtain ⟨h1, h2, h3⟩ := h
  refine wp_while (P := fun z => pt M ≤ pt z ∧ pt z ≤ en M ∧ en z = en M ∧ ∃ v, z = mSI M 94 6 v ∨ z = M) (μ := fun z => (en M - pt z).toNat) ?_ FUEL _ ⟨Int.le_refl _, h2, rfl, 0, Or.inr rfl⟩ (FUEL_big (by omega))
  rintro z ⟨a, b, c, v, d⟩
  rw [hb]
  refine wp_bind (N_isAt (M := z) (by omega) (by omega)) (fun r hr => ?_)
  refine wp_if (fun q => wp_some ?_) (fun _ => wp_some ⟨a, b, v, d⟩)
  obtain ⟨e1, -⟩ := hr q
  have hh : pt (mSI z 94 6 (z.1 94 6 + 1)) = pt z + 1 := by
    show ((mSI z 94 6 (z.1 94 6 + 1)).1 94 6).toInt = (z.1 94 6).toInt + 1
    rw [mI_hit]
    unfold pt at a b e1 h1
    rw [a32] <;> rw [li1] <;> omega
  refine ⟨⟨by omega, by omega, ?_, z.1 94 6 + 1, Or.inl ?_⟩, by omega⟩
  · rw [← c]
    show ((mSI z 94 6 _).1 94 7).toInt = _
    rw [mI_ix (by decide)]
    rfl
  · rcases d with rfl | rfl
    · exact mSI_tw
    · rfl
theorem N_blanks {M : Mem} (h : tp0 M) : wpO (F_MO_blanks M) (fun N => stp M N ∧ bg N = pt N) := by
  unfold F_MO_blanks F_MO_blanks_l0
  refine wp_bind (N_scan (lo := 32) (hi := 32) (fun z => rfl) h) (fun N hN => ?_)
  obtain ⟨a, b, v, d⟩ := hN
  have s : sm68 M N := by
    rcases d with rfl | rfl
    · exact sm68.rf.s6
    · exact sm68.rf
  have e1 : bg (mSI N 94 8 (N.1 94 6)) = pt N := by
    show ((mSI N 94 8 (N.1 94 6)).1 94 8).toInt = _
    rw [mI_hit]
    rfl
  have e2 : pt (mSI N 94 8 (N.1 94 6)) = pt N := by
    show ((mSI N 94 8 (N.1 94 6)).1 94 6).toInt = _
    rw [mI_ix (by decide)]
    rfl
  obtain ⟨h1, h2, h3⟩ := h
  exact wp_some ⟨⟨by omega, by omega, by omega, by omega, s.s8⟩, by omega⟩
theorem N_run {lo hi : Int32} {M : Mem} {body : Mem → Option (Mem ⊕ Mem)} (hb : ∀ z, body z = (F_MO_isAt lo hi z).bind fun r1 => if r1 = true then some (.inl (mSI z 94 6 ((z.1 94 6) + 1))) else some (.inr z)) (h : tp0 M) (h0 : 0 ≤ bg M) (hbp : bg M ≤ pt M) : wpO (iter body FUEL M) (fun N => stp M N ∧ bg N = bg M) := by
  refine wp_mono (N_scan hb h) (fun N hN => ?_)
  obtain ⟨a, b, v, d⟩ := hN
  have e : bg N = bg M := by
    rcases d with rfl | rfl
    · show ((mSI M 94 6 v).1 94 8).toInt = _
      rw [mI_ix (by decide)]
      rfl
    · rfl
  have s : sm68 M N := by
    rcases d with rfl | rfl
    · exact sm68.rf.s6
    · exact sm68.rf
  exact ⟨⟨a, b, by omega, by omega, s⟩, e⟩
theorem N_letters {M : Mem} (h : tp0 M) : wpO (F_MO_letters M) (fun N => stp M N) := by
  unfold F_MO_letters
  refine wp_bind (N_blanks h) (fun N hN => ?_)
  obtain ⟨s, e⟩ := hN
  unfold F_MO_letters_l4
  refine wp_bind (N_run (lo := 97) (hi := 122) (fun z => rfl) (s.tp h) s.2.2.1 s.2.2.2.1) (fun O hO => wp_some (s.tr hO.1))
theorem N_isWord {w : Nat} {M : Mem} (hw : w < 3) (h0 : 0 ≤ bg M) (h1 : bg M ≤ pt M) (h4 : pt M ≤ 400) : wpO (F_MO_isWord w M) (fun _ => True) := by
  have hl : ∃ n : Nat, strL.getD w 0 = n ∧ n ≤ 4 := by
    have hw3 : w = 0 ∨ w = 1 ∨ w = 2 := by omega
    rcases hw3 with rfl | rfl | rfl
    · exact ⟨4, by decide, by decide⟩
    · exact ⟨3, by decide, by decide⟩
    · exact ⟨2, by decide, by decide⟩
  obtain ⟨n, hn, hn4⟩ := hl
  unfold bg at h0 h1
  unfold pt at h1 h4
  have core : ∀ b : Bool, (b = true → (M.1 94 6).toInt - (M.1 94 8).toInt = n) → wpO (F_MO_isWord_l24 w b 0 M) (fun _ => True) := by
    intro b hb
    unfold F_MO_isWord_l24
    refine wp_bind (Ψ := fun _ => True) ?_ (fun r _ => wp_some trivial)
    refine wp_iterS (P := fun k z => z.2 = iI (k : Int) ∧ (z.1 = true → (M.1 94 6).toInt - (M.1 94 8).toInt = n)) n ?_ _ _ ⟨rfl, hb⟩ (FUEL_big (by omega))
    rintro k ⟨z1, z2⟩ hk ⟨e2, hz⟩
    dsimp only at e2 hz
    subst e2
    unfold F_MO_isWord_b24 F_String_length F_String_charAt
    dsimp only
    refine wp_if (fun c => ?_) (fun _ => wp_some trivial)
    have hlen := hz c
    rw [bs, hn]
    refine wp_if (fun _ => wp_some trivial) (fun c2 => ?_)
    rw [nI_iI, iI_le (by omega) (by omega) (by omega) (by omega)] at c2
    have e : ((M.1 94 8) + iI (k : Int)).toInt = (M.1 94 8).toInt + k := by rw [a32] <;> rw [iI_toInt (by omega) (by omega)] <;> omega
    refine wp_t (inb_i (by omega) (by omega)) ?_
    rw [if_pos (inb_iI (by omega) (by omega) (by omega)), bs]
    exact wp_if (fun _ => wp_some ⟨by omega, iI_succ k, fun _ => hlen⟩) (fun _ => wp_some ⟨by omega, iI_succ k, fun q => nomatch q⟩)
  unfold F_MO_isWord F_String_length
  rw [bs, hn]
  refine wp_if (fun c => core true (fun _ => ?_)) (fun _ => core false (fun q => nomatch q))
  have e : ((M.1 94 6) - (M.1 94 8)).toInt = (M.1 94 6).toInt - (M.1 94 8).toInt := by rw [s32] <;> omega
  rw [← e, c, nI_iI, iI_toInt (by omega) (by omega)]
theorem N_needs {w : Nat} {M : Mem} (hw : w < 3) (h : tp0 M) : wpO (F_MO_needs w M) (fun r => stp M r.2) := by
  unfold F_MO_needs
  refine wp_bind (N_letters h) (fun N s => ?_)
  have t := s.tp h
  exact wp_bind (N_isWord hw s.2.2.1 s.2.2.2.1 (by have := t.2.1; have := t.2.2; omega)) (fun r _ => wp_some s)
theorem N_sign {c : Int32} {M : Mem} (h : tp0 M) : wpO (F_MO_sign c M) (fun r => stp M r.2 ∧ (r.1 = true → pt M < pt r.2)) := by
  unfold F_MO_sign
  refine wp_bind (N_blanks h) (fun N hN => ?_)
  obtain ⟨s, e⟩ := hN
  have t := s.tp h
  have hen := s.2.2.2.2.enK
  refine wp_bind (N_isAt t.1 t.2.2) (fun r hr => ?_)
  refine wp_if (fun q => wp_some ?_) (fun _ => wp_some ⟨s, fun q => nomatch q⟩)
  obtain ⟨e1, -⟩ := hr q
  have hh : pt (mSI N 94 6 (N.1 94 6 + 1)) = pt N + 1 := by
    show ((mSI N 94 6 (N.1 94 6 + 1)).1 94 6).toInt = (N.1 94 6).toInt + 1
    rw [mI_hit]
    obtain ⟨t1, t2, t3⟩ := t
    unfold pt at t1 t2 e1
    rw [a32] <;> rw [li1] <;> omega
  have hb : bg (mSI N 94 6 (N.1 94 6 + 1)) = bg N := by
    show ((mSI N 94 6 (N.1 94 6 + 1)).1 94 8).toInt = _
    rw [mI_ix (by decide)]
    rfl
  obtain ⟨s1, s2, s3, s4, s5⟩ := s
  exact ⟨⟨by show _ ≤ pt (mSI N 94 6 (N.1 94 6 + 1)); omega, by show pt (mSI N 94 6 (N.1 94 6 + 1)) ≤ _; omega, by show 0 ≤ bg (mSI N 94 6 (N.1 94 6 + 1)); omega, by show bg (mSI N 94 6 (N.1 94 6 + 1)) ≤ pt (mSI N 94 6 (N.1 94 6 + 1)); omega, s5.s6⟩, fun _ => by show _ < pt (mSI N 94 6 (N.1 94 6 + 1)); omega⟩
theorem N_figure {M : Mem} (h : tp0 M) : wpO (F_MO_figure M) (fun r => stp M r.2 ∧ (r.1 = -1 ∨ (0 ≤ r.1.toInt ∧ r.1.toInt ≤ 2))) := by
  unfold F_MO_figure
  refine wp_bind (N_blanks h) (fun N hN => ?_)
  obtain ⟨s, e⟩ := hN
  have t := s.tp h
  have l32 : ∀ v : Int32, (v = -1 ∨ (0 ≤ v.toInt ∧ v.toInt ≤ 2)) → wpO (F_MO_figure_l32 v N) (fun r => stp M r.2 ∧ (r.1 = -1 ∨ (0 ≤ r.1.toInt ∧ r.1.toInt ≤ 2))) := by
    intro v hv
    unfold F_MO_figure_l32
    refine wp_bind (N_run (lo := 48) (hi := 57) (fun z => rfl) t s.2.2.1 s.2.2.2.1) (fun O hO => ?_)
    unfold F_MO_figure_j56
    exact wp_if (fun _ => wp_some ⟨s.tr hO.1, hv⟩) (fun _ => wp_some ⟨s.tr hO.1, Or.inl rfl⟩)
  refine wp_bind (N_isAt t.1 t.2.2) (fun r hr => ?_)
  refine wp_if (fun q => ?_) (fun _ => l32 _ (Or.inl rfl))
  obtain ⟨e1, e2, e3⟩ := hr q
  obtain ⟨t1, t2, t3⟩ := t
  have ib : inb (N.1 94 6) 400 := inb_i t1 (by unfold pt at e1; omega)
  refine wp_t ib (l32 _ (Or.inr ?_))
  have l48 : (48 : Int32).toInt = 48 := by decide
  have l50 : (50 : Int32).toInt = 50 := by decide
  rw [le_i, l48] at e2
  rw [le_i, l50] at e3
  have e4 : ((N.1 97 (N.1 94 6).toNatClampNeg) - 48).toInt = (N.1 97 (pt N).toNat).toInt - 48 := by
    show ((N.1 97 (pt N).toNat) - 48).toInt = _
    rw [s32] <;> rw [l48] <;> omega
  rw [e4]
  omega
/-! the draft -/
def dA (M : Mem) (c : Nat) : Prop := ∀ m : Nat, m < c → 0 ≤ (M.1 99 (1 + m)).toInt ∧ (M.1 99 (1 + m)).toInt ≤ 2
def dT (M : Mem) (c : Nat) : Prop := ∀ m s : Nat, m < c → s < 3 → M.1 99 (4 + 3 * m + s) = iI (m : Int) ∨ ∃ k : Nat, (k : Int) < nm M ∧ M.1 99 (4 + 3 * m + s) = M.1 100 k
def dN (M : Mem) : Prop := ∀ k : Nat, (k : Int) < nm M → 0 ≤ (M.1 100 k).toInt ∧ (M.1 100 k).toInt ≤ 2
def dI (c : Nat) (M : Mem) : Prop := dA M c ∧ dT M c ∧ dN M
theorem dI.sm {c : Nat} {M N : Mem} (h : dI c M) (s : sm68 M N) : dI c N := by
  obtain ⟨h1, h2, h3⟩ := h
  have e99 : ∀ i, N.1 99 i = M.1 99 i := fun i => s.1 99 i (by omega)
  have e100 : ∀ i, N.1 100 i = M.1 100 i := fun i => s.1 100 i (by omega)
  refine ⟨fun m hm => ?_, fun m q hm hq => ?_, fun k hk => ?_⟩
  · rw [e99]
    exact h1 m hm
  · rw [e99, s.nmK]
    rcases h2 m q hm hq with w | ⟨k, k1, k2⟩
    · exact Or.inl w
    · exact Or.inr ⟨k, k1, by rw [e100]; exact k2⟩
  · rw [e100]
    rw [s.nmK] at hk
    exact h3 k hk
/-- what the text's readers keep: place, end, how many are named -/
def wI (M N : Mem) : Prop := pt M ≤ pt N ∧ pt N ≤ en M ∧ en N = en M ∧ 0 ≤ nm N ∧ nm N ≤ pt N
theorem stp.wI {M N : Mem} (h : stp M N) (h0 : 0 ≤ nm M) (h1 : nm M ≤ pt M) : wI M N := by
  have e1 := h.2.2.2.2.enK
  have e2 := h.2.2.2.2.nmK
  obtain ⟨a, b, c, d, -⟩ := h
  exact ⟨a, b, e1, by omega, by omega⟩
theorem wI.tr {M N O : Mem} (h : wI M N) (h2 : wI N O) : wI M O := by
  obtain ⟨a, b, c, d, e⟩ := h
  obtain ⟨a2, b2, c2, d2, e2⟩ := h2
  exact ⟨by omega, by omega, by omega, d2, e2⟩
theorem wI.tp {M N : Mem} (h : wI M N) (h0 : tp0 M) : tp0 N := by
  obtain ⟨a, b, c, d, e⟩ := h
  obtain ⟨x, y, z⟩ := h0
  exact ⟨by omega, by omega, by omega⟩
theorem N_readSeen {m c : Nat} {M : Mem} (h : tp0 M) (hm : m < 3) (hmc : m < c) (h0 : 0 ≤ nm M) (h1 : nm M < pt M) (hd : dI c M) : wpO (F_MO_readSeen (iI (m : Int)) M) (fun r => wI M r.2 ∧ (r.1 = true → dI c r.2)) := by
  have j49 : ∀ (x2 : Bool) (x3 : Int32) (N : Mem), stp M N → wpO (F_MO_readSeen_j49 (iI (m : Int)) x2 x3 N) (fun r => wI M r.2 ∧ (r.1 = true → dI c r.2)) := by
    intro x2 x3 N s
    have t := s.tp h
    unfold F_MO_readSeen_j49
    refine wp_bind (N_needs (by decide) t) (fun r4 s4 => ?_)
    have s5 := s.tr s4
    refine wp_if (fun _ => ?_) (fun _ => wp_some ⟨s5.wI h0 (by omega), fun q => nomatch q⟩)
    refine wp_bind (N_figure (s5.tp h)) (fun r5 h5 => ?_)
    obtain ⟨s6, v⟩ := h5
    have s7 := s5.tr s6
    refine wp_if (fun c5 => ?_) (fun _ => wp_some ⟨s7.wI h0 (by omega), fun q => nomatch q⟩)
    have t7 := s7.tp h
    rw [le_i, li0] at c5
    have v2 : r5.1.toInt ≤ 2 := by
      rcases v with v | v
      · rw [v] at c5
        exact absurd c5 (by decide)
      · exact v.2
    have nme := s7.2.2.2.2.nmK
    have ene := s7.2.2.2.2.enK
    obtain ⟨q1, q2, q3, q4, q5⟩ := s7
    obtain ⟨h01, h02, h03⟩ := h
    have d7 := hd.sm q5
    clear s5 s6 s4 s t
    generalize r5.1 = to at *
    generalize r5.2 = N5 at *
    have nv : (N5.1 94 14).toInt = nm M := nme
    have ib : inb (N5.1 94 14) 400 := inb_i (by omega) (by omega)
    refine wp_t ib ?_
    simp only [mI_cell (show (94 : Nat) ≠ 100 by decide), mI_cell (show (94 : Nat) ≠ 101 by decide)]
    refine wp_t ib ?_
    have ecl : (N5.1 94 14).toNatClampNeg = (nm M).toNat := by
      show (N5.1 94 14).toInt.toNat = _
      rw [nv]
    rw [ecl]
    generalize hN6 : mSI (mSI (mSI N5 100 (nm M).toNat to) 101 (nm M).toNat (N5.1 94 8)) 94 14 (N5.1 94 14 + 1) = N6
    have n6 : nm N6 = nm M + 1 := by
      have e : (N5.1 94 14 + 1).toInt = (N5.1 94 14).toInt + 1 := by rw [a32] <;> rw [li1] <;> omega
      show (N6.1 94 14).toInt = _
      rw [← hN6, mI_hit, e, nv]
    have p6 : pt N6 = pt N5 := by
      unfold pt
      rw [← hN6, mI_ix (by decide), mI_cell (by decide), mI_cell (by decide)]
    have e6 : en N6 = en N5 := by
      unfold en
      rw [← hN6, mI_ix (by decide), mI_cell (by decide), mI_cell (by decide)]
    have b6 : bg N6 = bg N5 := by
      unfold bg
      rw [← hN6, mI_ix (by decide), mI_cell (by decide), mI_cell (by decide)]
    have c99 : ∀ i, N6.1 99 i = N5.1 99 i := fun i => by rw [← hN6, mI_cell (by decide), mI_cell (by decide), mI_cell (by decide)]
    have c100 : ∀ i, N6.1 100 i = if i = (nm M).toNat then to else N5.1 100 i := fun i => by
      rw [← hN6, mI_cell (by decide), mI_cell (by decide)]
      by_cases q : i = (nm M).toNat
      · rw [if_pos q, q, mI_hit]
      · rw [if_neg q, mI_ix q]
    unfold F_MO_readSeen_l110
    refine wp_bind (Ψ := fun O => (∀ i, O.1 99 i = N6.1 99 i ∨ (4 ≤ i ∧ O.1 99 i = to)) ∧ ∀ k i, k ≠ 99 → O.1 k i = N6.1 k i) ?_ (fun O hO => wp_some ?_)
    · refine wp_iterS (P := fun k z => z.1 = iI (k : Int) ∧ (∀ i, z.2.1 99 i = N6.1 99 i ∨ (4 ≤ i ∧ z.2.1 99 i = to)) ∧ ∀ k i, k ≠ 99 → z.2.1 k i = N6.1 k i) 3 ?_ _ _ ⟨rfl, fun i => Or.inl rfl, fun _ _ _ => rfl⟩ (FUEL_big (by decide))
      rintro k ⟨z1, O⟩ hk ⟨e1, o1, o2⟩
      dsimp only at e1 o1 o2
      subst e1
      unfold F_MO_readSeen_b110
      dsimp only
      refine wp_if (fun _ => wp_some ⟨o1, o2⟩) (fun cc => ?_)
      rw [l32_3, iI_le (by omega) (by omega) (by omega) (by omega)] at cc
      have e4 : (4 + (3 * iI (m : Int))) + iI (k : Int) = iI ((4 + 3 * m + k : Nat) : Int) := by
        rw [l32_4, l32_3, iI_mul, iI_add, iI_add]
        rfl
      have j126 : wpO (F_MO_readSeen_j126 (iI (m : Int)) x2 x3 to (iI (k : Int)) O) (sumP (fun s' => k < 3 ∧ s'.1 = iI ((k + 1 : Nat) : Int) ∧ (∀ i, s'.2.1 99 i = N6.1 99 i ∨ (4 ≤ i ∧ s'.2.1 99 i = to)) ∧ ∀ k i, k ≠ 99 → s'.2.1 k i = N6.1 k i) (fun O => (∀ i, O.1 99 i = N6.1 99 i ∨ (4 ≤ i ∧ O.1 99 i = to)) ∧ ∀ k i, k ≠ 99 → O.1 k i = N6.1 k i)) := by
        unfold F_MO_readSeen_j126
        rw [e4]
        refine wp_t (inb_iI (by omega) (by omega) (by omega)) (wp_some ⟨by omega, iI_succ k, fun i => ?_, fun k2 i hk2 => ?_⟩)
        · show (mSI O 99 _ to).1 99 i = _ ∨ (4 ≤ i ∧ (mSI O 99 _ to).1 99 i = to)
          rw [clN (by omega)]
          by_cases q : i = 4 + 3 * m + k
          · rw [q, mI_hit]
            exact Or.inr ⟨by omega, rfl⟩
          · rw [mI_ix q]
            exact o1 i
        · exact (mI_cell hk2).trans (o2 k2 i hk2)
      exact wp_if (fun _ => j126) (fun _ => wp_if (fun _ => j126) (fun _ => wp_some ⟨by omega, iI_succ k, o1, o2⟩))
    · obtain ⟨o1, o2⟩ := hO
      have nO : nm O = nm M + 1 := by
        rw [← n6]
        unfold nm
        rw [o2 94 14 (by decide)]
      have pO : pt O = pt N5 := by
        rw [← p6]
        unfold pt
        rw [o2 94 6 (by decide)]
      have eO : en O = en M := by
        rw [← ene, ← e6]
        unfold en
        rw [o2 94 7 (by decide)]
      have bO : bg O = bg N5 := by
        rw [← b6]
        unfold bg
        rw [o2 94 8 (by decide)]
      have hO100 : ∀ i, O.1 100 i = if i = (nm M).toNat then to else N5.1 100 i := fun i => by rw [o2 100 i (by decide), c100]
      obtain ⟨d1, d2, d3⟩ := d7
      show wI M O ∧ (true = true → dI c O)
      refine ⟨⟨by omega, by omega, eO, by omega, by omega⟩, fun _ => ⟨fun m2 hm2 => ?_, fun m2 s2 hm2 hs2 => ?_, fun k hk => ?_⟩⟩
      · rcases o1 (1 + m2) with w | ⟨w, w2⟩
        · rw [w, c99]
          exact d1 m2 hm2
        · rw [w2]
          exact ⟨c5, v2⟩
      · rcases o1 (4 + 3 * m2 + s2) with w | ⟨-, w⟩
        · rw [w, c99]
          rcases d2 m2 s2 hm2 hs2 with u | ⟨k, k1, k2⟩
          · exact Or.inl u
          · refine Or.inr ⟨k, by omega, ?_⟩
            rw [hO100, if_neg (by omega)]
            exact k2
        · refine Or.inr ⟨(nm M).toNat, by omega, ?_⟩
          rw [w, hO100, if_pos rfl]
      · rw [hO100]
        by_cases q : k = (nm M).toNat
        · rw [if_pos q]
          exact ⟨c5, v2⟩
        · rw [if_neg q]
          exact d3 k (by omega)
  have j40 : ∀ (x2 : Bool) (s0 : Int32) (N : Mem), stp M N → wpO (F_MO_readSeen_j40 (iI (m : Int)) x2 s0 N) (fun r => wI M r.2 ∧ (r.1 = true → dI c r.2)) := by
    intro x2 s0 N s
    unfold F_MO_readSeen_j40
    exact wp_if (fun _ => j49 _ _ _ s) (fun _ => wp_if (fun _ => wp_some ⟨s.wI h0 (by omega), fun q => nomatch q⟩) (fun _ => j49 _ _ _ s))
  have j28 : ∀ (x2 : Bool) (N : Mem), stp M N → wpO (F_MO_readSeen_j28 (iI (m : Int)) x2 N) (fun r => wI M r.2 ∧ (r.1 = true → dI c r.2)) := by
    intro x2 N s
    unfold F_MO_readSeen_j28
    refine wp_if (fun _ => j40 _ _ _ s) (fun _ => ?_)
    exact wp_bind (N_figure (s.tp h)) (fun r3 h3 => j40 _ _ _ (s.tr h3.1))
  unfold F_MO_readSeen
  refine wp_bind (N_letters h) (fun N s => ?_)
  have t := s.tp h
  refine wp_bind (N_isWord (by decide) s.2.2.1 s.2.2.2.1 (by have := t.2.1; have := t.2.2; omega)) (fun r2 _ => ?_)
  exact wp_if (fun _ => j28 _ _ s) (fun _ => wp_if (fun _ => j28 _ _ s) (fun _ => wp_some ⟨s.wI h0 (by omega), fun q => nomatch q⟩))
theorem N_readMood {m : Nat} {M : Mem} (h : tp0 M) (hm : m ≤ 3) (h0 : 0 ≤ nm M) (h1 : nm M ≤ pt M) (hd : dI m M) : wpO (F_MO_readMood (iI (m : Int)) M) (fun r => wI M r.2 ∧ (r.1 = true → m < 3 ∧ dI (m + 1) r.2)) := by
  unfold F_MO_readMood
  refine wp_bind (N_letters h) (fun N s => ?_)
  have t := s.tp h
  refine wp_if (fun _ => wp_some ⟨s.wI h0 h1, fun q => nomatch q⟩) (fun cm => ?_)
  rw [l32_3, iI_eq (by omega) (by omega) (by omega) (by omega)] at cm
  refine wp_bind (N_isWord (by decide) s.2.2.1 s.2.2.2.1 (by have := t.2.1; have := t.2.2; omega)) (fun r2 _ => ?_)
  refine wp_if (fun _ => ?_) (fun _ => wp_some ⟨s.wI h0 h1, fun q => nomatch q⟩)
  refine wp_bind (N_figure t) (fun r3 h3 => ?_)
  obtain ⟨s3, v⟩ := h3
  have s4 := s.tr s3
  have e1 : 1 + iI (m : Int) = iI ((1 + m : Nat) : Int) := by
    rw [l32_1, iI_add]
    rfl
  rw [e1]
  have i13 : inb (iI ((1 + m : Nat) : Int)) 13 := inb_iI (by omega) (by omega) (by omega)
  refine wp_t i13 (wp_t i13 ?_)
  simp only [clN (n := 1 + m) (by omega), mI_hit]
  have d4 := hd.sm s4.2.2.2.2
  have w4 := s4.wI h0 h1
  generalize r3.1 = a at *
  generalize r3.2 = N3 at *
  have w5 : wI M (mSI N3 99 (1 + m) a) := w4
  refine wp_if (fun ca => ?_) (fun _ => wp_some ⟨w5, fun q => nomatch q⟩)
  rw [le_i, li0] at ca
  have a2 : a.toInt ≤ 2 := by
    rcases v with v | v
    · rw [v] at ca
      exact absurd ca (by decide)
    · exact v.2
  have n3 : nm N3 = nm (mSI N3 99 (1 + m) a) := rfl
  obtain ⟨d1, d2, d3⟩ := d4
  -- acts and where it goes so far
  have b1 : dA (mSI N3 99 (1 + m) a) (m + 1) := by
    intro m2 hm2
    by_cases q : m2 = m
    · rw [q, mI_hit]
      exact ⟨ca, a2⟩
    · rw [mI_ix (by omega)]
      exact d1 m2 (by omega)
  have b2 : dT (mSI N3 99 (1 + m) a) m := by
    intro m2 s2 hm2 hs2
    rw [mI_ix (by omega), ← n3]
    rcases d2 m2 s2 hm2 hs2 with u | ⟨k, k1, k2⟩
    · exact Or.inl u
    · exact Or.inr ⟨k, k1, by rw [mI_cell (by decide)]; exact k2⟩
  have b3 : dN (mSI N3 99 (1 + m) a) := by
    intro k hk
    rw [mI_cell (by decide)]
    exact d3 k hk
  clear d1 d2 d3 n3 w4 s4 s3
  generalize mSI N3 99 (1 + m) a = N4 at *
  unfold F_MO_readMood_l47
  refine wp_bind (Ψ := fun O => wI M O ∧ dI (m + 1) O) ?_ (fun O hO => ?_)
  · refine wp_iterS (P := fun k z => z.1 = iI (k : Int) ∧ (∀ c i, c ≠ 99 → z.2.1 c i = N4.1 c i) ∧ (∀ i, (i < 4 + 3 * m ∨ 4 + 3 * m + 3 ≤ i) → z.2.1 99 i = N4.1 99 i) ∧ ∀ s2, s2 < k → z.2.1 99 (4 + 3 * m + s2) = iI (m : Int)) 3 ?_ _ _ ⟨rfl, fun _ _ _ => rfl, fun _ _ => rfl, fun s2 q => absurd q (Nat.not_lt_zero _)⟩ (FUEL_big (by decide))
    rintro k ⟨z1, O⟩ hk ⟨e1, o1, o2, o3⟩
    dsimp only at e1 o1 o2 o3
    subst e1
    unfold F_MO_readMood_b47
    dsimp only
    refine wp_if (fun cc => wp_some ?_) (fun cc => ?_)
    · rw [l32_3, iI_le (by omega) (by omega) (by omega) (by omega)] at cc
      have nO : nm O = nm N4 := by
        unfold nm
        rw [o1 94 14 (by decide)]
      have pO : pt O = pt N4 := by
        unfold pt
        rw [o1 94 6 (by decide)]
      have eO : en O = en N4 := by
        unfold en
        rw [o1 94 7 (by decide)]
      have bO : bg O = bg N4 := by
        unfold bg
        rw [o1 94 8 (by decide)]
      obtain ⟨x1, x2, x3, x4, x5⟩ := w5
      show wI M O ∧ dI (m + 1) O
      refine ⟨⟨by omega, by omega, by omega, by omega, by omega⟩, fun m2 hm2 => ?_, fun m2 s2 hm2 hs2 => ?_, fun k2 hk2 => ?_⟩
      · rw [o2 (1 + m2) (by omega)]
        exact b1 m2 hm2
      · by_cases q : m2 = m
        · rw [q]
          exact Or.inl (o3 s2 (by omega))
        · rw [o2 (4 + 3 * m2 + s2) (by omega), nO]
          rcases b2 m2 s2 (by omega) hs2 with u | ⟨k2, k3, k4⟩
          · exact Or.inl u
          · exact Or.inr ⟨k2, k3, by rw [o1 100 k2 (by decide)]; exact k4⟩
      · rw [o1 100 k2 (by decide)]
        rw [nO] at hk2
        exact b3 k2 hk2
    · rw [l32_3, iI_le (by omega) (by omega) (by omega) (by omega)] at cc
      have e4 : (4 + (3 * iI (m : Int))) + iI (k : Int) = iI ((4 + 3 * m + k : Nat) : Int) := by
        rw [l32_4, l32_3, iI_mul, iI_add, iI_add]
        rfl
      rw [e4]
      refine wp_t (inb_iI (by omega) (by omega) (by omega)) (wp_some ⟨by omega, iI_succ k, fun c i hc => (mI_cell hc).trans (o1 c i hc), fun i hi => ?_, fun s2 hs2 => ?_⟩)
      · show (mSI O 99 _ _).1 99 i = _
        rw [clN (by omega), mI_ix (by omega)]
        exact o2 i hi
      · show (mSI O 99 _ _).1 99 (4 + 3 * m + s2) = _
        rw [clN (by omega)]
        by_cases q : s2 = k
        · rw [q, mI_hit]
        · rw [mI_ix (by omega)]
          exact o3 s2 (by omega)
  · obtain ⟨w6, d6⟩ := hO
    unfold F_MO_readMood_l71
    have h03 := h.2.2
    refine wp_bind (Ψ := fun q => match q with | .inl r => wI M r | .inr r => wI M r ∧ dI (m + 1) r) ?_ (fun q hq => ?_)
    · refine wp_while (P := fun z => wI M z ∧ dI (m + 1) z) (μ := fun z => (en M - pt z).toNat) ?_ FUEL _ ⟨w6, d6⟩ (FUEL_big (by
        have := w6.1
        have := h.1
        omega))
      rintro z ⟨wz, dz2⟩
      have tz := wz.tp h
      unfold F_MO_readMood_b71
      refine wp_bind (N_sign tz) (fun r4 h4 => ?_)
      obtain ⟨s4, g4⟩ := h4
      have wz4 := s4.wI wz.2.2.2.1 wz.2.2.2.2
      refine wp_if (fun q4 => ?_) (fun _ => wp_some ⟨wz.tr wz4, dz2.sm s4.2.2.2.2⟩)
      have lt := g4 q4
      have nme := s4.2.2.2.2.nmK
      refine wp_bind (N_readSeen (c := m + 1) (s4.tp tz) (by omega) (by omega) (by have := wz.2.2.2.1; omega) (by have := wz.2.2.2.2; omega) (dz2.sm s4.2.2.2.2)) (fun r5 h5 => ?_)
      obtain ⟨w5, d5⟩ := h5
      have wz5 := wz4.tr w5
      refine wp_if (fun q5 => wp_some ⟨⟨wz.tr wz5, d5 q5⟩, ?_⟩) (fun _ => wp_some (wz.tr wz5))
      have a1 := w5.1
      have a2 := wz5.2.1
      have a3 := wz.2.2.1
      have a4 := wz.2.1
      have a5 := wz4.2.2.1
      have a6 := w5.2.1
      omega
    · rcases q with q | q
      · exact wp_some ⟨hq, fun w => nomatch w⟩
      · exact wp_some ⟨hq.1, fun _ => ⟨by omega, hq.2⟩⟩
/-- a draft that is a way -/
def DG (M : Mem) : Prop := (1 ≤ (M.1 99 0).toInt ∧ (M.1 99 0).toInt ≤ 3) ∧ ∀ m : Nat, (m : Int) < (M.1 99 0).toInt → (0 ≤ (M.1 99 (1 + m)).toInt ∧ (M.1 99 (1 + m)).toInt ≤ 2) ∧ ∀ s : Nat, s < 3 → 0 ≤ (M.1 99 (4 + 3 * m + s)).toInt ∧ (M.1 99 (4 + 3 * m + s)).toInt < (M.1 99 0).toInt
theorem N_readWay {M : Mem} (h : tp0 M) : wpO (F_MO_readWay M) (fun r => r.1 = true → DG r.2) := by
  have n0 : nm (mSI M 94 14 0) = 0 := by
    unfold nm
    rw [mI_hit]
    decide
  have h2 : tp0 (mSI M 94 14 0) := h
  have d0 : dI 0 (mSI M 94 14 0) := ⟨fun m hm => absurd hm (Nat.not_lt_zero _), fun m s hm => absurd hm (Nat.not_lt_zero _), fun k hk => by
    rw [n0] at hk
    omega⟩
  unfold F_MO_readWay
  generalize mSI M 94 14 0 = M1 at *
  have w00 : wI M1 M1 := ⟨Int.le_refl _, h2.2.1, rfl, by omega, by have := h2.1; omega⟩
  unfold F_MO_readWay_l9
  refine wp_bind (Ψ := fun q => match q with | .inl _ => True | .inr (.inl _) => True | .inr (.inr r) => ∃ c : Nat, 1 ≤ c ∧ c ≤ 3 ∧ r.1 = iI (c : Int) ∧ dI c r.2 ∧ 0 ≤ nm r.2 ∧ nm r.2 ≤ 400) ?_ (fun q hq => ?_)
  · refine wp_iter (P := fun k z => z.1 = iI (k : Int) ∧ k ≤ 3 ∧ dI k z.2.2 ∧ wI M1 z.2.2 ∧ (z.2.1 = false → 1 ≤ k)) 4 ?_ _ _ ⟨rfl, by decide, d0, w00, fun q => nomatch q⟩ (FUEL_big (by decide))
    rintro k ⟨z1, z2, N⟩ hk ⟨e1, k3, d1, w1, hz⟩
    dsimp only at e1 d1 w1 hz
    subst e1
    have tN := w1.tp h2
    unfold F_MO_readWay_b9
    dsimp only
    refine wp_if (fun _ => ?_) (fun cz => wp_some ?_)
    · refine wp_bind (N_readMood tN k3 w1.2.2.2.1 w1.2.2.2.2 d1) (fun r1 h1 => ?_)
      obtain ⟨w2, d2⟩ := h1
      have w3 := w1.tr w2
      refine wp_if (fun q1 => ?_) (fun _ => wp_some trivial)
      obtain ⟨k2, d3⟩ := d2 q1
      refine wp_bind (N_blanks (w3.tp h2)) (fun r2 h2' => ?_)
      obtain ⟨s2, b2⟩ := h2'
      have w4 := w3.tr (s2.wI w3.2.2.2.1 w3.2.2.2.2)
      have d4 := d3.sm s2.2.2.2.2
      have t4 := w4.tp h2
      rw [iI_succ]
      refine wp_if (fun _ => ?_) (fun cp => ?_)
      · unfold F_MO_readWay_j46
        refine wp_ff ?_
        unfold F_MO_readWay_j64
        refine wp_ff (wp_some ⟨by omega, rfl, by omega, d4.sm sm68.rf.s6, ?_, fun _ => by omega⟩)
        have e0 : r2.1 94 6 + 0 = r2.1 94 6 := by
          have z : (0 : Int32) = iI 0 := rfl
          rw [← iI_of (r2.1 94 6), z, iI_add, Int.add_zero]
        have ep : pt (mSI r2 94 6 (r2.1 94 6 + 0)) = pt r2 := by
          unfold pt
          rw [mI_hit, e0]
        have ebg : bg (mSI r2 94 6 (r2.1 94 6 + 0)) = bg r2 := by
          unfold bg
          rw [mI_ix (by decide)]
        have een : en (mSI r2 94 6 (r2.1 94 6 + 0)) = en r2 := by
          unfold en
          rw [mI_ix (by decide)]
        have enm : nm (mSI r2 94 6 (r2.1 94 6 + 0)) = nm r2 := by
          unfold nm
          rw [mI_ix (by decide)]
        show wI M1 (mSI r2 94 6 (r2.1 94 6 + 0))
        obtain ⟨x1, x2, x3, x4, x5⟩ := w4
        exact ⟨by omega, by omega, by omega, by omega, by omega⟩
      · unfold F_MO_readWay_j46
        refine wp_tt ?_
        refine wp_bind (N_isAt t4.1 t4.2.2) (fun r3 h3 => ?_)
        refine wp_if (fun q3 => ?_) (fun _ => wp_some trivial)
        obtain ⟨lt, -⟩ := h3 q3
        unfold F_MO_readWay_j64
        refine wp_tt (wp_some ⟨by omega, rfl, by omega, d4.sm sm68.rf.s6, ?_, fun q => nomatch q⟩)
        have ep : pt (mSI r2 94 6 (r2.1 94 6 + 1)) = pt r2 + 1 := by
          unfold pt
          rw [mI_hit]
          have := t4.1
          have := t4.2.2
          unfold pt en at *
          rw [a32] <;> rw [li1] <;> omega
        have ebg : bg (mSI r2 94 6 (r2.1 94 6 + 1)) = bg r2 := by
          unfold bg
          rw [mI_ix (by decide)]
        have een : en (mSI r2 94 6 (r2.1 94 6 + 1)) = en r2 := by
          unfold en
          rw [mI_ix (by decide)]
        have enm : nm (mSI r2 94 6 (r2.1 94 6 + 1)) = nm r2 := by
          unfold nm
          rw [mI_ix (by decide)]
        show wI M1 (mSI r2 94 6 (r2.1 94 6 + 1))
        obtain ⟨x1, x2, x3, x4, x5⟩ := w4
        exact ⟨by omega, by omega, by omega, by omega, by omega⟩
    · have hf : z2 = false := by
        cases z2 with
        | true => exact absurd rfl cz
        | false => rfl
      have a1 := w1.2.2.2.2
      have a2 := w1.2.1
      have a3 := h2.2.2
      exact ⟨k, hz hf, k3, rfl, d1, w1.2.2.2.1, show nm N ≤ 400 by omega⟩
  · rcases q with q | q
    · exact wp_some (fun w => nomatch w)
    · rcases q with q | q
      · exact wp_some (fun w => nomatch w)
      · obtain ⟨c, c1, c3, e1, ⟨d1, d2, d3⟩, g0, g4⟩ := hq
        obtain ⟨q1, N⟩ := q
        dsimp only at e1 d1 d2 d3 g0 g4
        subst e1
        show wpO (F_MO_readWay_l87 (iI (c : Int)) 0 N) _
        unfold F_MO_readWay_l87
        have nv : (N.1 94 14).toInt = nm N := rfl
        refine wp_bind (Ψ := fun q => match q with | .inl r => ∃ k : Nat, r = iI (k : Int) ∧ k < 400 | .inr _ => ∀ k : Nat, (k : Int) < nm N → (N.1 100 k).toInt < c) ?_ (fun q hq => ?_)
        · refine wp_iter (P := fun k z => z = iI (k : Int) ∧ (k : Int) ≤ nm N ∧ ∀ k2 : Nat, k2 < k → (N.1 100 k2).toInt < c) 400 ?_ _ _ ⟨rfl, g0, fun k2 q => absurd q (Nat.not_lt_zero _)⟩ (FUEL_big (by decide))
          rintro k z hk ⟨e1, hkn, hall⟩
          subst e1
          unfold F_MO_readWay_b87
          refine wp_if (fun cc => wp_some (fun k2 hk2 => hall k2 ?_)) (fun cc => ?_)
          · rw [le_i, iI_toInt (by omega) (by omega)] at cc
            omega
          rw [le_i, iI_toInt (by omega) (by omega)] at cc
          refine wp_t (inb_iI (by omega) (by omega) (by omega)) ?_
          rw [clN (by omega)]
          refine wp_if (fun c5 => wp_some ⟨by omega, iI_succ k, by omega, fun k2 hk2 => ?_⟩) (fun _ => wp_some ⟨k, rfl, by omega⟩)
          rw [lt_i, iI_toInt (by omega) (by omega)] at c5
          by_cases q : k2 = k
          · rw [q]
            exact c5
          · exact hall k2 (by omega)
        · rcases q with q | q
          · obtain ⟨k, rfl, hk⟩ := hq
            show wpO (F_MO_readWay_j105 (iI (k : Int)) N) _
            unfold F_MO_readWay_j105
            exact wp_t (inb_iI (by omega) (by omega) (by omega)) (wp_some (fun w => nomatch w))
          · show wpO (F_MO_readWay_j123 (iI (c : Int)) N) _
            unfold F_MO_readWay_j123
            refine wp_t (by decide) (wp_some (fun _ => ?_))
            show DG (mSI N 99 ((0 : Int32)).toNatClampNeg (iI (c : Int)))
            rw [tn0]
            have e0 : ((mSI N 99 0 (iI (c : Int))).1 99 0).toInt = c := by rw [mI_hit, iI_toInt (by omega) (by omega)]
            refine ⟨by rw [e0]; omega, fun m hm => ?_⟩
            rw [e0] at hm
            rw [e0]
            refine ⟨?_, fun s hs => ?_⟩
            · rw [mI_ix (by omega)]
              exact d1 m (by omega)
            · rw [mI_ix (by omega)]
              rcases d2 m s (by omega) hs with u | ⟨k, k1, k2⟩
              · rw [u, iI_toInt (by omega) (by omega)]
                omega
              · rw [k2]
                exact ⟨(d3 k k1).1, hq k k1⟩
