/-! ===== the reference's world: what it holds, its plain readings ===== -/
theorem l32_0 : (0 : Int32) = iI 0 := rfl
theorem l32_1 : (1 : Int32) = iI 1 := rfl
theorem l32_2 : (2 : Int32) = iI 2 := rfl
theorem l32_3 : (3 : Int32) = iI 3 := rfl
theorem l32_4 : (4 : Int32) = iI 4 := rfl
theorem l32_8 : (8 : Int32) = iI 8 := rfl
theorem l32_9 : (9 : Int32) = iI 9 := rfl
theorem l32_13 : (13 : Int32) = iI 13 := rfl
theorem l32_27 : (27 : Int32) = iI 27 := rfl
theorem l32_99 : (99 : Int32) = iI 99 := rfl
theorem l32_144 : (144 : Int32) = iI 144 := rfl
theorem l32_152 : (152 : Int32) = iI 152 := rfl
theorem l32_552 : (552 : Int32) = iI 552 := rfl
theorem clN {n : Nat} (h : n < 2147483648) : (iI (n : Int)).toNatClampNeg = n := clamp_iI (by omega) (by omega)
theorem iI_nat {x : Int32} (h : 0 ≤ x.toInt) : x = iI (x.toInt.toNat : Int) := by
  rw [Int.toNat_of_nonneg h, iI_of]
def WOKW (W : Nat → Int32) (w : Nat) : Prop := 1 ≤ (W (27 + 13 * w)).toInt ∧ (W (27 + 13 * w)).toInt ≤ 3 ∧ ∀ m : Nat, (m : Int) < (W (27 + 13 * w)).toInt → (0 ≤ (W (28 + 13 * w + m)).toInt ∧ (W (28 + 13 * w + m)).toInt ≤ 2) ∧ ∀ s : Nat, s < 3 → 0 ≤ (W (31 + 13 * w + 3 * m + s)).toInt ∧ (W (31 + 13 * w + 3 * m + s)).toInt < (W (27 + 13 * w)).toInt
/-- what the reference's world always holds -/
def RIW (W : Nat → Int32) : Prop :=
  (2 ≤ (W 0).toInt ∧ (W 0).toInt ≤ 3) ∧ (1 ≤ (W 1).toInt ∧ (W 1).toInt < (W 2).toInt ∧ (W 2).toInt ≤ 9) ∧ (0 ≤ (W 3).toInt ∧ (W 3).toInt < (W 4).toInt ∧ (W 4).toInt ≤ 9) ∧
  (0 ≤ (W 5).toInt ∧ (W 5).toInt ≤ 8) ∧ (1 ≤ (W 6).toInt ∧ (W 6).toInt ≤ 30) ∧ (0 ≤ (W 7).toInt ∧ (W 7).toInt ≤ 200) ∧ (0 ≤ (W 8).toInt ∧ (W 8).toInt ≤ 6) ∧
  (∀ j : Nat, j < 18 → -99 ≤ (W (9 + j)).toInt ∧ (W (9 + j)).toInt ≤ 99) ∧ (∀ w : Nat, (w : Int) < (W 5).toInt → WOKW W w) ∧ (∀ j : Nat, j < 400 → 0 ≤ (W (152 + j)).toInt ∧ (W (152 + j)).toInt ≤ 2) ∧
  (∀ k : Nat, (k : Int) < (W 8).toInt → (0 ≤ (W (552 + 2 * k)).toInt ∧ (W (552 + 2 * k)).toInt ≤ 999) ∧ 1 ≤ (W (553 + 2 * k)).toInt ∧ (W (553 + 2 * k)).toInt ≤ 99)
/-- its values as natural numbers -/
def wN (W : Nat → Int32) (j : Nat) : Nat := (W j).toInt.toNat
def mo (W : Nat → Int32) (w : Nat) : Nat := wN W (27 + 13 * w)
def dz (W : Nat → Int32) (w m : Nat) : Nat := wN W (28 + 13 * w + m)
def gz (W : Nat → Int32) (w m s : Nat) : Nat := wN W (31 + 13 * w + 3 * m + s)
def br (W : Nat → Int32) (x y p : Nat) : Int := (W (9 + (2 * (3 * x + y) + p))).toInt
theorem WOKW.moK {W : Nat → Int32} {w : Nat} (h : WOKW W w) : 1 ≤ mo W w ∧ mo W w ≤ 3 ∧ W (27 + 13 * w) = iI (mo W w : Int) := by
  obtain ⟨h1, h2, -⟩ := h
  refine ⟨?_, ?_, iI_nat (by omega)⟩
  · show 1 ≤ (W (27 + 13 * w)).toInt.toNat
    omega
  · show (W (27 + 13 * w)).toInt.toNat ≤ 3
    omega
theorem WOKW.dzK {W : Nat → Int32} {w m : Nat} (h : WOKW W w) (hm : m < mo W w) : dz W w m ≤ 2 ∧ W (28 + 13 * w + m) = iI (dz W w m : Int) := by
  obtain ⟨h1, h2, h3⟩ := h
  have hm2 : m < (W (27 + 13 * w)).toInt.toNat := hm
  obtain ⟨⟨h4, h5⟩, -⟩ := h3 m (by omega)
  refine ⟨?_, iI_nat h4⟩
  show (W (28 + 13 * w + m)).toInt.toNat ≤ 2
  omega
theorem WOKW.gzK {W : Nat → Int32} {w m s : Nat} (h : WOKW W w) (hm : m < mo W w) (hs : s < 3) : gz W w m s < mo W w ∧ W (31 + 13 * w + 3 * m + s) = iI (gz W w m s : Int) := by
  obtain ⟨h1, h2, h3⟩ := h
  have hm2 : m < (W (27 + 13 * w)).toInt.toNat := hm
  obtain ⟨-, h4⟩ := h3 m (by omega)
  obtain ⟨h5, h6⟩ := h4 s hs
  refine ⟨?_, iI_nat h5⟩
  show (W (31 + 13 * w + 3 * m + s)).toInt.toNat < (W (27 + 13 * w)).toInt.toNat
  omega
theorem N_brings {x y p : Nat} (hx : x < 3) (hy : y < 3) (hp : p < 2) (M : Mem) : F_MO_brings (iI (x : Int)) (iI (y : Int)) (iI (p : Int)) M = some (iI (br (M.1 95) x y p)) := by
  unfold F_MO_brings
  have e : (9 + (2 * ((3 * iI (x : Int)) + iI (y : Int)))) + iI (p : Int) = iI ((9 + (2 * (3 * x + y) + p) : Nat) : Int) := by
    rw [l32_9, l32_2, l32_3, iI_mul, iI_add, iI_mul, iI_add, iI_add]
    congr 1
    omega
  rw [e, if_pos (inb_iI (by omega) (by omega) (by omega)), clamp_iI (by omega) (by omega)]
  unfold br
  rw [iI_of]
  rfl
theorem N_moodsOf {w : Nat} (hw : w ≤ 8) (M : Mem) : F_MO_moodsOf (iI (w : Int)) M = some (M.1 95 (27 + 13 * w)) := by
  unfold F_MO_moodsOf
  have e : 27 + (13 * iI (w : Int)) = iI ((27 + 13 * w : Nat) : Int) := by
    rw [l32_27, l32_13, iI_mul, iI_add]
    congr 1
  rw [e, if_pos (inb_iI (by omega) (by omega) (by omega)), clamp_iI (by omega) (by omega)]
  rfl
theorem N_does {w m : Nat} (hw : w ≤ 8) (hm : m ≤ 3) (M : Mem) : F_MO_does (iI (w : Int)) (iI (m : Int)) M = some (M.1 95 (28 + 13 * w + m)) := by
  unfold F_MO_does
  have e : ((27 + (13 * iI (w : Int))) + 1) + iI (m : Int) = iI ((28 + 13 * w + m : Nat) : Int) := by
    rw [l32_27, l32_13, l32_1, iI_mul, iI_add, iI_add, iI_add]
    congr 1
    omega
  rw [e, if_pos (inb_iI (by omega) (by omega) (by omega)), clamp_iI (by omega) (by omega)]
  rfl
theorem N_goes {w m s : Nat} (hw : w ≤ 8) (hm : m ≤ 2) (hs : s ≤ 2) (M : Mem) : F_MO_goes (iI (w : Int)) (iI (m : Int)) (iI (s : Int)) M = some (M.1 95 (31 + 13 * w + 3 * m + s)) := by
  unfold F_MO_goes
  have e : (((27 + (13 * iI (w : Int))) + 4) + (3 * iI (m : Int))) + iI (s : Int) = iI ((31 + 13 * w + 3 * m + s : Nat) : Int) := by
    rw [l32_27, l32_13, l32_4, l32_3, iI_mul, iI_mul, iI_add, iI_add, iI_add, iI_add]
    congr 1
    omega
  rw [e, if_pos (inb_iI (by omega) (by omega) (by omega)), clamp_iI (by omega) (by omega)]
  rfl
theorem N_moods {w : Nat} {M : Mem} (hw : w ≤ 8) (h : WOKW (M.1 95) w) : F_MO_moodsOf (iI (w : Int)) M = some (iI (mo (M.1 95) w : Int)) := by rw [N_moodsOf hw, h.moK.2.2]
theorem N_doesW {w m : Nat} {M : Mem} (hw : w ≤ 8) (h : WOKW (M.1 95) w) (hm : m < mo (M.1 95) w) : F_MO_does (iI (w : Int)) (iI (m : Int)) M = some (iI (dz (M.1 95) w m : Int)) := by
  have := h.moK.2.1
  rw [N_does hw (by omega), (h.dzK hm).2]
theorem N_goesW {w m s : Nat} {M : Mem} (hw : w ≤ 8) (h : WOKW (M.1 95) w) (hm : m < mo (M.1 95) w) (hs : s ≤ 2) : F_MO_goes (iI (w : Int)) (iI (m : Int)) (iI (s : Int)) M = some (iI (gz (M.1 95) w m s : Int)) := by
  have := h.moK.2.1
  rw [N_goes hw (by omega) hs, (h.gzK hm (by omega)).2]
/-- a way is barred -/
def barW (W : Nat → Int32) (w : Nat) : Bool := (List.range (mo W w)).any (fun m => decide ((W 0).toInt ≤ dz W w m))
theorem iI_succ (k : Nat) : iI (k : Int) + 1 = iI ((k + 1 : Nat) : Int) := by
  rw [l32_1, iI_add]
  rfl
theorem N_isBarred {w : Nat} {M : Mem} (hw : w ≤ 8) (h : WOKW (M.1 95) w) : F_MO_isBarred (iI (w : Int)) M = some (barW (M.1 95) w) := by
  unfold F_MO_isBarred F_MO_isBarred_l4
  obtain ⟨m1, m2, m3⟩ := h.moK
  apply wp_of
  refine wp_bind (Ψ := fun r => r = barW (M.1 95) w) ?_ (fun r hr => wp_some hr)
  refine wp_iter (P := fun k z => z.2 = iI (k : Int) ∧ z.1 = (List.range k).any (fun m => decide ((M.1 95 0).toInt ≤ dz (M.1 95) w m))) (mo (M.1 95) w) ?_ _ _ ⟨rfl, rfl⟩ (FUEL_big (by omega))
  intro k z hk ⟨p1, p2⟩
  unfold F_MO_isBarred_b4
  rw [N_moods hw h, bs, p1]
  rcases Nat.lt_or_ge k (mo (M.1 95) w) with hlt | hge
  · refine wp_f (by rw [iI_le] <;> omega) ?_
    have hs : (List.range (k + 1)).any (fun m => decide ((M.1 95 0).toInt ≤ dz (M.1 95) w m)) = (z.1 || decide ((M.1 95 0).toInt ≤ dz (M.1 95) w k)) := by
      rw [List.range_succ, List.any_append, ← p2]
      simp
    refine wp_if (fun c => wp_some ⟨hlt, iI_succ k, ?_⟩) (fun c => ?_)
    · rw [hs, c]
      rfl
    · have hz : z.1 = false := by cases hq : z.1 with
        | true => exact absurd hq c
        | false => rfl
      obtain ⟨d1, d2⟩ := h.dzK hlt
      rw [N_doesW hw h hlt, bs, S_actMany, bs]
      refine wp_if (fun c2 => wp_some ⟨hlt, iI_succ k, ?_⟩) (fun c2 => wp_some ⟨hlt, iI_succ k, ?_⟩)
      · rw [lt_i, iI_toInt (by omega) (by omega)] at c2
        rw [hs, hz, decide_eq_false (by omega)]
        rfl
      · rw [lt_i, iI_toInt (by omega) (by omega)] at c2
        rw [hs, hz, decide_eq_true (by omega)]
        rfl
  · have : k = mo (M.1 95) w := by omega
    subst this
    exact wp_t (by rw [iI_le] <;> omega) (wp_some p2)
theorem N_areBarred {a b : Nat} {M : Mem} (ha : a ≤ 8) (hb : b ≤ 8) (hA : WOKW (M.1 95) a) (hB : WOKW (M.1 95) b) : F_MO_areBarred (iI (a : Int)) (iI (b : Int)) M = some (barW (M.1 95) a || barW (M.1 95) b) := by
  unfold F_MO_areBarred
  rw [N_isBarred ha hA, bs]
  cases barW (M.1 95) a with
  | true => rfl
  | false =>
    rw [if_neg (by decide), N_isBarred hb hB, bs]
    cases barW (M.1 95) b <;> rfl
theorem barW_not {W : Nat → Int32} {w m : Nat} (h : barW W w = false) (hm : m < mo W w) : (dz W w m : Int) < (W 0).toInt := by
  unfold barW at h
  rw [List.any_eq_false] at h
  have h2 := h m (List.mem_range.mpr hm)
  have h3 : ¬ (W 0).toInt ≤ dz W w m := fun q => h2 (decide_eq_true q)
  omega
theorem RIW.acts {W : Nat → Int32} (h : RIW W) : 2 ≤ (W 0).toInt ∧ (W 0).toInt ≤ 3 := h.1
theorem RIW.tom {W : Nat → Int32} (h : RIW W) : 1 ≤ (W 1).toInt ∧ (W 1).toInt < (W 2).toInt ∧ (W 2).toInt ≤ 9 := h.2.1
theorem RIW.mis {W : Nat → Int32} (h : RIW W) : 0 ≤ (W 3).toInt ∧ (W 3).toInt < (W 4).toInt ∧ (W 4).toInt ≤ 9 := h.2.2.1
theorem RIW.ways {W : Nat → Int32} (h : RIW W) : 0 ≤ (W 5).toInt ∧ (W 5).toInt ≤ 8 := h.2.2.2.1
theorem RIW.rnds {W : Nat → Int32} (h : RIW W) : 1 ≤ (W 6).toInt ∧ (W 6).toInt ≤ 30 := h.2.2.2.2.1
theorem RIW.rowN {W : Nat → Int32} (h : RIW W) : 0 ≤ (W 7).toInt ∧ (W 7).toInt ≤ 200 := h.2.2.2.2.2.1
theorem RIW.vilN {W : Nat → Int32} (h : RIW W) : 0 ≤ (W 8).toInt ∧ (W 8).toInt ≤ 6 := h.2.2.2.2.2.2.1
theorem RIW.brj {W : Nat → Int32} (h : RIW W) : ∀ j : Nat, j < 18 → -99 ≤ (W (9 + j)).toInt ∧ (W (9 + j)).toInt ≤ 99 := h.2.2.2.2.2.2.2.1
theorem RIW.way {W : Nat → Int32} (h : RIW W) : ∀ w : Nat, (w : Int) < (W 5).toInt → WOKW W w := h.2.2.2.2.2.2.2.2.1
theorem RIW.row {W : Nat → Int32} (h : RIW W) : ∀ j : Nat, j < 400 → 0 ≤ (W (152 + j)).toInt ∧ (W (152 + j)).toInt ≤ 2 := h.2.2.2.2.2.2.2.2.2.1
theorem RIW.vil {W : Nat → Int32} (h : RIW W) : ∀ k : Nat, (k : Int) < (W 8).toInt → (0 ≤ (W (552 + 2 * k)).toInt ∧ (W (552 + 2 * k)).toInt ≤ 999) ∧ 1 ≤ (W (553 + 2 * k)).toInt ∧ (W (553 + 2 * k)).toInt ≤ 99 := h.2.2.2.2.2.2.2.2.2.2
