/-! ===== MATH LAYER: the plain calls, both sides ===== -/
theorem xb_inl {α β : Type} {E : String} {M : Mem} {k : α → Mem → Option ((String ⊕ β) × Mem)} : xbind (some (.inl E, M)) k = some (.inl E, M) := rfl
theorem xb_inr {α β : Type} {v : α} {M : Mem} {k : α → Mem → Option ((String ⊕ β) × Mem)} : xbind (some (.inr v, M)) k = k v M := rfl
theorem hb_inl {α β : Type} {E : String} {M : Mem} {hx : String → Mem → Option β} {k : α → Mem → Option β} : hbind (some (.inl E, M)) hx k = hx E M := rfl
theorem hb_inr {α β : Type} {v : α} {M : Mem} {hx : String → Mem → Option β} {k : α → Mem → Option β} : hbind (some (.inr v, M)) hx k = k v M := rfl
theorem bs {α β : Type} {a : α} {k : α → Option β} : (some a).bind k = k a := rfl
theorem n32 {a b : Int32} : ¬ a < b ↔ b ≤ a := Int32.not_lt
theorem m32 {a b : Int32} : ¬ a ≤ b ↔ b < a := Int32.not_le
theorem b2i_t : b2i true = 1 := rfl
theorem b2i_f : b2i false = 0 := rfl
theorem b2i_inj {a b : Bool} (h : a = b) : b2i a = b2i b := by rw [h]
theorem tn0 : ((0 : Int32)).toNatClampNeg = 0 := by decide
theorem tn1 : ((1 : Int32)).toNatClampNeg = 1 := by decide
theorem tn2 : ((2 : Int32)).toNatClampNeg = 2 := by decide
theorem tn3 : ((3 : Int32)).toNatClampNeg = 3 := by decide
theorem tn4 : ((4 : Int32)).toNatClampNeg = 4 := by decide
theorem tn5 : ((5 : Int32)).toNatClampNeg = 5 := by decide
theorem tn6 : ((6 : Int32)).toNatClampNeg = 6 := by decide
theorem tn7 : ((7 : Int32)).toNatClampNeg = 7 := by decide
theorem tn8 : ((8 : Int32)).toNatClampNeg = 8 := by decide
theorem ib0 : inb ((0 : Int32)) 564 := by decide
theorem ib1 : inb ((1 : Int32)) 564 := by decide
theorem ib2 : inb ((2 : Int32)) 564 := by decide
theorem ib3 : inb ((3 : Int32)) 564 := by decide
theorem ib4 : inb ((4 : Int32)) 564 := by decide
theorem ib5 : inb ((5 : Int32)) 564 := by decide
theorem ib6 : inb ((6 : Int32)) 564 := by decide
theorem ib7 : inb ((7 : Int32)) 564 := by decide
theorem ib8 : inb ((8 : Int32)) 564 := by decide
theorem ib01 : inb ((0 : Int32)) 1 := by decide
theorem mI_hit {M : Mem} {k j : Nat} {v : Int32} : (mSI M k j v).1 k j = v := by rw [mSI_1, if_pos ⟨rfl, rfl⟩]
theorem mI_cell {M : Mem} {k j a b : Nat} {v : Int32} (h : a ≠ k) : (mSI M k j v).1 a b = M.1 a b := by rw [mSI_1, if_neg (fun q => h q.1)]
theorem mI_ix {M : Mem} {k j a b : Nat} {v : Int32} (h : b ≠ j) : (mSI M k j v).1 a b = M.1 a b := by rw [mSI_1, if_neg (fun q => h q.2)]
theorem mL_hit {M : Mem} {k j : Nat} {v : Int64} : (mSL M k j v).2 k j = v := by rw [mSL_2, if_pos ⟨rfl, rfl⟩]
theorem mL_cell {M : Mem} {k j a b : Nat} {v : Int64} (h : a ≠ k) : (mSL M k j v).2 a b = M.2 a b := by rw [mSL_2, if_neg (fun q => h q.1)]
theorem mL_ix {M : Mem} {k j a b : Nat} {v : Int64} (h : b ≠ j) : (mSL M k j v).2 a b = M.2 a b := by rw [mSL_2, if_neg (fun q => h q.2)]
/-- the thrown code of the reference -/
theorem if_f1 {α : Type} {x : Mem} {A B : α} : (if ((false, x) : Bool × Mem).1 = true then A else B) = B := rfl
theorem S_throws_t (c : Int32) (M : Mem) : F_MO_throwsIf (b2i true) c M = some (true, mSI M 94 0 c) := rfl
theorem S_throws_f (c : Int32) (M : Mem) : F_MO_throwsIf (b2i false) c M = some (false, M) := rfl
theorem S_within (a b c : Int32) (M : Mem) : F_MO_within a b c M = some (decide (b ≤ a ∧ a ≤ c)) := by
  unfold F_MO_within
  by_cases h1 : a < b
  · rw [if_pos h1, decide_eq_false (fun q => n32.mpr q.1 h1)]
  · rw [if_neg h1]
    by_cases h2 : c < a
    · rw [if_pos h2, decide_eq_false (fun q => n32.mpr q.2 h2)]
    · rw [if_neg h2, decide_eq_true ⟨n32.mp h1, n32.mp h2⟩]
theorem S_num_ok {x a b : Int32} {M : Mem} (h : a ≤ x ∧ x ≤ b) : F_KW_needNumber x a b M = some (.inr (), M) := by
  unfold F_KW_needNumber
  rw [if_neg (n32.mpr h.1), if_pos h.2]
theorem S_num_no {x a b : Int32} {M : Mem} (h : ¬ (a ≤ x ∧ x ≤ b)) : F_KW_needNumber x a b M = some (.inl "java/lang/IllegalArgumentException", M) := by
  unfold F_KW_needNumber
  by_cases h1 : x < a
  · rw [if_pos h1]
  · rw [if_neg h1, if_neg (fun q => h ⟨n32.mp h1, q⟩)]
theorem S_what_ok {x b : Int32} {M : Mem} (h : 0 ≤ x ∧ x ≤ b) : F_KW_needWhat x b M = some (.inr (), M) := by
  unfold F_KW_needWhat
  rw [if_neg (n32.mpr h.1), if_pos h.2]
theorem S_what_no {x b : Int32} {M : Mem} (h : ¬ (0 ≤ x ∧ x ≤ b)) : F_KW_needWhat x b M = some (.inl "java/util/NoSuchElementException", M) := by
  unfold F_KW_needWhat
  by_cases h1 : x < 0
  · rw [if_pos h1]
  · rw [if_neg h1, if_neg (fun q => h ⟨n32.mp h1, q⟩)]
theorem S_person_ok {x : Int32} {M : Mem} (h : 0 ≤ x ∧ x ≤ 1) : F_KW_needPerson x M = some (.inr (), M) := by
  unfold F_KW_needPerson
  rw [if_neg (n32.mpr h.1), if_pos h.2]
theorem S_person_no {x : Int32} {M : Mem} (h : ¬ (0 ≤ x ∧ x ≤ 1)) : F_KW_needPerson x M = some (.inl "java/lang/IndexOutOfBoundsException", M) := by
  unfold F_KW_needPerson
  by_cases h1 : x < 0
  · rw [if_pos h1]
  · rw [if_neg h1, if_neg (fun q => h ⟨n32.mp h1, q⟩)]
theorem S_noPerson (x : Int32) (M : Mem) : F_MO_noPerson x M = some (!decide (0 ≤ x ∧ x ≤ 1)) := by
  unfold F_MO_noPerson
  rw [S_within]
  cases decide (0 ≤ x ∧ x ≤ 1) <;> rfl
/-- x is one of n things that are counted -/
theorem le_pred {x n : Int32} (hn : 0 ≤ n) : x ≤ n - 1 ↔ x < n := by
  have h0 : (0 : Int) ≤ n.toInt := Int32.le_iff_toInt_le.mp hn
  have h1 := i_hi n
  have e : (n - 1).toInt = n.toInt - 1 := by
    have h9 : (1 : Int32) = iI 1 := rfl
    rw [← iI_of n, h9, iI_sub, iI_toInt, iI_toInt] <;> omega
  rw [Int32.le_iff_toInt_le, Int32.lt_iff_toInt_lt, e]
  omega
theorem S_act_ok {x : Int32} {M : Mem} (h : 0 ≤ x ∧ x < M.1 1 0) : F_KW_needAct x M = some (.inr (), M) := by
  unfold F_KW_needAct
  rw [if_neg (n32.mpr h.1), if_pos h.2]
theorem S_act_no {x : Int32} {M : Mem} (h : ¬ (0 ≤ x ∧ x < M.1 1 0)) : F_KW_needAct x M = some (.inl "java/lang/IndexOutOfBoundsException", M) := by
  unfold F_KW_needAct
  by_cases h1 : x < 0
  · rw [if_pos h1]
  · rw [if_neg h1, if_neg (fun q => h ⟨n32.mp h1, q⟩)]
theorem S_way_ok {x : Int32} {M : Mem} (h : 0 ≤ x ∧ x < M.1 1 6) : F_KW_needWay x M = some (.inr (), M) := by
  unfold F_KW_needWay
  rw [if_neg (n32.mpr h.1), if_pos h.2]
theorem S_way_no {x : Int32} {M : Mem} (h : ¬ (0 ≤ x ∧ x < M.1 1 6)) : F_KW_needWay x M = some (.inl "java/lang/IndexOutOfBoundsException", M) := by
  unfold F_KW_needWay
  by_cases h1 : x < 0
  · rw [if_pos h1]
  · rw [if_neg h1, if_neg (fun q => h ⟨n32.mp h1, q⟩)]
theorem S_actMany (M : Mem) : F_MO_actMany M = some (M.1 95 0) := by
  unfold F_MO_actMany
  rw [if_pos ib0, tn0]
theorem S_noAct {x : Int32} {M : Mem} (h0 : 0 ≤ M.1 95 0) : F_MO_noAct x M = some (!decide (0 ≤ x ∧ x < M.1 95 0)) := by
  unfold F_MO_noAct
  rw [S_actMany, bs, S_within, bs]
  by_cases h : 0 ≤ x ∧ x < M.1 95 0
  · rw [decide_eq_true h, decide_eq_true ⟨h.1, (le_pred h0).mpr h.2⟩]
    rfl
  · rw [decide_eq_false h, decide_eq_false (fun q => h ⟨q.1, (le_pred h0).mp q.2⟩)]
    rfl
theorem S_noWay {x : Int32} {M : Mem} (h0 : 0 ≤ M.1 95 5) : F_MO_noWay x M = some (!decide (0 ≤ x ∧ x < M.1 95 5)) := by
  unfold F_MO_noWay
  rw [if_pos ib5, tn5, S_within, bs]
  by_cases h : 0 ≤ x ∧ x < M.1 95 5
  · rw [decide_eq_true h, decide_eq_true ⟨h.1, (le_pred h0).mpr h.2⟩]
    rfl
  · rw [decide_eq_false h, decide_eq_false (fun q => h ⟨q.1, (le_pred h0).mp q.2⟩)]
    rfl
/-! acts, tomorrow, mistakes, rounds: each goes on alike on both sides, or both throw -/
theorem P_acts (n : Int32) (M : Mem) : (F_LAW_acts n M = some (0, mSI M 1 0 n) ∧ (2 ≤ n ∧ n ≤ 3) ∧ ∀ M2 : Mem, F_MO_acts n M2 = some (mSI (mSI M2 94 0 0) 95 0 n)) ∨ (F_LAW_acts n M = some (1, M) ∧ ∀ M2 : Mem, F_MO_acts n M2 = some (mSI (mSI M2 94 0 0) 94 0 1)) := by
  by_cases h : 2 ≤ n ∧ n ≤ 3
  · refine Or.inl ⟨?_, h, fun M2 => ?_⟩
    · unfold F_LAW_acts F_KW_acts
      rw [S_num_ok h, xb_inr, hb_inr]
    · unfold F_MO_acts
      rw [S_within, bs, decide_eq_true h, if_pos rfl]
      unfold F_MO_acts_j20
      rw [S_throws_f, bs, if_f1, if_pos ib0, tn0]
  · refine Or.inr ⟨?_, fun M2 => ?_⟩
    · unfold F_LAW_acts F_KW_acts
      rw [S_num_no h, xb_inl, hb_inl, if_pos rfl]
    · unfold F_MO_acts
      rw [S_within, bs, decide_eq_false h, if_neg (by decide)]
      unfold F_MO_acts_j20
      rw [S_throws_t, bs, if_pos rfl]
theorem P_rounds (n : Int32) (M : Mem) : (F_LAW_rounds n M = some (0, mSI M 1 5 n) ∧ (1 ≤ n ∧ n ≤ 30) ∧ ∀ M2 : Mem, F_MO_rounds n M2 = some (mSI (mSI M2 94 0 0) 95 6 n)) ∨ (F_LAW_rounds n M = some (1, M) ∧ ∀ M2 : Mem, F_MO_rounds n M2 = some (mSI (mSI M2 94 0 0) 94 0 1)) := by
  by_cases h : 1 ≤ n ∧ n ≤ 30
  · refine Or.inl ⟨?_, h, fun M2 => ?_⟩
    · unfold F_LAW_rounds F_KW_rounds
      rw [S_num_ok h, xb_inr, hb_inr]
    · unfold F_MO_rounds
      rw [S_within, bs, decide_eq_true h, if_pos rfl]
      simp only [F_MO_rounds_j21, S_throws_f, bs, if_neg (show ¬ (false = true) by decide), if_pos ib6, tn6]
  · refine Or.inr ⟨?_, fun M2 => ?_⟩
    · unfold F_LAW_rounds F_KW_rounds
      rw [S_num_no h, xb_inl, hb_inl, if_pos rfl]
    · unfold F_MO_rounds
      rw [S_within, bs, decide_eq_false h, if_neg (by decide)]
      simp only [F_MO_rounds_j21, S_throws_t, bs, if_pos]
theorem P_tomorrow (a q : Int32) (M : Mem) : (F_LAW_tomorrow a q M = some (0, mSI (mSI M 1 1 a) 1 2 q) ∧ ((2 ≤ q ∧ q ≤ 9) ∧ 1 ≤ a ∧ a ≤ q - 1) ∧ ∀ M2 : Mem, F_MO_tomorrow a q M2 = some (mSI (mSI (mSI M2 94 0 0) 95 1 a) 95 2 q)) ∨ (F_LAW_tomorrow a q M = some (1, M) ∧ ∀ M2 : Mem, F_MO_tomorrow a q M2 = some (mSI (mSI M2 94 0 0) 94 0 1)) := by
  by_cases h : 2 ≤ q ∧ q ≤ 9
  · by_cases h2 : 1 ≤ a ∧ a ≤ q - 1
    · refine Or.inl ⟨?_, ⟨h, h2⟩, fun M2 => ?_⟩
      · unfold F_LAW_tomorrow F_KW_tomorrow
        rw [S_num_ok h, xb_inr, S_num_ok h2, xb_inr, hb_inr]
      · unfold F_MO_tomorrow
        rw [S_within, bs, decide_eq_true h, if_pos rfl, S_within, bs, decide_eq_true h2, if_pos rfl]
        unfold F_MO_tomorrow_j32
        rw [S_throws_f, bs, if_f1, if_pos ib1, if_pos ib2, tn1, tn2]
    · refine Or.inr ⟨?_, fun M2 => ?_⟩
      · unfold F_LAW_tomorrow F_KW_tomorrow
        rw [S_num_ok h, xb_inr, S_num_no h2, xb_inl, hb_inl, if_pos rfl]
      · unfold F_MO_tomorrow
        rw [S_within, bs, decide_eq_true h, if_pos rfl, S_within, bs, decide_eq_false h2, if_neg (by decide)]
        unfold F_MO_tomorrow_j32
        rw [S_throws_t, bs, if_pos rfl]
  · refine Or.inr ⟨?_, fun M2 => ?_⟩
    · unfold F_LAW_tomorrow F_KW_tomorrow
      rw [S_num_no h, xb_inl, hb_inl, if_pos rfl]
    · unfold F_MO_tomorrow
      rw [S_within, bs, decide_eq_false h, if_neg (by decide)]
      unfold F_MO_tomorrow_j32
      rw [S_throws_t, bs, if_pos rfl]
theorem P_mistakes (a q : Int32) (M : Mem) : (F_LAW_mistakes a q M = some (0, mSI (mSI M 1 3 a) 1 4 q) ∧ ((1 ≤ q ∧ q ≤ 9) ∧ 0 ≤ a ∧ a ≤ q - 1) ∧ ∀ M2 : Mem, F_MO_mistakes a q M2 = some (mSI (mSI (mSI M2 94 0 0) 95 3 a) 95 4 q)) ∨ (F_LAW_mistakes a q M = some (1, M) ∧ ∀ M2 : Mem, F_MO_mistakes a q M2 = some (mSI (mSI M2 94 0 0) 94 0 1)) := by
  by_cases h : 1 ≤ q ∧ q ≤ 9
  · by_cases h2 : 0 ≤ a ∧ a ≤ q - 1
    · refine Or.inl ⟨?_, ⟨h, h2⟩, fun M2 => ?_⟩
      · unfold F_LAW_mistakes F_KW_mistakes
        rw [S_num_ok h, xb_inr, S_num_ok h2, xb_inr, hb_inr]
      · unfold F_MO_mistakes
        rw [S_within, bs, decide_eq_true h, if_pos rfl, S_within, bs, decide_eq_true h2, if_pos rfl]
        unfold F_MO_mistakes_j32
        rw [S_throws_f, bs, if_f1, if_pos ib3, if_pos ib4, tn3, tn4]
    · refine Or.inr ⟨?_, fun M2 => ?_⟩
      · unfold F_LAW_mistakes F_KW_mistakes
        rw [S_num_ok h, xb_inr, S_num_no h2, xb_inl, hb_inl, if_pos rfl]
      · unfold F_MO_mistakes
        rw [S_within, bs, decide_eq_true h, if_pos rfl, S_within, bs, decide_eq_false h2, if_neg (by decide)]
        unfold F_MO_mistakes_j32
        rw [S_throws_t, bs, if_pos rfl]
  · refine Or.inr ⟨?_, fun M2 => ?_⟩
    · unfold F_LAW_mistakes F_KW_mistakes
      rw [S_num_no h, xb_inl, hb_inl, if_pos rfl]
    · unfold F_MO_mistakes
      rw [S_within, bs, decide_eq_false h, if_neg (by decide)]
      unfold F_MO_mistakes_j32
      rw [S_throws_t, bs, if_pos rfl]
/-- end: the tape's length on both sides -/
theorem P_end (n : Int32) (M : Mem) : (F_KW_end n M = some (true, mSI M 27 1 n) ∧ (0 ≤ n ∧ n ≤ M.1 27 1) ∧ ∀ M2 : Mem, M2.1 94 5 = M.1 27 1 → F_MO_end n M2 = some (true, mSI (mSI M2 94 0 0) 94 5 n)) ∨ (F_KW_end n M = some (false, M) ∧ ∀ M2 : Mem, M2.1 94 5 = M.1 27 1 → F_MO_end n M2 = some (false, mSI M2 94 0 0)) := by
  unfold F_KW_end F_MO_end
  by_cases h1 : n < 0
  · exact Or.inr ⟨by rw [if_pos h1], fun M2 h => by rw [if_pos h1]⟩
  · by_cases h2 : n ≤ M.1 27 1
    · exact Or.inl ⟨by rw [if_neg h1, if_pos h2], ⟨n32.mp h1, h2⟩, fun M2 h => by rw [mI_ix (show (5 : Nat) ≠ 0 by decide), h, if_neg h1, if_pos h2]⟩
    · exact Or.inr ⟨by rw [if_neg h1, if_neg h2], fun M2 h => by rw [mI_ix (show (5 : Nat) ≠ 0 by decide), h, if_neg h1, if_neg h2]⟩
/-! sums and products that fit -/
theorem a32 {a b : Int32} (h1 : -2147483648 ≤ a.toInt + b.toInt) (h2 : a.toInt + b.toInt < 2147483648) : (a + b).toInt = a.toInt + b.toInt := by
  rw [← iI_of a, ← iI_of b, iI_add, iI_of, iI_of, iI_toInt h1 h2]
theorem s32 {a b : Int32} (h1 : -2147483648 ≤ a.toInt - b.toInt) (h2 : a.toInt - b.toInt < 2147483648) : (a - b).toInt = a.toInt - b.toInt := by
  rw [← iI_of a, ← iI_of b, iI_sub, iI_of, iI_of, iI_toInt h1 h2]
theorem p32 {a b : Int32} (h1 : -2147483648 ≤ a.toInt * b.toInt) (h2 : a.toInt * b.toInt < 2147483648) : (a * b).toInt = a.toInt * b.toInt := by
  rw [← iI_of a, ← iI_of b, iI_mul, iI_of, iI_of, iI_toInt h1 h2]
theorem a64 {a b : Int64} (h1 : -9223372036854775808 ≤ a.toInt + b.toInt) (h2 : a.toInt + b.toInt < 9223372036854775808) : (a + b).toInt = a.toInt + b.toInt := by
  rw [← lI_of a, ← lI_of b, lI_add, lI_of, lI_of, lI_toInt h1 h2]
theorem s64 {a b : Int64} (h1 : -9223372036854775808 ≤ a.toInt - b.toInt) (h2 : a.toInt - b.toInt < 9223372036854775808) : (a - b).toInt = a.toInt - b.toInt := by
  rw [← lI_of a, ← lI_of b, lI_sub, lI_of, lI_of, lI_toInt h1 h2]
theorem p64 {a b : Int64} (h1 : -9223372036854775808 ≤ a.toInt * b.toInt) (h2 : a.toInt * b.toInt < 9223372036854775808) : (a * b).toInt = a.toInt * b.toInt := by
  rw [← lI_of a, ← lI_of b, lI_mul, lI_of, lI_of, lI_toInt h1 h2]
theorem le_i {a b : Int32} : a ≤ b ↔ a.toInt ≤ b.toInt := Int32.le_iff_toInt_le
theorem lt_i {a b : Int32} : a < b ↔ a.toInt < b.toInt := Int32.lt_iff_toInt_lt
theorem le_l {a b : Int64} : a ≤ b ↔ a.toInt ≤ b.toInt := Int64.le_iff_toInt_le
theorem lt_l {a b : Int64} : a < b ↔ a.toInt < b.toInt := Int64.lt_iff_toInt_lt
theorem li0 : (0 : Int32).toInt = 0 := by decide
theorem li1 : (1 : Int32).toInt = 1 := by decide
theorem li2 : (2 : Int32).toInt = 2 := by decide
theorem li3 : (3 : Int32).toInt = 3 := by decide
theorem li4 : (4 : Int32).toInt = 4 := by decide
theorem li5 : (5 : Int32).toInt = 5 := by decide
theorem li6 : (6 : Int32).toInt = 6 := by decide
theorem li8 : (8 : Int32).toInt = 8 := by decide
theorem li9 : (9 : Int32).toInt = 9 := by decide
theorem li13 : (13 : Int32).toInt = 13 := by decide
theorem li20 : (20 : Int32).toInt = 20 := by decide
theorem li400 : (400 : Int32).toInt = 400 := by decide
theorem li564 : (564 : Int32).toInt = 564 := by decide
theorem inb_i {i : Int32} {n : Nat} (h1 : 0 ≤ i.toInt) (h2 : i.toInt < n) : inb i n := by
  have h := inb_iI h1 h2 (i_hi i)
  rwa [iI_of] at h
theorem clamp_i (i : Int32) : i.toNatClampNeg = i.toInt.toNat := rfl
theorem R_put {a n : Nat} {i : Int32} {v : Int64} {M : Mem} (h1 : 0 ≤ i.toInt) (h2 : i.toInt < n) (hn : n < 1000) : F_Row_put a n i v M = some (mSL M a i.toInt.toNat v) := by
  have h := V_Row_put (a := a) (n := n) (v := v) (M := M) h1 h2 hn
  rwa [iI_of] at h
theorem R_at {a n : Nat} {i : Int32} {M : Mem} (h1 : 0 ≤ i.toInt) (h2 : i.toInt < n) (hn : n < 1000) : F_Row_at a n i M = some (M.2 a i.toInt.toNat) := by
  have h := V_Row_at (a := a) (n := n) (M := M) h1 h2 hn
  rwa [iI_of] at h
theorem R_small {a n : Nat} {i : Int32} {M : Mem} (h1 : 0 ≤ i.toInt) (h2 : i.toInt < n) (hn : n < 1000) : F_Row_small a n i M = some (M.2 a i.toInt.toNat).toInt32 := by
  have h := V_Row_small (a := a) (n := n) (M := M) h1 h2 hn
  rwa [iI_of] at h
/-- where what two acts bring stands -/
theorem bix {a b A : Int32} (ha : 0 ≤ a ∧ a < A) (hb : 0 ≤ b ∧ b < A) (hA : A ≤ 3) : (2 * ((3 * a) + b)).toInt = 2 * (3 * a.toInt + b.toInt) ∧ 0 ≤ a.toInt ∧ a.toInt < 3 ∧ 0 ≤ b.toInt ∧ b.toInt < 3 := by
  obtain ⟨a1, a2⟩ := ha
  obtain ⟨b1, b2⟩ := hb
  rw [le_i, li0] at a1 b1
  rw [lt_i] at a2 b2
  rw [le_i, li3] at hA
  have e1 : (3 * a).toInt = 3 * a.toInt := by rw [p32] <;> rw [li3] <;> omega
  have e2 : ((3 * a) + b).toInt = 3 * a.toInt + b.toInt := by rw [a32] <;> rw [e1] <;> omega
  have e3 : (2 * ((3 * a) + b)).toInt = 2 * (3 * a.toInt + b.toInt) := by rw [p32] <;> rw [li2, e2] <;> omega
  exact ⟨e3, by omega, by omega, by omega, by omega⟩
def bI (a b : Int32) : Nat := (2 * (3 * a.toInt + b.toInt)).toNat
theorem P_bring (a b f t : Int32) (M : Mem) (hA : 0 ≤ M.1 1 0 ∧ M.1 1 0 ≤ 3) :
    (F_LAW_bring a b f t M = some (0, mSL (mSL M 3 (bI a b) f.toInt64) 3 (bI a b + 1) t.toInt64) ∧ ((0 ≤ a ∧ a < M.1 1 0) ∧ (0 ≤ b ∧ b < M.1 1 0) ∧ (-99 ≤ f ∧ f ≤ 99) ∧ (-99 ≤ t ∧ t ≤ 99)) ∧ ∀ M2 : Mem, M2.1 95 0 = M.1 1 0 → F_MO_bring a b f t M2 = some (mSI (mSI (mSI M2 94 0 0) 95 (9 + bI a b) f) 95 (10 + bI a b) t)) ∨
    ∃ k : Int32, (F_LAW_bring a b f t M = some (k, M) ∧ ∀ M2 : Mem, M2.1 95 0 = M.1 1 0 → F_MO_bring a b f t M2 = some (mSI (mSI M2 94 0 0) 94 0 k)) := by
  have hN : ∀ (x : Int32) (M2 : Mem), M2.1 95 0 = M.1 1 0 → F_MO_noAct x (mSI M2 94 0 0) = some (!decide (0 ≤ x ∧ x < M.1 1 0)) := by
    intro x M2 h
    have e : (mSI M2 94 0 0).1 95 0 = M.1 1 0 := by rw [mI_cell (by decide), h]
    rw [S_noAct (by rw [e]; exact hA.1), e]
  by_cases ha : 0 ≤ a ∧ a < M.1 1 0
  · by_cases hb : 0 ≤ b ∧ b < M.1 1 0
    · obtain ⟨e3, q1, q2, q3, q4⟩ := bix ha hb hA.2
      have ef : ∀ M2 : Mem, (F_MO_within f (-99) 99 M2).bind (fun r3 => if r3 = true then (F_MO_within t (-99) 99 M2).bind fun r5 => if r5 = true then F_MO_bring_j63 a b f t false M2 else F_MO_bring_j63 a b f t true M2 else F_MO_bring_j63 a b f t true M2) = F_MO_bring_j63 a b f t (!decide ((-99 ≤ f ∧ f ≤ 99) ∧ (-99 ≤ t ∧ t ≤ 99))) M2 := by
        intro M2
        rw [S_within, bs, S_within]
        by_cases h1 : -99 ≤ f ∧ f ≤ 99
        · by_cases h2 : -99 ≤ t ∧ t ≤ 99
          · rw [decide_eq_true h1, decide_eq_true h2, decide_eq_true (p := (-99 ≤ f ∧ f ≤ 99) ∧ (-99 ≤ t ∧ t ≤ 99)) ⟨h1, h2⟩]; rfl
          · rw [decide_eq_true h1, decide_eq_false h2, decide_eq_false (p := (-99 ≤ f ∧ f ≤ 99) ∧ (-99 ≤ t ∧ t ≤ 99)) (fun q => h2 q.2)]; rfl
        · rw [decide_eq_false h1, decide_eq_false (p := (-99 ≤ f ∧ f ≤ 99) ∧ (-99 ≤ t ∧ t ≤ 99)) (fun q => h1 q.1)]; rfl
      have eM : ∀ M2 : Mem, M2.1 95 0 = M.1 1 0 → F_MO_bring a b f t M2 = F_MO_bring_j63 a b f t (!decide ((-99 ≤ f ∧ f ≤ 99) ∧ (-99 ≤ t ∧ t ≤ 99))) (mSI M2 94 0 0) := by
        intro M2 h
        unfold F_MO_bring
        rw [hN a M2 h, bs, decide_eq_true ha, if_neg (by decide), hN b M2 h, bs, decide_eq_true hb, if_neg (by decide)]
        unfold F_MO_bring_j27
        rw [S_throws_f, bs, if_f1, ef]
      by_cases hf : (-99 ≤ f ∧ f ≤ 99) ∧ (-99 ≤ t ∧ t ≤ 99)
      · refine Or.inl ⟨?_, ⟨ha, hb, hf.1, hf.2⟩, fun M2 h => ?_⟩
        · unfold F_LAW_bring F_KW_bring
          rw [S_act_ok ha, xb_inr, S_act_ok hb, xb_inr, S_num_ok hf.1, xb_inr, S_num_ok hf.2, xb_inr]
          unfold F_Well_setBrings
          have e4 : ((2 * ((3 * a) + b)) + 1).toInt = 2 * (3 * a.toInt + b.toInt) + 1 := by rw [a32] <;> rw [e3, li1] <;> omega
          rw [R_put (by omega) (by omega) (by decide), bs, R_put (by omega) (by omega) (by decide), bs, bs, hb_inr, e3, e4]
          have e5 : (2 * (3 * a.toInt + b.toInt) + 1).toNat = bI a b + 1 := by unfold bI; omega
          rw [e5]
          rfl
        · rw [eM M2 h, decide_eq_true hf]
          unfold F_MO_bring_j63
          have e6 : (9 + (2 * ((3 * a) + b))).toInt = 9 + 2 * (3 * a.toInt + b.toInt) := by rw [a32] <;> rw [e3, li9] <;> omega
          have e7 : ((9 + (2 * ((3 * a) + b))) + 1).toInt = 10 + 2 * (3 * a.toInt + b.toInt) := by rw [a32] <;> rw [e6, li1] <;> omega
          rw [show (!true) = false from rfl, S_throws_f, bs, if_f1, if_pos (inb_i (by omega) (by omega)), if_pos (inb_i (by omega) (by omega)), clamp_i, clamp_i, e6, e7]
          have e8 : (9 + 2 * (3 * a.toInt + b.toInt)).toNat = 9 + bI a b := by unfold bI; omega
          have e9 : (10 + 2 * (3 * a.toInt + b.toInt)).toNat = 10 + bI a b := by unfold bI; omega
          rw [e8, e9]
      · refine Or.inr ⟨2, ?_, fun M2 h => ?_⟩
        · unfold F_LAW_bring F_KW_bring
          rw [S_act_ok ha, xb_inr, S_act_ok hb, xb_inr]
          by_cases h1 : -99 ≤ f ∧ f ≤ 99
          · rw [S_num_ok h1, xb_inr, S_num_no (fun q => hf ⟨h1, q⟩), xb_inl, hb_inl, if_neg (by decide), if_pos rfl]
          · rw [S_num_no h1, xb_inl, hb_inl, if_neg (by decide), if_pos rfl]
        · rw [eM M2 h, decide_eq_false hf]
          unfold F_MO_bring_j63
          rw [show (!false) = true from rfl, S_throws_t, bs, if_pos rfl]
    · refine Or.inr ⟨1, ?_, fun M2 h => ?_⟩
      · unfold F_LAW_bring F_KW_bring
        rw [S_act_ok ha, xb_inr, S_act_no hb, xb_inl, hb_inl, if_pos rfl]
      · unfold F_MO_bring
        rw [hN a M2 h, bs, decide_eq_true ha, if_neg (by decide), hN b M2 h, bs, decide_eq_false hb, if_pos (show (!false) = true from rfl)]
        unfold F_MO_bring_j27
        rw [S_throws_t, bs, if_pos rfl]
  · refine Or.inr ⟨1, ?_, fun M2 h => ?_⟩
    · unfold F_LAW_bring F_KW_bring
      rw [S_act_no ha, xb_inl, hb_inl, if_pos rfl]
    · unfold F_MO_bring
      rw [hN a M2 h, bs, decide_eq_false ha, if_pos (show (!false) = true from rfl)]
      unfold F_MO_bring_j27
      rw [S_throws_t, bs, if_pos rfl]
theorem addsub1 (v : Int32) : (v + 1) - 1 = v := by
  have h9 : (1 : Int32) = iI 1 := rfl
  rw [← iI_of v, h9, iI_add, iI_sub]
  congr 1
  omega
def vI (v : Int32) : Nat := v.toInt.toNat
/-- the reference's cells behind one more villager -/
def vilM (c g v : Int32) (M : Mem) : Mem := mSI (mSI (mSI (mSI M 94 0 0) 95 (552 + 2 * vI v) c) 95 (553 + 2 * vI v) g) 95 8 (v + 1)
def vilC (c g v : Int32) (M : Mem) : Mem := mSL (mSI (mSL (mSL M 11 (vI v) c.toInt64) 13 (vI v) g.toInt64) 1 8 (v + 1)) 121 0 v.toInt64
theorem P_villager (c g : Int32) (M : Mem) (hv : 0 ≤ M.1 1 8 ∧ M.1 1 8 ≤ 6) :
    (F_LAW_villager c g M = some (0, vilC c g (M.1 1 8) M) ∧ ((0 ≤ c ∧ c ≤ 999) ∧ (1 ≤ g ∧ g ≤ 99) ∧ M.1 1 8 < 6) ∧ ∀ M2 : Mem, M2.1 95 8 = M.1 1 8 → F_MO_villager c g M2 = some (M.1 1 8, vilM c g (M.1 1 8) M2)) ∨
    ∃ k : Int32, (¬ k = 0 ∧ F_LAW_villager c g M = some (k, M) ∧ ∀ M2 : Mem, M2.1 95 8 = M.1 1 8 → F_MO_villager c g M2 = some (0, mSI (mSI M2 94 0 0) 94 0 k)) := by
  obtain ⟨h0, h6⟩ := hv
  rw [le_i, li0] at h0
  rw [le_i, li6] at h6
  have hM : ∀ M2 : Mem, F_MO_villager c g M2 = F_MO_villager_j32 c g (!decide ((0 ≤ c ∧ c ≤ 999) ∧ (1 ≤ g ∧ g ≤ 99))) (mSI M2 94 0 0) := by
    intro M2
    unfold F_MO_villager
    rw [S_within, bs]
    by_cases h1 : 0 ≤ c ∧ c ≤ 999
    · rw [decide_eq_true h1, if_pos rfl, S_within, bs]
      by_cases h2 : 1 ≤ g ∧ g ≤ 99
      · rw [decide_eq_true h2, if_pos rfl, decide_eq_true (p := (0 ≤ c ∧ c ≤ 999) ∧ (1 ≤ g ∧ g ≤ 99)) ⟨h1, h2⟩]; rfl
      · rw [decide_eq_false h2, if_neg (by decide), decide_eq_false (p := (0 ≤ c ∧ c ≤ 999) ∧ (1 ≤ g ∧ g ≤ 99)) (fun q => h2 q.2)]; rfl
    · rw [decide_eq_false h1, if_neg (by decide), decide_eq_false (p := (0 ≤ c ∧ c ≤ 999) ∧ (1 ≤ g ∧ g ≤ 99)) (fun q => h1 q.1)]; rfl
  by_cases hr : (0 ≤ c ∧ c ≤ 999) ∧ (1 ≤ g ∧ g ≤ 99)
  · by_cases hv : M.1 1 8 < 6
    · have hv2 := hv
      rw [lt_i, li6] at hv2
      refine Or.inl ⟨?_, ⟨hr.1, hr.2, hv⟩, fun M2 h => ?_⟩
      · unfold F_LAW_villager F_KW_villager
        rw [S_num_ok hr.1, xb_inr, S_num_ok hr.2, xb_inr, if_pos hv, R_put (by omega) (by omega) (by decide), bs]
        rw [R_put (by rw [mSL_1]; omega) (by rw [mSL_1]; omega) (by decide), bs, hb_inr, if_pos ib01, tn0]
        simp only [mI_hit, mSL_1, addsub1]
        rfl
      · rw [hM M2, decide_eq_true hr]
        unfold F_MO_villager_j32
        have e8 : (mSI M2 94 0 0).1 95 8 = M.1 1 8 := by rw [mI_cell (by decide), h]
        have hne : ¬ M.1 1 8 = 6 := by
          intro q
          rw [q, li6] at hv2
          omega
        rw [show (!true) = false from rfl, S_throws_f, bs, if_f1, if_pos ib8, tn8, e8, if_neg hne]
        unfold F_MO_villager_j57
        have f2 : (2 * M.1 1 8).toInt = 2 * (M.1 1 8).toInt := by rw [p32] <;> rw [li2] <;> omega
        have l552 : (552 : Int32).toInt = 552 := by decide
        have f3 : (552 + (2 * M.1 1 8)).toInt = 552 + 2 * (M.1 1 8).toInt := by rw [a32] <;> rw [l552, f2] <;> omega
        have f4 : ((552 + (2 * M.1 1 8)) + 1).toInt = 553 + 2 * (M.1 1 8).toInt := by rw [a32] <;> rw [f3, li1] <;> omega
        rw [S_throws_f, bs, if_f1]
        simp only [tn8, e8]
        rw [if_pos ib8, if_pos (inb_i (by omega) (by omega)), if_pos (inb_i (by omega) (by omega)), if_pos ib8, if_pos ib8, clamp_i, clamp_i, f3, f4]
        have g3 : (552 + 2 * (M.1 1 8).toInt).toNat = 552 + 2 * vI (M.1 1 8) := by unfold vI; omega
        have g4 : (553 + 2 * (M.1 1 8).toInt).toNat = 553 + 2 * vI (M.1 1 8) := by unfold vI; omega
        rw [g3, g4, mI_ix (show (8 : Nat) ≠ 553 + 2 * vI (M.1 1 8) by omega), mI_ix (show (8 : Nat) ≠ 552 + 2 * vI (M.1 1 8) by omega), e8]
        rfl
    · refine Or.inr ⟨2, by decide, ?_, fun M2 h => ?_⟩
      · unfold F_LAW_villager F_KW_villager
        rw [S_num_ok hr.1, xb_inr, S_num_ok hr.2, xb_inr, if_neg hv, hb_inl, if_neg (by decide), if_pos rfl]
      · rw [hM M2, decide_eq_true hr]
        unfold F_MO_villager_j32
        have e8 : (mSI M2 94 0 0).1 95 8 = M.1 1 8 := by rw [mI_cell (by decide), h]
        have he : M.1 1 8 = 6 := by
          rw [lt_i, li6] at hv
          rw [← Int32.toInt_inj, li6]
          omega
        rw [show (!true) = false from rfl, S_throws_f, bs, if_f1, if_pos ib8, tn8, e8, if_pos he]
        unfold F_MO_villager_j57
        rw [S_throws_t, bs, if_pos rfl]
  · refine Or.inr ⟨1, by decide, ?_, fun M2 h => ?_⟩
    · unfold F_LAW_villager F_KW_villager
      by_cases h1 : 0 ≤ c ∧ c ≤ 999
      · rw [S_num_ok h1, xb_inr, S_num_no (fun q => hr ⟨h1, q⟩), xb_inl, hb_inl, if_pos rfl]
      · rw [S_num_no h1, xb_inl, hb_inl, if_pos rfl]
    · rw [hM M2, decide_eq_false hr]
      unfold F_MO_villager_j32
      rw [show (!false) = true from rfl, S_throws_t, bs, if_pos rfl]
/-! the tape -/
theorem it_l {σ ρ : Type} {body : σ → Option (σ ⊕ ρ)} {n : Nat} {s s' : σ} (h : body s = some (.inl s')) : iter body (n + 1) s = iter body n s' := by
  show (body s).bind _ = _
  rw [h]
  rfl
theorem it_r {σ ρ : Type} {body : σ → Option (σ ⊕ ρ)} {n : Nat} {s : σ} {r : ρ} (h : body s = some (.inr r)) : iter body (n + 1) s = some r := by
  show (body s).bind _ = _
  rw [h]
  rfl
theorem FUEL_5 : FUEL = 1180591620717411303419 + 5 := rfl
def apB (x s : Int32) (M : Mem) : Mem := mSI (mSL M 29 (M.1 27 1).toInt.toNat (((ush x s) &&& 255).toInt64)) 27 1 (M.1 27 1 + 1)
theorem apB_len (x s : Int32) (M : Mem) : (apB x s M).1 27 1 = M.1 27 1 + 1 := mI_hit
theorem S_app1 {x s : Int32} {M : Mem} (hs : ¬ s < 0) (h1 : 0 ≤ (M.1 27 1).toInt) (h2 : (M.1 27 1).toInt < 400) : F_Tape_append_b3 x (s, M) = some (.inl (s + (-8), apB x s M)) := by
  unfold F_Tape_append_b3
  dsimp only
  rw [if_neg hs, R_put h1 h2 (by decide), bs]
  rfl
theorem S_append (x : Int32) (M : Mem) (h1 : 0 ≤ (M.1 27 1).toInt) (h2 : (M.1 27 1).toInt ≤ 396) : F_Tape_append x M = some (apB x 0 (apB x 8 (apB x 16 (apB x 24 M)))) := by
  unfold F_Tape_append F_Tape_append_l3
  have e1 : (apB x 24 M).1 27 1 = M.1 27 1 + 1 := apB_len _ _ _
  have i1 : ((apB x 24 M).1 27 1).toInt = (M.1 27 1).toInt + 1 := by rw [e1, a32] <;> rw [li1] <;> omega
  have i2 : ((apB x 16 (apB x 24 M)).1 27 1).toInt = (M.1 27 1).toInt + 2 := by rw [apB_len, a32] <;> rw [li1] <;> omega
  have i3 : ((apB x 8 (apB x 16 (apB x 24 M))).1 27 1).toInt = (M.1 27 1).toInt + 3 := by rw [apB_len, a32] <;> rw [li1] <;> omega
  rw [FUEL_5, it_l (S_app1 (by decide) h1 (by omega)), show (24 : Int32) + (-8) = 16 by decide, it_l (S_app1 (by decide) (by omega) (by omega)), show (16 : Int32) + (-8) = 8 by decide, it_l (S_app1 (by decide) (by omega) (by omega)), show (8 : Int32) + (-8) = 0 by decide, it_l (S_app1 (by decide) (by omega) (by omega)), show (0 : Int32) + (-8) = -8 by decide, it_r (r := apB x 0 (apB x 8 (apB x 16 (apB x 24 M)))) (by unfold F_Tape_append_b3; dsimp only; rw [if_pos (by decide)])]
  rfl
def ap4 (x : Int32) (M : Mem) : Mem := apB x 0 (apB x 8 (apB x 16 (apB x 24 M)))
theorem ap4_len {x : Int32} {M : Mem} (h1 : 0 ≤ (M.1 27 1).toInt) (h2 : (M.1 27 1).toInt ≤ 396) : ((ap4 x M).1 27 1).toInt = (M.1 27 1).toInt + 4 := by
  have e1 : (apB x 24 M).1 27 1 = M.1 27 1 + 1 := apB_len _ _ _
  have i1 : ((apB x 24 M).1 27 1).toInt = (M.1 27 1).toInt + 1 := by rw [e1, a32] <;> rw [li1] <;> omega
  have i2 : ((apB x 16 (apB x 24 M)).1 27 1).toInt = (M.1 27 1).toInt + 2 := by rw [apB_len, a32] <;> rw [li1] <;> omega
  have i3 : ((apB x 8 (apB x 16 (apB x 24 M))).1 27 1).toInt = (M.1 27 1).toInt + 3 := by rw [apB_len, a32] <;> rw [li1] <;> omega
  unfold ap4
  rw [apB_len, a32] <;> rw [li1] <;> omega
theorem ap4_1 {x : Int32} {M : Mem} {a b : Nat} (h : ¬ (a = 27 ∧ b = 1)) : (ap4 x M).1 a b = M.1 a b := by
  unfold ap4 apB
  simp only [mSI_1, mSL_1, if_neg h]
theorem ap4_2 {x : Int32} {M : Mem} {a b : Nat} (h : a ≠ 29) : (ap4 x M).2 a b = M.2 a b := by
  unfold ap4 apB
  simp only [mSI_2, mSL_2, h, false_and, if_false]
/-- feed, the class's side -/
theorem S_feed (a b c d e : Int32) (M : Mem) (h1 : 0 ≤ (M.1 27 1).toInt) (h2 : (M.1 27 1).toInt ≤ 380) : F_KW_feed a b c d e M = some ((ap4 e (ap4 d (ap4 c (ap4 b (ap4 a M))))).1 27 1, ap4 e (ap4 d (ap4 c (ap4 b (ap4 a M))))) ∧ ((ap4 e (ap4 d (ap4 c (ap4 b (ap4 a M))))).1 27 1).toInt = (M.1 27 1).toInt + 20 := by
  have k1 := ap4_len (x := a) h1 (by omega)
  have k2 := ap4_len (x := b) (M := ap4 a M) (by omega) (by omega)
  have k3 := ap4_len (x := c) (M := ap4 b (ap4 a M)) (by omega) (by omega)
  have k4 := ap4_len (x := d) (M := ap4 c (ap4 b (ap4 a M))) (by omega) (by omega)
  have k5 := ap4_len (x := e) (M := ap4 d (ap4 c (ap4 b (ap4 a M)))) (by omega) (by omega)
  refine ⟨?_, by omega⟩
  unfold F_KW_feed F_Tape_hasRoom
  have hr : ¬ (400 < (M.1 27 1) + 20) := by
    rw [lt_i, a32] <;> rw [li20] <;> first | omega | (rw [li400]; omega)
  rw [if_neg hr, bs, if_pos rfl]
  rw [S_append a M h1 (by omega), bs]
  show (F_Tape_append b (ap4 a M)).bind _ = _
  rw [S_append b _ (by omega) (by omega), bs]
  show (F_Tape_append c (ap4 b (ap4 a M))).bind _ = _
  rw [S_append c _ (by omega) (by omega), bs]
  show (F_Tape_append d (ap4 c (ap4 b (ap4 a M)))).bind _ = _
  rw [S_append d _ (by omega) (by omega), bs]
  show (F_Tape_append e (ap4 d (ap4 c (ap4 b (ap4 a M))))).bind _ = _
  rw [S_append e _ (by omega) (by omega), bs]
  rfl
theorem S_feed_no (a b c d e : Int32) (M : Mem) (h1 : 380 < (M.1 27 1).toInt) (h2 : (M.1 27 1).toInt ≤ 400) : F_KW_feed a b c d e M = some (-1, M) := by
  unfold F_KW_feed F_Tape_hasRoom
  have hr : 400 < (M.1 27 1) + 20 := by
    rw [lt_i, a32] <;> rw [li20] <;> first | omega | (rw [li400]; omega)
  rw [if_pos hr, bs, if_neg (by decide)]
/-- feed, the reference's side: the five words, then the bytes -/
def fivM (a b c d e : Int32) (M : Mem) : Mem := mSI (mSI (mSI (mSI (mSI (mSI M 94 0 0) 98 0 a) 98 1 b) 98 2 c) 98 3 d) 98 4 e
def fB (M : Mem) (j : Nat) : Int32 := vp_nar .byte (((M.1 98 (j / 4)) >>> ((24 - (8 * (irm (iI j) 4))) &&& 31)).toInt8.toInt32)
theorem S_mfeed (a b c d e : Int32) (M : Mem) (n : Nat) (hn : (M.1 94 5).toInt = n) (h2 : n ≤ 380) : wpO (F_MO_feed a b c d e M) (fun r => r.1 = M.1 94 5 + 20 ∧ r.2.1 94 5 = M.1 94 5 + 20 ∧ (∀ j, j < 20 → r.2.1 97 (n + j) = fB (fivM a b c d e M) j) ∧ (∀ x y, ¬ (x = 97 ∧ n ≤ y ∧ y < n + 20) → ¬ (x = 94 ∧ y = 5) → r.2.1 x y = (fivM a b c d e M).1 x y) ∧ r.2.2 = M.2) := by
  have g0 : inb ((0 : Int32)) 5 := by decide
  have g1 : inb ((1 : Int32)) 5 := by decide
  have g2 : inb ((2 : Int32)) 5 := by decide
  have g3 : inb ((3 : Int32)) 5 := by decide
  have g4 : inb ((4 : Int32)) 5 := by decide
  unfold F_MO_feed
  have hr : (mSI M 94 0 0).1 94 5 + 20 ≤ 400 := by
    rw [mI_ix (show (5 : Nat) ≠ 0 by decide), le_i, a32] <;> rw [li20] <;> first | omega | (rw [li400]; omega)
  rw [if_pos hr, if_pos g0, if_pos g1, if_pos g2, if_pos g3, if_pos g4, tn0, tn1, tn2, tn3, tn4]
  show wpO (F_MO_feed_l60 0 (fivM a b c d e M)) _
  have e5 : (fivM a b c d e M).1 94 5 = M.1 94 5 := by
    unfold fivM
    simp only [mSI_1]
    rfl
  have e2 : (fivM a b c d e M).2 = M.2 := rfl
  unfold F_MO_feed_l60
  refine wp_bind (Ψ := fun z => (∀ j, j < 20 → z.1 97 (n + j) = fB (fivM a b c d e M) j) ∧ (∀ x y, ¬ (x = 97 ∧ n ≤ y ∧ y < n + 20) → z.1 x y = (fivM a b c d e M).1 x y) ∧ z.2 = M.2) ?_ ?_
  · refine wp_iter (P := fun k z => z.1 = iI k ∧ (∀ j, j < k → z.2.1 97 (n + j) = fB (fivM a b c d e M) j) ∧ (∀ x y, ¬ (x = 97 ∧ n ≤ y ∧ y < n + 20) → z.2.1 x y = (fivM a b c d e M).1 x y) ∧ z.2.2 = M.2) 20 ?_ _ _ ⟨rfl, fun j hj => absurd hj (Nat.not_lt_zero _), fun _ _ _ => rfl, rfl⟩ (FUEL_big (by decide))
    intro k z hk ⟨p1, p2, p3, p4⟩
    unfold F_MO_feed_b60
    rw [p1]
    have l20 : (20 : Int32) = iI 20 := rfl
    have l4 : (4 : Int32) = iI 4 := rfl
    rcases Nat.lt_or_ge k 20 with hlt | hge
    · have q5 : z.2.1 94 5 = M.1 94 5 := by rw [p3 94 5 (fun q => absurd q.1 (by decide)), e5]
      have q6 : (z.2.1 94 5 + iI k).toInt = (n : Int) + k := by
        rw [q5, a32] <;> rw [iI_toInt (by omega) (by omega)] <;> omega
      have q7 : iI k / 4 = iI ((k / 4 : Nat) : Int) := by
        rw [l4, idiv_iI (by omega) (by omega) (by omega) (by omega)]
        show iI ((k : Int).tdiv ((4 : Nat) : Int)) = _
        rw [← Int.ofNat_tdiv]
      refine wp_f (by rw [l20, iI_le] <;> omega) (wp_t (by rw [q7]; exact inb_iI (by omega) (by omega) (by omega)) (wp_t (inb_i (by omega) (by omega)) (wp_some ⟨hlt, ?_, ?_, ?_, p4⟩)))
      · have h9 : (1 : Int32) = iI 1 := rfl
        show iI (k : Int) + 1 = _
        rw [h9, iI_add]
        rfl
      · intro j hj
        show (mSI z.2 97 _ _).1 97 (n + j) = _
        rw [clamp_i, q6, show ((n : Int) + k).toNat = n + k by omega]
        by_cases q : j = k
        · subst q
          rw [mI_hit, q7, clamp_iI (by omega) (by omega), show ((j / 4 : Nat) : Int).toNat = j / 4 from rfl, p3 98 (j / 4) (fun q => absurd q.1 (by decide))]
          rfl
        · rw [mI_ix (by omega)]
          exact p2 j (by omega)
      · intro x y hxy
        show (mSI z.2 97 _ _).1 x y = _
        rw [clamp_i, q6, show ((n : Int) + k).toNat = n + k by omega, mSI_1, if_neg (fun q => hxy ⟨q.1, by omega, by omega⟩)]
        exact p3 x y hxy
    · have : k = 20 := by omega
      subst this
      exact wp_t (by rw [l20, iI_le] <;> omega) (wp_some ⟨p2, p3, p4⟩)
  · intro z ⟨p2, p3, p4⟩
    unfold F_MO_feed_j106
    have q5 : z.1 94 5 = M.1 94 5 := by rw [p3 94 5 (fun q => absurd q.1 (by decide)), e5]
    refine wp_some ⟨?_, ?_, ?_, ?_, p4⟩
    · show (mSI z 94 5 _).1 94 5 = _
      rw [q5]
      exact mI_hit
    · show (mSI z 94 5 _).1 94 5 = _
      rw [q5]
      exact mI_hit
    · intro j hj
      show (mSI z 94 5 _).1 97 (n + j) = _
      rw [mI_cell (by decide)]
      exact p2 j hj
    · intro x y h1 h2
      show (mSI z 94 5 _).1 x y = _
      rw [mSI_1, if_neg h2]
      exact p3 x y h1
theorem S_mfeed_no (a b c d e : Int32) (M : Mem) (h1 : 380 < (M.1 94 5).toInt) (h2 : (M.1 94 5).toInt ≤ 400) : F_MO_feed a b c d e M = some (-1, mSI M 94 0 0) := by
  unfold F_MO_feed
  have hr : ¬ ((mSI M 94 0 0).1 94 5 + 20 ≤ 400) := by
    rw [mI_ix (show (5 : Nat) ≠ 0 by decide), le_i, a32] <;> rw [li20] <;> first | omega | (rw [li400]; omega)
  rw [if_neg hr]
