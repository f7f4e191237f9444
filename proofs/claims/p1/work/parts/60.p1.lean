theorem pi1 : inb (nI (7 * 0) + 1) 7 := by decide
theorem pt1 : (nI (7 * 0) + 1).toNatClampNeg = 1 := by decide
theorem pi2 : inb (nI (7 * 0) + 2) 7 := by decide
theorem pt2 : (nI (7 * 0) + 2).toNatClampNeg = 2 := by decide
theorem pi3 : inb (nI (7 * 0) + 3) 7 := by decide
theorem pt3 : (nI (7 * 0) + 3).toNatClampNeg = 3 := by decide
theorem pi4 : inb (nI (7 * 0) + 4) 7 := by decide
theorem pt4 : (nI (7 * 0) + 4).toNatClampNeg = 4 := by decide
theorem pi5 : inb (nI (7 * 0) + 5) 7 := by decide
theorem pt5 : (nI (7 * 0) + 5).toNatClampNeg = 5 := by decide
theorem pi6 : inb (nI (7 * 0) + 6) 7 := by decide
theorem pt6 : (nI (7 * 0) + 6).toNatClampNeg = 6 := by decide
set_option maxRecDepth 100000 in
theorem ms_ways : M_start.1 1 6 = 0 := by decide +kernel
set_option maxRecDepth 100000 in
theorem ms_acts : M_start.1 1 0 = 2 := by decide +kernel
set_option maxRecDepth 100000 in
theorem ms_rw : M_start.1 95 5 = 0 := by decide +kernel
set_option maxRecDepth 100000 in
theorem ms_ra : M_start.1 95 0 = 2 := by decide +kernel
set_option maxRecDepth 100000 in
theorem ms_len : M_start.1 27 1 = 0 := by decide +kernel
set_option maxRecDepth 100000 in
theorem ms_rlen : M_start.1 94 5 = 0 := by decide +kernel
set_option maxRecDepth 100000 in
theorem ms_vil : M_start.1 1 8 = 0 := by decide +kernel
set_option maxRecDepth 100000 in
theorem ms_rvil : M_start.1 95 8 = 0 := by decide +kernel
theorem some_getD {α : Type} {X : Option α} {d : α} (h : X.isSome = true) : X = some (X.getD d) := by
  cases X with
  | none => cases h
  | some a => rfl
theorem ex_isSome {α : Type} {X : Option α} (h : X.isSome = true) : ∃ a, X = some a := Option.isSome_iff_exists.mp h
theorem S_thrown (k : Int32) (M : Mem) : F_MO_thrown (mSI M 94 0 k) = some k := by
  unfold F_MO_thrown
  rw [mI_hit]
theorem rng1 (a : Int32) : a = 0 ∨ a = 1 ∨ ¬ (0 ≤ a ∧ a ≤ 1) := by
  rw [← Int32.toInt_inj, ← Int32.toInt_inj, le_i, le_i, li0, li1]
  omega
theorem rng2 (a : Int32) : a = 0 ∨ a = 1 ∨ a = 2 ∨ ¬ (0 ≤ a ∧ a ≤ 2) := by
  rw [← Int32.toInt_inj, ← Int32.toInt_inj, ← Int32.toInt_inj, le_i, le_i, li0, li1, li2]
  omega
theorem rngA (a : Int32) : a = 0 ∨ a = 1 ∨ ¬ (0 ≤ a ∧ a < 2) := by
  rw [← Int32.toInt_inj, ← Int32.toInt_inj, le_i, lt_i, li0, li1, li2]
  omega
theorem L_mood (x1 x2 x3 : Int32) (M : Mem) (h : F_KW_needWay x1 M = some (.inl "java/lang/IndexOutOfBoundsException", M)) : F_LAW_mood x1 x2 x3 M = some (1, M) := by
  unfold F_LAW_mood F_KW_mood
  rw [h, xb_inl, hb_inl, if_pos rfl]
theorem L_worth (x1 x2 x3 x4 x5 x6 : Int32) (M : Mem) (h : F_KW_needWay x1 M = some (.inl "java/lang/IndexOutOfBoundsException", M)) : F_LAW_worth x1 x2 x3 x4 x5 x6 M = some (1, M) := by
  unfold F_LAW_worth F_KW_worth
  rw [h, xb_inl, hb_inl, if_pos rfl]
theorem L_hold (x1 x2 : Int32) (M : Mem) (h : F_KW_needWay x1 M = some (.inl "java/lang/IndexOutOfBoundsException", M)) : F_LAW_hold x1 x2 M = some (1, M) := by
  unfold F_LAW_hold F_KW_hold F_KW_needPair
  rw [h, xb_inl, xb_inl, hb_inl, if_pos rfl]
theorem L_first (x1 x2 : Int32) (M : Mem) (h : F_KW_needWay x1 M = some (.inl "java/lang/IndexOutOfBoundsException", M)) : F_LAW_first x1 x2 M = some (1, M) := by
  unfold F_LAW_first F_KW_first F_KW_needPair
  rw [h, xb_inl, xb_inl, hb_inl, if_pos rfl]
theorem L_edge (x1 x2 x3 : Int32) (M : Mem) (h : F_KW_needWay x1 M = some (.inl "java/lang/IndexOutOfBoundsException", M)) : F_LAW_edge x1 x2 x3 M = some (1, M) := by
  unfold F_LAW_edge F_KW_edge
  rw [h, xb_inl, hb_inl, if_pos rfl]
theorem L_doubt (x1 x2 x3 x4 x5 : Int32) (M : Mem) (h : F_KW_needWay x1 M = some (.inl "java/lang/IndexOutOfBoundsException", M)) : F_LAW_doubt x1 x2 x3 x4 x5 M = some (1, M) := by
  unfold F_LAW_doubt F_KW_doubt
  rw [h, xb_inl, hb_inl, if_pos rfl]
theorem L_judge (x1 x2 : Int32) (M : Mem) (h : F_KW_needWay x1 M = some (.inl "java/lang/IndexOutOfBoundsException", M)) : F_LAW_judge x1 x2 M = some (1, M) := by
  unfold F_LAW_judge F_KW_judge F_KW_needPair
  rw [h, xb_inl, xb_inl, hb_inl, if_pos rfl]
theorem L_drawn (x1 x2 x3 x4 x5 : Int32) (M : Mem) (h : F_KW_needWay x1 M = some (.inl "java/lang/IndexOutOfBoundsException", M)) : F_LAW_drawn x1 x2 x3 x4 x5 M = some (1, M) := by
  unfold F_LAW_drawn F_KW_drawn
  rw [h, xb_inl, hb_inl, if_pos rfl]
theorem L_field (x1 x2 : Int32) (M : Mem) (h : F_KW_needWay x1 M = some (.inl "java/lang/IndexOutOfBoundsException", M)) : F_LAW_field x1 x2 M = some (1, M) := by
  unfold F_LAW_field F_KW_field
  rw [h, xb_inl, hb_inl, if_pos rfl]
theorem L_meet (x1 x2 : Int32) (M : Mem) (h : F_KW_needWay x1 M = some (.inl "java/lang/IndexOutOfBoundsException", M)) : F_LAW_meet x1 x2 M = some (1, M) := by
  unfold F_LAW_meet F_KW_meet F_KW_needPair
  rw [h, xb_inl, xb_inl, hb_inl, if_pos rfl]
theorem L_beings (x1 : Int32) (M : Mem) (h : F_KW_needWay x1 M = some (.inl "java/lang/IndexOutOfBoundsException", M)) : F_LAW_beings x1 M = some (1, M) := by
  unfold F_LAW_beings F_KW_beings
  rw [h, xb_inl, hb_inl, if_pos rfl]
theorem L_stays (x1 : Int32) (M : Mem) (h : F_KW_needWay x1 M = some (.inl "java/lang/IndexOutOfBoundsException", M)) : F_LAW_stays x1 M = some (1, M) := by
  unfold F_LAW_stays F_KW_stays
  rw [h, xb_inl, hb_inl, if_pos rfl]
theorem L_all (x1 x2 : Int32) (M : Mem) (h : F_KW_needWay x1 M = some (.inl "java/lang/IndexOutOfBoundsException", M)) : F_LAW_all x1 x2 M = some (1, M) := by
  unfold F_LAW_all F_KW_all
  rw [h, xb_inl, hb_inl, if_pos rfl]
theorem L_begin (x1 x2 : Int32) (M : Mem) (h : F_KW_needWay x1 M = some (.inl "java/lang/IndexOutOfBoundsException", M)) : F_LAW_begin x1 x2 M = some (1, M) := by
  unfold F_LAW_begin F_KW_begin F_KW_needPair
  rw [h, xb_inl, xb_inl, hb_inl, if_pos rfl]
theorem N_noMood (x1 x2 : Int32) (M : Mem) (h : F_MO_noWay x1 M = some true) : F_MO_noMood x1 x2 M = some true := by
  unfold F_MO_noMood
  rw [h, bs, if_pos rfl]
theorem N_mood (x1 x2 x3 : Int32) (M : Mem) (h : F_MO_noWay x1 (mSI M 94 0 0) = some true) : F_MO_mood x1 x2 x3 M = some (0, mSI (mSI M 94 0 0) 94 0 1) := by
  unfold F_MO_mood
  rw [h, bs, if_pos rfl]
  unfold F_MO_mood_j37
  rw [S_throws_t, bs, if_pos rfl]
theorem N_worth (x1 x2 x3 x4 x5 x6 : Int32) (M : Mem) (h : F_MO_noWay x1 (mSI M 94 0 0) = some true) : F_MO_worth x1 x2 x3 x4 x5 x6 M = some (0, mSI (mSI M 94 0 0) 94 0 1) := by
  unfold F_MO_worth
  rw [N_noMood _ _ _ h, bs, if_pos rfl]
  unfold F_MO_worth_j38
  rw [S_throws_t, bs, if_pos rfl]
theorem N_hold (x1 x2 : Int32) (M : Mem) (h : F_MO_noWay x1 (mSI M 94 0 0) = some true) : F_MO_hold x1 x2 M = some (false, mSI (mSI M 94 0 0) 94 0 1) := by
  unfold F_MO_hold
  rw [h, bs, if_pos rfl]
  unfold F_MO_hold_j27
  rw [S_throws_t, bs, if_pos rfl]
theorem N_first (x1 x2 : Int32) (M : Mem) (h : F_MO_noWay x1 (mSI M 94 0 0) = some true) : F_MO_first x1 x2 M = some (0, mSI (mSI M 94 0 0) 94 0 1) := by
  unfold F_MO_first
  rw [h, bs, if_pos rfl]
  unfold F_MO_first_j27
  rw [S_throws_t, bs, if_pos rfl]
theorem N_edge (x1 x2 x3 : Int32) (M : Mem) (h : F_MO_noWay x1 (mSI M 94 0 0) = some true) : F_MO_edge x1 x2 x3 M = some (0, mSI (mSI M 94 0 0) 94 0 1) := by
  unfold F_MO_edge
  rw [h, bs, if_pos rfl]
  unfold F_MO_edge_j27
  rw [S_throws_t, bs, if_pos rfl]
theorem N_doubt (x1 x2 x3 x4 x5 : Int32) (M : Mem) (h : F_MO_noWay x1 (mSI M 94 0 0) = some true) : F_MO_doubt x1 x2 x3 x4 x5 M = some (0, mSI (mSI M 94 0 0) 94 0 1) := by
  unfold F_MO_doubt
  rw [h, bs, if_pos rfl]
  unfold F_MO_doubt_j34
  rw [S_throws_t, bs, if_pos rfl]
theorem N_judge (x1 x2 : Int32) (M : Mem) (h : F_MO_noWay x1 (mSI M 94 0 0) = some true) : F_MO_judge x1 x2 M = some (0, mSI (mSI M 94 0 0) 94 0 1) := by
  unfold F_MO_judge
  rw [h, bs, if_pos rfl]
  unfold F_MO_judge_j27
  rw [S_throws_t, bs, if_pos rfl]
theorem N_drawn (x1 x2 x3 x4 x5 : Int32) (M : Mem) (h : F_MO_noWay x1 (mSI M 94 0 0) = some true) : F_MO_drawn x1 x2 x3 x4 x5 M = some (0, mSI (mSI M 94 0 0) 94 0 1) := by
  unfold F_MO_drawn
  rw [h, bs, if_pos rfl]
  unfold F_MO_drawn_j27
  rw [S_throws_t, bs, if_pos rfl]
theorem N_field (x1 x2 : Int32) (M : Mem) (h : F_MO_noWay x1 (mSI M 94 0 0) = some true) : F_MO_field x1 x2 M = some (mSI (mSI M 94 0 0) 94 0 1) := by
  unfold F_MO_field
  rw [h, bs, S_throws_t, bs, if_pos rfl]
theorem N_meet (x1 x2 : Int32) (M : Mem) (h : F_MO_noWay x1 (mSI M 94 0 0) = some true) : F_MO_meet x1 x2 M = some (0, mSI (mSI M 94 0 0) 94 0 1) := by
  unfold F_MO_meet
  rw [h, bs, if_pos rfl]
  unfold F_MO_meet_j27
  rw [S_throws_t, bs, if_pos rfl]
theorem N_beings (x1 : Int32) (M : Mem) (h : F_MO_noWay x1 (mSI M 94 0 0) = some true) : F_MO_beings x1 M = some (0, mSI (mSI M 94 0 0) 94 0 1) := by
  unfold F_MO_beings
  rw [h, bs, S_throws_t, bs, if_pos rfl]
theorem N_stays (x1 : Int32) (M : Mem) (h : F_MO_noWay x1 (mSI M 94 0 0) = some true) : F_MO_stays x1 M = some (false, mSI (mSI M 94 0 0) 94 0 1) := by
  unfold F_MO_stays
  rw [h, bs, S_throws_t, bs, if_pos rfl]
theorem N_all (x1 x2 : Int32) (M : Mem) (h : F_MO_noWay x1 (mSI M 94 0 0) = some true) : F_MO_all x1 x2 M = some (0, mSI (mSI M 94 0 0) 94 0 1) := by
  unfold F_MO_all
  rw [h, bs, S_throws_t, bs, if_pos rfl]
theorem N_begin (x1 x2 : Int32) (M : Mem) (h : F_MO_noWay x1 (mSI M 94 0 0) = some true) : F_MO_begin x1 x2 M = some (0, mSI (mSI M 94 0 0) 94 0 1) := by
  unfold F_MO_begin
  rw [h, bs, if_pos rfl]
  unfold F_MO_begin_j27
  rw [S_throws_t, bs, if_pos rfl]
theorem L_best (x1 x2 x3 : Int32) (M : Mem) (h : F_KW_needPerson x1 M = some (.inl "java/lang/IndexOutOfBoundsException", M) ∨ (F_KW_needPerson x1 M = some (.inr (), M) ∧ F_KW_needWay x2 M = some (.inl "java/lang/IndexOutOfBoundsException", M))) : F_LAW_best x1 x2 x3 M = some (1, M) := by
  unfold F_LAW_best F_KW_best F_KW_needAnswer
  rcases h with h | ⟨h, h2⟩
  · rw [h, xb_inl, xb_inl, hb_inl, if_pos rfl]
  · rw [h, xb_inr, h2, xb_inl, xb_inl, hb_inl, if_pos rfl]
theorem N_best (x1 x2 x3 : Int32) (M : Mem) (h : F_MO_noPerson x1 (mSI M 94 0 0) = some true ∨ (F_MO_noPerson x1 (mSI M 94 0 0) = some false ∧ F_MO_noWay x2 (mSI M 94 0 0) = some true)) : F_MO_best x1 x2 x3 M = some (0, mSI (mSI M 94 0 0) 94 0 1) := by
  unfold F_MO_best
  rcases h with h | ⟨h, h2⟩
  · rw [h, bs, if_pos rfl]
    unfold F_MO_best_j27
    rw [S_throws_t, bs, if_pos rfl]
  · rw [h, bs, if_neg (by decide), N_noMood _ _ _ h2, bs, if_pos rfl]
    unfold F_MO_best_j27
    rw [S_throws_t, bs, if_pos rfl]
theorem L_answer (x1 x2 x3 x4 : Int32) (M : Mem) (h : F_KW_needPerson x1 M = some (.inl "java/lang/IndexOutOfBoundsException", M) ∨ (F_KW_needPerson x1 M = some (.inr (), M) ∧ F_KW_needWay x2 M = some (.inl "java/lang/IndexOutOfBoundsException", M))) : F_LAW_answer x1 x2 x3 x4 M = some (1, M) := by
  unfold F_LAW_answer F_KW_answer F_KW_needAnswer
  rcases h with h | ⟨h, h2⟩
  · rw [h, xb_inl, xb_inl, hb_inl, if_pos rfl]
  · rw [h, xb_inr, h2, xb_inl, xb_inl, hb_inl, if_pos rfl]
theorem N_answer (x1 x2 x3 x4 : Int32) (M : Mem) (h : F_MO_noPerson x1 (mSI M 94 0 0) = some true ∨ (F_MO_noPerson x1 (mSI M 94 0 0) = some false ∧ F_MO_noWay x2 (mSI M 94 0 0) = some true)) : F_MO_answer x1 x2 x3 x4 M = some (0, mSI (mSI M 94 0 0) 94 0 1) := by
  unfold F_MO_answer
  rcases h with h | ⟨h, h2⟩
  · rw [h, bs, if_pos rfl]
    unfold F_MO_answer_j27
    rw [S_throws_t, bs, if_pos rfl]
  · rw [h, bs, if_neg (by decide), N_noMood _ _ _ h2, bs, if_pos rfl]
    unfold F_MO_answer_j27
    rw [S_throws_t, bs, if_pos rfl]
theorem A_way (a : Int32) : F_KW_needWay a M_start = some (.inl "java/lang/IndexOutOfBoundsException", M_start) := S_way_no (fun q => by have h := q.2; rw [ms_ways] at h; exact n32.mpr q.1 h)
theorem A_noWay (a : Int32) : F_MO_noWay a (mSI M_start 94 0 0) = some true := by
  have e : (mSI M_start 94 0 0).1 95 5 = 0 := by rw [mI_cell (by decide), ms_rw]
  rw [S_noWay (by rw [e]; decide), e, decide_eq_false (fun q => n32.mpr q.1 q.2)]
  rfl
theorem A_person (a b : Int32) : F_KW_needPerson a M_start = some (.inl "java/lang/IndexOutOfBoundsException", M_start) ∨ (F_KW_needPerson a M_start = some (.inr (), M_start) ∧ F_KW_needWay b M_start = some (.inl "java/lang/IndexOutOfBoundsException", M_start)) := by
  by_cases h : 0 ≤ a ∧ a ≤ 1
  · exact Or.inr ⟨S_person_ok h, A_way b⟩
  · exact Or.inl (S_person_no h)
theorem A_noPerson (a b : Int32) : F_MO_noPerson a (mSI M_start 94 0 0) = some true ∨ (F_MO_noPerson a (mSI M_start 94 0 0) = some false ∧ F_MO_noWay b (mSI M_start 94 0 0) = some true) := by
  rw [S_noPerson]
  by_cases h : 0 ≤ a ∧ a ≤ 1
  · rw [decide_eq_true h]; exact Or.inr ⟨rfl, A_noWay b⟩
  · rw [decide_eq_false h]; exact Or.inl rfl
set_option maxRecDepth 100000 in
set_option maxHeartbeats 2000000 in
theorem c7 (xs : Nat → Int32) : ∃ M, F_LAWc_7 xs 7 (nI (7 * 0)) M_start = some M := by
  simp only [F_LAWc_7, if_pos pi1, if_pos pi2, if_pos pi3, if_pos pi4, if_pos pi5, if_pos pi6, pt1, pt2, pt3, pt4, pt5, pt6]
  simp only [L_mood _ _ _ _ (A_way _), N_mood _ _ _ _ (A_noWay _), bs, S_thrown]
  exact ⟨_, rfl⟩

set_option maxRecDepth 100000 in
set_option maxHeartbeats 2000000 in
theorem c8 (xs : Nat → Int32) : ∃ M, F_LAWc_8 xs 7 (nI (7 * 0)) M_start = some M := by
  simp only [F_LAWc_8, F_LAWc_8_j709, F_LAWc_8_j657, if_pos pi1, if_pos pi2, if_pos pi3, if_pos pi4, if_pos pi5, if_pos pi6, pt1, pt2, pt3, pt4, pt5, pt6]
  by_cases hb6 : xs 6 = 0
  · simp only [if_pos hb6, L_worth _ _ _ _ _ _ _ (A_way _), N_worth _ _ _ _ _ _ _ (A_noWay _), bs, S_thrown]
    exact ⟨_, rfl⟩
  · simp only [if_neg hb6, L_worth _ _ _ _ _ _ _ (A_way _), N_worth _ _ _ _ _ _ _ (A_noWay _), bs, S_thrown]
    exact ⟨_, rfl⟩

set_option maxRecDepth 100000 in
set_option maxHeartbeats 2000000 in
theorem c9 (xs : Nat → Int32) : ∃ M, F_LAWc_9 xs 7 (nI (7 * 0)) M_start = some M := by
  simp only [F_LAWc_9, F_LAWc_9_j810, if_pos pi1, if_pos pi2, if_pos pi3, if_pos pi4, if_pos pi5, if_pos pi6, pt1, pt2, pt3, pt4, pt5, pt6]
  simp only [L_hold _ _ _ (A_way _), N_hold _ _ _ (A_noWay _), bs, S_thrown]
  exact ⟨_, rfl⟩

set_option maxRecDepth 100000 in
set_option maxHeartbeats 2000000 in
theorem c10 (xs : Nat → Int32) : ∃ M, F_LAWc_10 xs 7 (nI (7 * 0)) M_start = some M := by
  simp only [F_LAWc_10, if_pos pi1, if_pos pi2, if_pos pi3, if_pos pi4, if_pos pi5, if_pos pi6, pt1, pt2, pt3, pt4, pt5, pt6]
  simp only [L_first _ _ _ (A_way _), N_first _ _ _ (A_noWay _), bs, S_thrown]
  exact ⟨_, rfl⟩

set_option maxRecDepth 100000 in
set_option maxHeartbeats 2000000 in
theorem c19 (xs : Nat → Int32) : ∃ M, F_LAWc_19 xs 7 (nI (7 * 0)) M_start = some M := by
  simp only [F_LAWc_19, if_pos pi1, if_pos pi2, if_pos pi3, if_pos pi4, if_pos pi5, if_pos pi6, pt1, pt2, pt3, pt4, pt5, pt6]
  simp only [L_edge _ _ _ _ (A_way _), N_edge _ _ _ _ (A_noWay _), bs, S_thrown]
  exact ⟨_, rfl⟩

set_option maxRecDepth 100000 in
set_option maxHeartbeats 2000000 in
theorem c22 (xs : Nat → Int32) : ∃ M, F_LAWc_22 xs 7 (nI (7 * 0)) M_start = some M := by
  simp only [F_LAWc_22, F_LAWc_22_j1755, F_LAWc_22_j1741, F_LAWc_22_j1702, F_LAWc_22_j1688, if_pos pi1, if_pos pi2, if_pos pi3, if_pos pi4, if_pos pi5, if_pos pi6, pt1, pt2, pt3, pt4, pt5, pt6]
  by_cases hb4 : xs 4 = 0
  · by_cases hb5 : xs 5 = 0
    · simp only [if_pos hb4, if_pos hb5, L_doubt _ _ _ _ _ _ (A_way _), N_doubt _ _ _ _ _ _ (A_noWay _), bs, S_thrown]
      exact ⟨_, rfl⟩
    · simp only [if_pos hb4, if_neg hb5, L_doubt _ _ _ _ _ _ (A_way _), N_doubt _ _ _ _ _ _ (A_noWay _), bs, S_thrown]
      exact ⟨_, rfl⟩
  · by_cases hb5 : xs 5 = 0
    · simp only [if_neg hb4, if_pos hb5, L_doubt _ _ _ _ _ _ (A_way _), N_doubt _ _ _ _ _ _ (A_noWay _), bs, S_thrown]
      exact ⟨_, rfl⟩
    · simp only [if_neg hb4, if_neg hb5, L_doubt _ _ _ _ _ _ (A_way _), N_doubt _ _ _ _ _ _ (A_noWay _), bs, S_thrown]
      exact ⟨_, rfl⟩

set_option maxRecDepth 100000 in
set_option maxHeartbeats 2000000 in
theorem c24 (xs : Nat → Int32) : ∃ M, F_LAWc_24 xs 7 (nI (7 * 0)) M_start = some M := by
  simp only [F_LAWc_24, if_pos pi1, if_pos pi2, if_pos pi3, if_pos pi4, if_pos pi5, if_pos pi6, pt1, pt2, pt3, pt4, pt5, pt6]
  simp only [L_judge _ _ _ (A_way _), N_judge _ _ _ (A_noWay _), bs, S_thrown]
  exact ⟨_, rfl⟩

set_option maxRecDepth 100000 in
set_option maxHeartbeats 2000000 in
theorem c26 (xs : Nat → Int32) : ∃ M, F_LAWc_26 xs 7 (nI (7 * 0)) M_start = some M := by
  simp only [F_LAWc_26, if_pos pi1, if_pos pi2, if_pos pi3, if_pos pi4, if_pos pi5, if_pos pi6, pt1, pt2, pt3, pt4, pt5, pt6]
  simp only [L_drawn _ _ _ _ _ _ (A_way _), N_drawn _ _ _ _ _ _ (A_noWay _), bs, S_thrown]
  exact ⟨_, rfl⟩

set_option maxRecDepth 100000 in
set_option maxHeartbeats 2000000 in
theorem c27 (xs : Nat → Int32) : ∃ M, F_LAWc_27 xs 7 (nI (7 * 0)) M_start = some M := by
  simp only [F_LAWc_27, if_pos pi1, if_pos pi2, if_pos pi3, if_pos pi4, if_pos pi5, if_pos pi6, pt1, pt2, pt3, pt4, pt5, pt6]
  simp only [L_field _ _ _ (A_way _), N_field _ _ _ (A_noWay _), bs, S_thrown]
  exact ⟨_, rfl⟩

set_option maxRecDepth 100000 in
set_option maxHeartbeats 2000000 in
theorem c29 (xs : Nat → Int32) : ∃ M, F_LAWc_29 xs 7 (nI (7 * 0)) M_start = some M := by
  simp only [F_LAWc_29, if_pos pi1, if_pos pi2, if_pos pi3, if_pos pi4, if_pos pi5, if_pos pi6, pt1, pt2, pt3, pt4, pt5, pt6]
  simp only [L_meet _ _ _ (A_way _), N_meet _ _ _ (A_noWay _), bs, S_thrown]
  exact ⟨_, rfl⟩

set_option maxRecDepth 100000 in
set_option maxHeartbeats 2000000 in
theorem c31 (xs : Nat → Int32) : ∃ M, F_LAWc_31 xs 7 (nI (7 * 0)) M_start = some M := by
  simp only [F_LAWc_31, if_pos pi1, if_pos pi2, if_pos pi3, if_pos pi4, if_pos pi5, if_pos pi6, pt1, pt2, pt3, pt4, pt5, pt6]
  simp only [L_beings _ _ (A_way _), N_beings _ _ (A_noWay _), bs, S_thrown]
  exact ⟨_, rfl⟩

set_option maxRecDepth 100000 in
set_option maxHeartbeats 2000000 in
theorem c32 (xs : Nat → Int32) : ∃ M, F_LAWc_32 xs 7 (nI (7 * 0)) M_start = some M := by
  simp only [F_LAWc_32, F_LAWc_32_j2380, if_pos pi1, if_pos pi2, if_pos pi3, if_pos pi4, if_pos pi5, if_pos pi6, pt1, pt2, pt3, pt4, pt5, pt6]
  simp only [L_stays _ _ (A_way _), N_stays _ _ (A_noWay _), bs, S_thrown]
  exact ⟨_, rfl⟩

set_option maxRecDepth 100000 in
set_option maxHeartbeats 2000000 in
theorem c33 (xs : Nat → Int32) : ∃ M, F_LAWc_33 xs 7 (nI (7 * 0)) M_start = some M := by
  simp only [F_LAWc_33, if_pos pi1, if_pos pi2, if_pos pi3, if_pos pi4, if_pos pi5, if_pos pi6, pt1, pt2, pt3, pt4, pt5, pt6]
  simp only [L_all _ _ _ (A_way _), N_all _ _ _ (A_noWay _), bs, S_thrown]
  exact ⟨_, rfl⟩

set_option maxRecDepth 100000 in
set_option maxHeartbeats 2000000 in
theorem c34 (xs : Nat → Int32) : ∃ M, F_LAWc_34 xs 7 (nI (7 * 0)) M_start = some M := by
  simp only [F_LAWc_34, if_pos pi1, if_pos pi2, if_pos pi3, if_pos pi4, if_pos pi5, if_pos pi6, pt1, pt2, pt3, pt4, pt5, pt6]
  simp only [L_begin _ _ _ (A_way _), N_begin _ _ _ (A_noWay _), bs, S_thrown]
  exact ⟨_, rfl⟩

set_option maxRecDepth 100000 in
set_option maxHeartbeats 2000000 in
theorem c11 (xs : Nat → Int32) : ∃ M, F_LAWc_11 xs 7 (nI (7 * 0)) M_start = some M := by
  simp only [F_LAWc_11, if_pos pi1, if_pos pi2, if_pos pi3, if_pos pi4, if_pos pi5, if_pos pi6, pt1, pt2, pt3, pt4, pt5, pt6]
  simp only [L_best _ _ _ _ (A_person _ _), N_best _ _ _ _ (A_noPerson _ _), bs, S_thrown]
  exact ⟨_, rfl⟩

set_option maxRecDepth 100000 in
set_option maxHeartbeats 2000000 in
theorem c12 (xs : Nat → Int32) : ∃ M, F_LAWc_12 xs 7 (nI (7 * 0)) M_start = some M := by
  simp only [F_LAWc_12, F_LAWc_12_j1039, F_LAWc_12_j1000, if_pos pi1, if_pos pi2, if_pos pi3, if_pos pi4, if_pos pi5, if_pos pi6, pt1, pt2, pt3, pt4, pt5, pt6]
  by_cases hb4 : xs 4 = 0
  · simp only [if_pos hb4, L_answer _ _ _ _ _ (A_person _ _), N_answer _ _ _ _ _ (A_noPerson _ _), bs, S_thrown]
    exact ⟨_, rfl⟩
  · simp only [if_neg hb4, L_answer _ _ _ _ _ (A_person _ _), N_answer _ _ _ _ _ (A_noPerson _ _), bs, S_thrown]
    exact ⟨_, rfl⟩

set_option maxRecDepth 100000 in
set_option maxHeartbeats 2000000 in
theorem c5 (xs : Nat → Int32) : ∃ M, F_LAWc_5 xs 7 (nI (7 * 0)) M_start = some M := by
  simp only [F_LAWc_5]
  exact ex_isSome (by decide +kernel)
set_option maxRecDepth 100000 in
set_option maxHeartbeats 2000000 in
theorem c6 (xs : Nat → Int32) : ∃ M, F_LAWc_6 xs 7 (nI (7 * 0)) M_start = some M := by
  simp only [F_LAWc_6]
  exact ex_isSome (by decide +kernel)
set_option maxRecDepth 100000 in
set_option maxHeartbeats 2000000 in
theorem c15 (xs : Nat → Int32) : ∃ M, F_LAWc_15 xs 7 (nI (7 * 0)) M_start = some M := by
  simp only [F_LAWc_15]
  exact ex_isSome (by decide +kernel)
set_option maxRecDepth 100000 in
set_option maxHeartbeats 2000000 in
theorem c20 (xs : Nat → Int32) : ∃ M, F_LAWc_20 xs 7 (nI (7 * 0)) M_start = some M := by
  simp only [F_LAWc_20]
  exact ex_isSome (by decide +kernel)
set_option maxRecDepth 100000 in
set_option maxHeartbeats 2000000 in
theorem c23 (xs : Nat → Int32) : ∃ M, F_LAWc_23 xs 7 (nI (7 * 0)) M_start = some M := by
  simp only [F_LAWc_23]
  exact ex_isSome (by decide +kernel)
set_option maxRecDepth 100000 in
set_option maxHeartbeats 2000000 in
theorem c38 (xs : Nat → Int32) : ∃ M, F_LAWc_38 xs 7 (nI (7 * 0)) M_start = some M := by
  simp only [F_LAWc_38]
  exact ex_isSome (by decide +kernel)
set_option maxRecDepth 100000 in
set_option maxHeartbeats 2000000 in
theorem c39 (xs : Nat → Int32) : ∃ M, F_LAWc_39 xs 7 (nI (7 * 0)) M_start = some M := by
  simp only [F_LAWc_39]
  exact ex_isSome (by decide +kernel)
set_option maxRecDepth 100000 in
set_option maxHeartbeats 2000000 in
theorem c13 (xs : Nat → Int32) : ∃ M, F_LAWc_13 xs 7 (nI (7 * 0)) M_start = some M := by
  simp only [F_LAWc_13, F_LAWc_13_j1122, F_LAWc_13_j1095, if_pos pi1, if_pos pi2, if_pos pi3, if_pos pi4, if_pos pi5, if_pos pi6, pt1, pt2, pt3, pt4, pt5, pt6]
  rcases rng1 (xs 1) with h | h | h
  · rw [h]
    by_cases hb : xs 2 = 0
    · simp only [if_pos hb]
      exact ex_isSome (by decide +kernel)
    · simp only [if_neg hb]
      exact ex_isSome (by decide +kernel)
  · rw [h]
    by_cases hb : xs 2 = 0
    · simp only [if_pos hb]
      exact ex_isSome (by decide +kernel)
    · simp only [if_neg hb]
      exact ex_isSome (by decide +kernel)
  · have hL : ∀ b : Int32, F_LAW_least (xs 1) b M_start = some (1, M_start) := by
      intro b
      unfold F_LAW_least F_KW_least
      rw [S_person_no h, xb_inl, hb_inl, if_pos rfl]
    have hN : ∀ b : Int32, F_MO_least (xs 1) b M_start = some (0, mSI (mSI M_start 94 0 0) 94 0 1) := by
      intro b
      unfold F_MO_least
      rw [S_noPerson, decide_eq_false h, bs, show (!false) = true from rfl, S_throws_t, bs, if_pos rfl]
    by_cases hb : xs 2 = 0
    · simp only [if_pos hb, hL, hN, bs, S_thrown]
      exact ⟨_, rfl⟩
    · simp only [if_neg hb, hL, hN, bs, S_thrown]
      exact ⟨_, rfl⟩
set_option maxRecDepth 100000 in
set_option maxHeartbeats 2000000 in
theorem c14 (xs : Nat → Int32) : ∃ M, F_LAWc_14 xs 7 (nI (7 * 0)) M_start = some M := by
  simp only [F_LAWc_14, F_LAWc_14_j1206, F_LAWc_14_j1179, if_pos pi1, if_pos pi2, if_pos pi3, if_pos pi4, if_pos pi5, if_pos pi6, pt1, pt2, pt3, pt4, pt5, pt6]
  rcases rng1 (xs 1) with h | h | h
  · rw [h]
    by_cases hb : xs 2 = 0
    · simp only [if_pos hb]
      exact ex_isSome (by decide +kernel)
    · simp only [if_neg hb]
      exact ex_isSome (by decide +kernel)
  · rw [h]
    by_cases hb : xs 2 = 0
    · simp only [if_pos hb]
      exact ex_isSome (by decide +kernel)
    · simp only [if_neg hb]
      exact ex_isSome (by decide +kernel)
  · have hL : ∀ b : Int32, F_LAW_lots (xs 1) b M_start = some (1, M_start) := by
      intro b
      unfold F_LAW_lots F_KW_lots
      rw [S_person_no h, xb_inl, hb_inl, if_pos rfl]
    have hN : ∀ b : Int32, F_MO_lots (xs 1) b M_start = some (0, mSI (mSI M_start 94 0 0) 94 0 1) := by
      intro b
      unfold F_MO_lots
      rw [S_noPerson, decide_eq_false h, bs, show (!false) = true from rfl, S_throws_t, bs, if_pos rfl]
    by_cases hb : xs 2 = 0
    · simp only [if_pos hb, hL, hN, bs, S_thrown]
      exact ⟨_, rfl⟩
    · simp only [if_neg hb, hL, hN, bs, S_thrown]
      exact ⟨_, rfl⟩
set_option maxRecDepth 100000 in
set_option maxHeartbeats 2000000 in
theorem c25 (xs : Nat → Int32) : ∃ M, F_LAWc_25 xs 7 (nI (7 * 0)) M_start = some M := by
  simp only [F_LAWc_25, if_pos pi1, if_pos pi2, if_pos pi3, if_pos pi4, if_pos pi5, if_pos pi6, pt1, pt2, pt3, pt4, pt5, pt6]
  rcases rng1 (xs 1) with h | h | h
  · rw [h]
    exact ex_isSome (by decide +kernel)
  · rw [h]
    exact ex_isSome (by decide +kernel)
  · have hL : F_LAW_brought (xs 1) M_start = some (1, M_start) := by
      unfold F_LAW_brought F_KW_brought
      rw [S_person_no h, xb_inl, hb_inl, if_pos rfl]
    have hN : F_MO_brought (xs 1) M_start = some (0, mSI (mSI M_start 94 0 0) 94 0 1) := by
      unfold F_MO_brought
      rw [S_noPerson, decide_eq_false h, bs, show (!false) = true from rfl, S_throws_t, bs, if_pos rfl]
    simp only [hL, hN, bs, S_thrown]
    exact ⟨_, rfl⟩
set_option maxRecDepth 100000 in
set_option maxHeartbeats 2000000 in
theorem c37 (xs : Nat → Int32) : ∃ M, F_LAWc_37 xs 7 (nI (7 * 0)) M_start = some M := by
  simp only [F_LAWc_37, if_pos pi1, if_pos pi2, if_pos pi3, if_pos pi4, if_pos pi5, if_pos pi6, pt1, pt2, pt3, pt4, pt5, pt6]
  rcases rng2 (xs 1) with h | h | h | h
  · rw [h]
    exact ex_isSome (by decide +kernel)
  · rw [h]
    exact ex_isSome (by decide +kernel)
  · rw [h]
    exact ex_isSome (by decide +kernel)
  · have hL : F_LAW_village (xs 1) M_start = some (1, M_start) := by
      unfold F_LAW_village F_KW_village
      rw [S_what_no h, xb_inl, hb_inl, if_pos rfl]
    have hN : F_MO_village (xs 1) M_start = some (0, mSI (mSI M_start 94 0 0) 94 0 1) := by
      unfold F_MO_village
      rw [S_within, decide_eq_false h, bs, if_neg (by decide)]
      unfold F_MO_village_j20
      rw [S_throws_t, bs, if_pos rfl]
    simp only [hL, hN, bs, S_thrown]
    exact ⟨_, rfl⟩
set_option maxRecDepth 100000 in
set_option maxHeartbeats 2000000 in
theorem c40 (xs : Nat → Int32) : ∃ M, F_LAWc_40 xs 7 (nI (7 * 0)) M_start = some M := by
  simp only [F_LAWc_40, if_pos pi1, if_pos pi2, if_pos pi3, if_pos pi4, if_pos pi5, if_pos pi6, pt1, pt2, pt3, pt4, pt5, pt6]
  by_cases h0 : xs 1 = 0
  · rw [h0]
    exact ex_isSome (by decide +kernel)
  by_cases h1 : xs 1 = 1
  · rw [h1]
    exact ex_isSome (by decide +kernel)
  by_cases h2 : xs 1 = 2
  · rw [h2]
    exact ex_isSome (by decide +kernel)
  by_cases h3 : xs 1 = 3
  · rw [h3]
    exact ex_isSome (by decide +kernel)
  by_cases h4 : xs 1 = 4
  · rw [h4]
    exact ex_isSome (by decide +kernel)
  by_cases h5 : xs 1 = 5
  · rw [h5]
    exact ex_isSome (by decide +kernel)
  by_cases h6 : xs 1 = 6
  · rw [h6]
    exact ex_isSome (by decide +kernel)
  by_cases h7 : xs 1 = 7
  · rw [h7]
    exact ex_isSome (by decide +kernel)
  by_cases h8 : xs 1 = 8
  · rw [h8]
    exact ex_isSome (by decide +kernel)
  by_cases h9 : xs 1 = 9
  · rw [h9]
    exact ex_isSome (by decide +kernel)
  by_cases h10 : xs 1 = 10
  · rw [h10]
    exact ex_isSome (by decide +kernel)
  by_cases h11 : xs 1 = 11
  · rw [h11]
    exact ex_isSome (by decide +kernel)
  simp only [F_KW_count, F_MO_count, if_neg h0, if_neg h1, if_neg h2, if_neg h3, if_neg h4, if_neg h5, if_neg h6, if_neg h7, if_neg h8, if_neg h9, if_neg h10, if_neg h11, bs]
  exact ⟨_, rfl⟩
noncomputable def MD1 : Mem := (F_Day_findCorners M_start).getD M_zero
noncomputable def MD2 : Mem := (F_MO_body (mSI MD1 94 0 0)).getD M_zero
set_option maxRecDepth 100000 in
theorem hD1 : F_Day_findCorners M_start = some MD1 := some_getD (by decide +kernel)
set_option maxRecDepth 100000 in
theorem hD1c : MD1.1 68 5 = 1 := by decide +kernel
set_option maxRecDepth 100000 in
theorem hD2 : F_MO_body (mSI MD1 94 0 0) = some MD2 := some_getD (by decide +kernel)
set_option maxRecDepth 100000 in
theorem hD2c : MD2.1 94 36 = 1 := by decide +kernel
set_option maxRecDepth 100000 in
set_option maxHeartbeats 2000000 in
theorem c16 (xs : Nat → Int32) : ∃ M, F_LAWc_16 xs 7 (nI (7 * 0)) M_start = some M := by
  simp only [F_LAWc_16, F_LAWc_16_j1299, F_LAWc_16_j1275, if_pos pi1, if_pos pi2, if_pos pi3, if_pos pi4, if_pos pi5, if_pos pi6, pt1, pt2, pt3, pt4, pt5, pt6]
  by_cases h : xs 1 = 0
  · rw [h]
    by_cases hb : xs 2 = 0
    · simp only [if_pos hb]
      exact ex_isSome (by decide +kernel)
    · simp only [if_neg hb]
      exact ex_isSome (by decide +kernel)
  · have hr : ¬ (0 ≤ xs 1 ∧ xs 1 < 1) := by
      rw [← Int32.toInt_inj, li0] at h
      rw [le_i, lt_i, li0, li1]
      omega
    have hL : ∀ b : Int32, F_KW_corner (xs 1) b M_start = some (1000, MD1) := by
      intro b
      unfold F_KW_corner
      rw [hD1, bs]
      by_cases h1 : xs 1 < 0
      · rw [if_pos h1]
      · rw [if_neg h1, hD1c, if_neg (fun q => hr ⟨n32.mp h1, q⟩)]
    have hN : ∀ b : Int32, F_MO_corner (xs 1) b MD1 = some (1000, MD2) := by
      intro b
      unfold F_MO_corner
      rw [hD2, bs, S_within, hD2c, decide_eq_false (fun q => hr ⟨q.1, (le_pred (by decide)).mp q.2⟩), bs, if_neg (by decide)]
    by_cases hb : xs 2 = 0
    · simp only [if_pos hb, hL, hN, bs]
      exact ⟨_, rfl⟩
    · simp only [if_neg hb, hL, hN, bs]
      exact ⟨_, rfl⟩
set_option maxRecDepth 100000 in
set_option maxHeartbeats 2000000 in
theorem c18 (xs : Nat → Int32) : ∃ M, F_LAWc_18 xs 7 (nI (7 * 0)) M_start = some M := by
  simp only [F_LAWc_18, if_pos pi1, if_pos pi2, if_pos pi3, if_pos pi4, if_pos pi5, if_pos pi6, pt1, pt2, pt3, pt4, pt5, pt6]
  have eA : (mSI M_start 94 0 0).1 95 0 = 2 := by rw [mI_cell (by decide), ms_ra]
  have hN : ∀ x : Int32, F_MO_noAct x (mSI M_start 94 0 0) = some (!decide (0 ≤ x ∧ x < 2)) := by
    intro x
    rw [S_noAct (by rw [eA]; decide), eA]
  have hy : ∀ {x : Int32}, (0 ≤ x ∧ x < 2) → F_KW_needAct x M_start = some (.inr (), M_start) := fun h => S_act_ok (by rw [ms_acts]; exact h)
  have hn : ∀ {x : Int32}, ¬ (0 ≤ x ∧ x < 2) → F_KW_needAct x M_start = some (.inl "java/lang/IndexOutOfBoundsException", M_start) := fun h => S_act_no (by rw [ms_acts]; exact h)
  have bad : (F_LAW_mild (xs 1) (xs 2) (xs 3) (xs 4) M_start = some (1, M_start) ∧ F_MO_mild (xs 1) (xs 2) (xs 3) (xs 4) M_start = some (0, mSI (mSI M_start 94 0 0) 94 0 1)) ∨ ((xs 1 = 0 ∨ xs 1 = 1) ∧ (xs 2 = 0 ∨ xs 2 = 1) ∧ (xs 3 = 0 ∨ xs 3 = 1) ∧ (xs 4 = 0 ∨ xs 4 = 1)) := by
    unfold F_LAW_mild F_KW_mild F_MO_mild
    by_cases h1 : 0 ≤ xs 1 ∧ xs 1 < 2
    · by_cases h2 : 0 ≤ xs 2 ∧ xs 2 < 2
      · by_cases h3 : 0 ≤ xs 3 ∧ xs 3 < 2
        · by_cases h4 : 0 ≤ xs 4 ∧ xs 4 < 2
          · right
            have z : ∀ x : Int32, (0 ≤ x ∧ x < 2) → x = 0 ∨ x = 1 := fun x h => (rngA x).elim Or.inl (fun q => q.elim Or.inr (fun q => absurd h q))
            exact ⟨z _ h1, z _ h2, z _ h3, z _ h4⟩
          · left
            refine ⟨by rw [hy h1, xb_inr, hy h2, xb_inr, hy h3, xb_inr, hn h4, xb_inl, hb_inl, if_pos rfl], ?_⟩
            rw [hN, bs, decide_eq_true h1, if_neg (by decide), hN, bs, decide_eq_true h2, if_neg (by decide), hN, bs, decide_eq_true h3, if_neg (by decide), hN, bs, decide_eq_false h4, if_pos (show (!false) = true from rfl)]
            unfold F_MO_mild_j44
            rw [S_throws_t, bs, if_pos rfl]
        · left
          refine ⟨by rw [hy h1, xb_inr, hy h2, xb_inr, hn h3, xb_inl, hb_inl, if_pos rfl], ?_⟩
          rw [hN, bs, decide_eq_true h1, if_neg (by decide), hN, bs, decide_eq_true h2, if_neg (by decide), hN, bs, decide_eq_false h3, if_pos (show (!false) = true from rfl)]
          unfold F_MO_mild_j44
          rw [S_throws_t, bs, if_pos rfl]
      · left
        refine ⟨by rw [hy h1, xb_inr, hn h2, xb_inl, hb_inl, if_pos rfl], ?_⟩
        rw [hN, bs, decide_eq_true h1, if_neg (by decide), hN, bs, decide_eq_false h2, if_pos (show (!false) = true from rfl)]
        unfold F_MO_mild_j44
        rw [S_throws_t, bs, if_pos rfl]
    · left
      refine ⟨by rw [hn h1, xb_inl, hb_inl, if_pos rfl], ?_⟩
      rw [hN, bs, decide_eq_false h1, if_pos (show (!false) = true from rfl)]
      unfold F_MO_mild_j44
      rw [S_throws_t, bs, if_pos rfl]
  rcases bad with ⟨hL, hM⟩ | ⟨h1, h2, h3, h4⟩
  · simp only [hL, hM, bs, S_thrown]
    exact ⟨_, rfl⟩
  · rcases h1 with h1 | h1 <;> rcases h2 with h2 | h2 <;> rcases h3 with h3 | h3 <;> rcases h4 with h4 | h4 <;> (rw [h1, h2, h3, h4]; exact ex_isSome (by decide +kernel))
set_option maxRecDepth 100000 in
set_option maxHeartbeats 2000000 in
theorem c2 (xs : Nat → Int32) : ∃ M, F_LAWc_2 xs 7 (nI (7 * 0)) M_start = some M := by
  simp only [F_LAWc_2, if_pos pi1, if_pos pi2, if_pos pi3, if_pos pi4, if_pos pi5, if_pos pi6, pt1, pt2, pt3, pt4, pt5, pt6]
  rcases P_acts (xs 1) M_start with ⟨hL, -, hM⟩ | ⟨hL, hM⟩
  · simp only [hL, hM, bs, F_MO_thrown, mI_cell (show (94 : Nat) ≠ 95 by decide), mI_hit]
    exact ⟨_, rfl⟩
  · simp only [hL, hM, bs, S_thrown]
    exact ⟨_, rfl⟩
set_option maxRecDepth 100000 in
set_option maxHeartbeats 2000000 in
theorem c4 (xs : Nat → Int32) : ∃ M, F_LAWc_4 xs 7 (nI (7 * 0)) M_start = some M := by
  simp only [F_LAWc_4, if_pos pi1, if_pos pi2, if_pos pi3, if_pos pi4, if_pos pi5, if_pos pi6, pt1, pt2, pt3, pt4, pt5, pt6]
  rcases P_tomorrow (xs 1) (xs 2) M_start with ⟨hL, -, hM⟩ | ⟨hL, hM⟩
  · simp only [hL, hM, bs, F_MO_thrown, mI_cell (show (94 : Nat) ≠ 95 by decide), mI_hit]
    exact ⟨_, rfl⟩
  · simp only [hL, hM, bs, S_thrown]
    exact ⟨_, rfl⟩
set_option maxRecDepth 100000 in
set_option maxHeartbeats 2000000 in
theorem c21 (xs : Nat → Int32) : ∃ M, F_LAWc_21 xs 7 (nI (7 * 0)) M_start = some M := by
  simp only [F_LAWc_21, if_pos pi1, if_pos pi2, if_pos pi3, if_pos pi4, if_pos pi5, if_pos pi6, pt1, pt2, pt3, pt4, pt5, pt6]
  rcases P_mistakes (xs 1) (xs 2) M_start with ⟨hL, -, hM⟩ | ⟨hL, hM⟩
  · simp only [hL, hM, bs, F_MO_thrown, mI_cell (show (94 : Nat) ≠ 95 by decide), mI_hit]
    exact ⟨_, rfl⟩
  · simp only [hL, hM, bs, S_thrown]
    exact ⟨_, rfl⟩
set_option maxRecDepth 100000 in
set_option maxHeartbeats 2000000 in
theorem c28 (xs : Nat → Int32) : ∃ M, F_LAWc_28 xs 7 (nI (7 * 0)) M_start = some M := by
  simp only [F_LAWc_28, if_pos pi1, if_pos pi2, if_pos pi3, if_pos pi4, if_pos pi5, if_pos pi6, pt1, pt2, pt3, pt4, pt5, pt6]
  rcases P_rounds (xs 1) M_start with ⟨hL, -, hM⟩ | ⟨hL, hM⟩
  · simp only [hL, hM, bs, F_MO_thrown, mI_cell (show (94 : Nat) ≠ 95 by decide), mI_hit]
    exact ⟨_, rfl⟩
  · simp only [hL, hM, bs, S_thrown]
    exact ⟨_, rfl⟩
set_option maxRecDepth 100000 in
set_option maxHeartbeats 2000000 in
theorem c3 (xs : Nat → Int32) : ∃ M, F_LAWc_3 xs 7 (nI (7 * 0)) M_start = some M := by
  simp only [F_LAWc_3, if_pos pi1, if_pos pi2, if_pos pi3, if_pos pi4, if_pos pi5, if_pos pi6, pt1, pt2, pt3, pt4, pt5, pt6]
  have hr : M_start.1 95 0 = M_start.1 1 0 := by rw [ms_ra, ms_acts]
  rcases P_bring (xs 1) (xs 2) (xs 3) (xs 4) M_start (by rw [ms_acts]; decide) with ⟨hL, -, hM⟩ | ⟨k, hL, hM⟩
  · simp only [hL, bs]
    rw [hM _ (by rw [mSL_1, mSL_1]; exact hr)]
    simp only [bs, F_MO_thrown, mI_cell (show (94 : Nat) ≠ 95 by decide), mI_hit]
    exact ⟨_, rfl⟩
  · simp only [hL, bs]
    rw [hM _ hr]
    simp only [bs, S_thrown]
    exact ⟨_, rfl⟩
set_option maxRecDepth 100000 in
set_option maxHeartbeats 2000000 in
theorem c1 (xs : Nat → Int32) : ∃ M, F_LAWc_1 xs 7 (nI (7 * 0)) M_start = some M := by
  simp only [F_LAWc_1, if_pos pi1, if_pos pi2, if_pos pi3, if_pos pi4, if_pos pi5, if_pos pi6, pt1, pt2, pt3, pt4, pt5, pt6]
  have hr : M_start.1 94 5 = M_start.1 27 1 := by rw [ms_rlen, ms_len]
  rcases P_end (xs 1) M_start with ⟨hL, -, hM⟩ | ⟨hL, hM⟩
  · simp only [hL, bs]
    rw [hM _ (by rw [mI_cell (by decide)]; exact hr)]
    exact ⟨_, rfl⟩
  · simp only [hL, bs]
    rw [hM _ hr]
    exact ⟨_, rfl⟩
set_option maxRecDepth 100000 in
set_option maxHeartbeats 2000000 in
theorem c36 (xs : Nat → Int32) : ∃ M, F_LAWc_36 xs 7 (nI (7 * 0)) M_start = some M := by
  simp only [F_LAWc_36, F_LAWc_36_j2641, F_LAWc_36_j2614, if_pos pi1, if_pos pi2, if_pos pi3, if_pos pi4, if_pos pi5, if_pos pi6, pt1, pt2, pt3, pt4, pt5, pt6]
  have hL : ∀ b : Int32, F_LAW_villageEdge (xs 1) b M_start = some (1, M_start) := by
    intro b
    unfold F_LAW_villageEdge F_KW_villageEdge
    rw [ms_vil]
    by_cases h : xs 1 < 0
    · rw [if_pos h, hb_inl, if_pos rfl]
    · rw [if_neg h, if_neg h, hb_inl, if_pos rfl]
  have hN : ∀ b : Int32, F_MO_villageEdge (xs 1) b M_start = some (0, mSI (mSI M_start 94 0 0) 94 0 1) := by
    intro b
    unfold F_MO_villageEdge
    rw [if_pos ib8, tn8, mI_cell (show (95 : Nat) ≠ 94 by decide), ms_rvil, S_within, decide_eq_false (fun q => n32.mpr q.1 ((le_pred (by decide)).mp q.2)), bs, if_neg (by decide)]
    unfold F_MO_villageEdge_j28
    rw [S_throws_t, bs, if_pos rfl]
  by_cases hb : xs 2 = 0
  · simp only [if_pos hb, hL, hN, bs, S_thrown]
    exact ⟨_, rfl⟩
  · simp only [if_neg hb, hL, hN, bs, S_thrown]
    exact ⟨_, rfl⟩
set_option maxRecDepth 100000 in
set_option maxHeartbeats 2000000 in
theorem c0 (xs : Nat → Int32) : ∃ M, F_LAWc_0 xs 7 (nI (7 * 0)) M_start = some M := by
  simp only [F_LAWc_0, if_pos pi1, if_pos pi2, if_pos pi3, if_pos pi4, if_pos pi5, if_pos pi6, pt1, pt2, pt3, pt4, pt5, pt6]
  have e0 : (M_start.1 27 1).toInt = 0 := by rw [ms_len]; rfl
  have e1 : (M_start.1 94 5).toInt = (0 : Nat) := by rw [ms_rlen]; rfl
  obtain ⟨hL, hl⟩ := S_feed (xs 1) (xs 2) (xs 3) (xs 4) (xs 5) M_start (by omega) (by omega)
  simp only [hL, bs]
  have e2 : (ap4 (xs 5) (ap4 (xs 4) (ap4 (xs 3) (ap4 (xs 2) (ap4 (xs 1) M_start))))).1 94 5 = M_start.1 94 5 := by
    rw [ap4_1 (by omega), ap4_1 (by omega), ap4_1 (by omega), ap4_1 (by omega), ap4_1 (by omega)]
  obtain ⟨r, hr, k1, -⟩ := S_mfeed (xs 1) (xs 2) (xs 3) (xs 4) (xs 5) (ap4 (xs 5) (ap4 (xs 4) (ap4 (xs 3) (ap4 (xs 2) (ap4 (xs 1) M_start))))) 0 (by rw [e2, e1]) (by decide)
  rw [hr, bs]
  have e3 : (ap4 (xs 5) (ap4 (xs 4) (ap4 (xs 3) (ap4 (xs 2) (ap4 (xs 1) M_start))))).1 27 1 = r.1 := by
    rw [k1, ← Int32.toInt_inj, hl, e0, e2, ms_rlen]
    decide
  rw [if_pos e3]
  exact ⟨_, rfl⟩
set_option maxRecDepth 100000 in
set_option maxHeartbeats 2000000 in
theorem c35 (xs : Nat → Int32) : ∃ M, F_LAWc_35 xs 7 (nI (7 * 0)) M_start = some M := by
  simp only [F_LAWc_35, if_pos pi1, if_pos pi2, if_pos pi3, if_pos pi4, if_pos pi5, if_pos pi6, pt1, pt2, pt3, pt4, pt5, pt6]
  have hr : M_start.1 95 8 = M_start.1 1 8 := by rw [ms_rvil, ms_vil]
  rcases P_villager (xs 1) (xs 2) M_start (by rw [ms_vil]; decide) with ⟨hL, -, hM⟩ | ⟨k, hk, hL, hM⟩
  · simp only [hL, bs]
    rw [hM _ (by unfold vilC; simp only [mSL_1]; rw [mI_cell (by decide), mSL_1, mSL_1]; exact hr)]
    simp only [bs]
    have e0 : F_MO_thrown (vilM (xs 1) (xs 2) (M_start.1 1 8) (vilC (xs 1) (xs 2) (M_start.1 1 8) M_start)) = some 0 := by
      unfold F_MO_thrown vilM
      rw [mI_cell (by decide), mI_cell (by decide), mI_cell (by decide), mI_hit]
    have e1 : (vilM (xs 1) (xs 2) (M_start.1 1 8) (vilC (xs 1) (xs 2) (M_start.1 1 8) M_start)).2 121 0 = (M_start.1 1 8).toInt64 := by
      unfold vilM vilC
      simp only [mSI_2]
      exact mL_hit
    rw [e0, bs, if_pos rfl, if_pos trivial, if_pos ib01, tn0, if_pos e1]
    exact ⟨_, rfl⟩
  · simp only [hL, bs]
    rw [hM _ hr]
    simp only [bs, S_thrown]
    rw [if_pos trivial, if_neg hk]
    exact ⟨_, rfl⟩
/-- in, on the body of one point -/
noncomputable def MDi (v : Int64) : Mem := (F_MO_body (mSI (mSL MD1 121 0 v) 94 0 0)).getD M_zero
set_option maxRecDepth 100000 in
theorem hDi0 : F_MO_body (mSI (mSL MD1 121 0 0) 94 0 0) = some (MDi 0) := some_getD (by decide +kernel)
set_option maxRecDepth 100000 in
theorem hDi1 : F_MO_body (mSI (mSL MD1 121 0 1) 94 0 0) = some (MDi 1) := some_getD (by decide +kernel)
set_option maxRecDepth 100000 in
theorem hDi0f : (MDi 0).1 94 36 = 1 ∧ (MDi 0).1 116 0 = 0 ∧ (MDi 0).1 117 0 = 0 ∧ F_MO_leastOf 0 (MDi 0) = some 0 ∧ F_MO_leastOf 1 (MDi 0) = some 0 ∧ (MDi 0).1 94 0 = 0 ∧ (MDi 0).2 121 0 = 0 := by decide +kernel
set_option maxRecDepth 100000 in
theorem hDi1f : (MDi 1).1 94 36 = 1 ∧ (MDi 1).1 116 0 = 0 ∧ (MDi 1).1 117 0 = 0 ∧ F_MO_leastOf 0 (MDi 1) = some 0 ∧ F_MO_leastOf 1 (MDi 1) = some 0 ∧ (MDi 1).1 94 0 = 0 ∧ (MDi 1).2 121 0 = 1 := by decide +kernel
set_option maxRecDepth 100000 in
theorem hD1f : MD1.2 74 0 = 0 ∧ MD1.2 76 0 = 0 ∧ F_Day_leastOf 0 MD1 = some 0 ∧ F_Day_leastOf 1 MD1 = some 0 := by decide +kernel
theorem z64 (a : Int64) : 0 * a = 0 := Int64.zero_mul
theorem zz64 (a b : Int64) : ((0 : Int64) - 0) * a - (0 - 0) * b = 0 := by
  rw [show (0 : Int64) - 0 = 0 by decide, z64, z64]
  decide
theorem z32 (a : Int32) : 0 * a = 0 := Int32.zero_mul
theorem FUEL_2 : FUEL = 1180591620717411303422 + 2 := rfl
def inV (x y : Int32) : Bool := if x.toInt64 < 0 then false else if 0 < x.toInt64 then false else if y.toInt64 < 0 then false else if 0 < y.toInt64 then false else true
theorem inV_0 {x y : Int32} (h : inV x y = true) : x ≤ 0 := by
  unfold inV at h
  by_cases h1 : x.toInt64 < 0
  · rw [if_pos h1] at h; cases h
  · rw [if_neg h1] at h
    by_cases h2 : 0 < x.toInt64
    · rw [if_pos h2] at h; cases h
    · rw [lt_l, Int32.toInt_toInt64] at h2
      rw [le_i, li0]
      have h3 : (0 : Int64).toInt = 0 := by decide
      omega
theorem C_bodyHas (x y d : Int32) : F_Day_bodyHas x y d MD1 = some (inV x y) := by
  obtain ⟨f1, f2, -, -⟩ := hD1f
  have r74 : F_Row_at 74 9 0 MD1 = some 0 := by rw [R_at (by decide) (by decide) (by decide), ← f1]; rfl
  have r76 : F_Row_at 76 9 0 MD1 = some 0 := by rw [R_at (by decide) (by decide) (by decide), ← f2]; rfl
  unfold F_Day_bodyHas F_Day_bodyHas_l3
  have b0 : F_Day_bodyHas_b3 x y d MD1 0 = some (.inl 1) := by
    unfold F_Day_bodyHas_b3
    rw [hD1c, if_neg (by decide), if_neg (by decide), if_pos (by decide)]
    unfold F_Day_bodyHas_j38
    simp only [r74, r76, bs, zz64]
    rfl
  have b1 : F_Day_bodyHas_b3 x y d MD1 1 = some (.inr (.inr (()))) := by
    unfold F_Day_bodyHas_b3
    rw [hD1c, if_pos (by decide)]
  rw [FUEL_2, it_l b0, it_r b1, bs]
  show F_Day_bodyHas_j140 x y d MD1 = _
  unfold F_Day_bodyHas_j140 F_Day_isBetweenEnds
  rw [hD1c, if_neg (by decide), show (1 : Int32) - 1 = 0 by decide]
  have mx : F_Math_max_JJJ 0 0 MD1 = some 0 := rfl
  have mn : F_Math_min_JJJ 0 0 MD1 = some 0 := rfl
  simp only [r74, r76, bs, mx, mn, z64]
  unfold inV
  by_cases h1 : x.toInt64 < 0
  · rw [if_pos h1, if_pos h1]; rfl
  · rw [if_neg h1, if_neg h1]
    by_cases h2 : 0 < x.toInt64
    · rw [if_pos h2, if_pos h2]; rfl
    · rw [if_neg h2, if_neg h2]
      by_cases h3 : y.toInt64 < 0
      · rw [if_pos h3, if_pos h3]; rfl
      · rw [if_neg h3, if_neg h3]
        by_cases h4 : 0 < y.toInt64
        · rw [if_pos h4, if_pos h4]; rfl
        · rw [if_neg h4, if_neg h4]; rfl
theorem N_isIn (x y d : Int32) (M MB : Mem) (h : F_MO_body M = some MB) (f1 : MB.1 94 36 = 1) (f2 : MB.1 116 0 = 0) (f3 : MB.1 117 0 = 0) : F_MO_isIn x.toInt64 y.toInt64 d.toInt64 M = some (inV x y, MB) := by
  have i0 : inb ((0 : Int32)) 10 := by decide
  have m1 : irm ((0 : Int32) + 1) 1 = 0 := by decide
  have z0 : (0 : Int32).toInt64 = 0 := by decide
  unfold F_MO_isIn F_MO_isIn_l10
  rw [h, bs]
  have b0 : F_MO_isIn_b10 x.toInt64 y.toInt64 d.toInt64 MB (true, 0) = some (.inl (true, 1)) := by
    unfold F_MO_isIn_b10 F_MO_turn
    dsimp only
    rw [f1, if_neg (by decide), if_pos (by decide), if_pos rfl, m1, if_pos i0, if_pos i0, if_pos i0, if_pos i0, tn0, f2, f3, z0, bs]
    rw [z64, zz64]
    rfl
  have b1 : F_MO_isIn_b10 x.toInt64 y.toInt64 d.toInt64 MB (true, 1) = some (.inr true) := by
    unfold F_MO_isIn_b10
    dsimp only
    rw [f1, if_pos (by decide)]
  rw [FUEL_2, it_l b0, it_r b1, bs]
  unfold F_MO_isIn_j102
  have mx : ∀ M, F_Math_max_III 0 0 M = some 0 := fun _ => rfl
  have mn : ∀ M, F_Math_min_III 0 0 M = some 0 := fun _ => rfl
  rw [f1, if_pos (by decide), if_pos rfl, show (1 : Int32) - 1 = 0 by decide]
  simp only [tn0, f2, f3, mn, mx, bs, z0, z64, if_pos i0]
  unfold inV
  by_cases h1 : x.toInt64 < 0
  · rw [if_pos h1, if_pos h1]
  · rw [if_neg h1, if_neg h1]
    by_cases h2 : 0 < x.toInt64
    · rw [if_pos h2, if_pos h2]
    · rw [if_neg h2, if_neg h2]
      by_cases h3 : y.toInt64 < 0
      · rw [if_pos h3, if_pos h3]
      · rw [if_neg h3, if_neg h3]
        by_cases h4 : 0 < y.toInt64
        · rw [if_pos h4, if_pos h4]
        · rw [if_neg h4, if_neg h4]
set_option maxRecDepth 100000 in
set_option maxHeartbeats 2000000 in
theorem c17 (xs : Nat → Int32) : ∃ M, F_LAWc_17 xs 7 (nI (7 * 0)) M_start = some M := by
  simp only [F_LAWc_17, F_LAWc_17_j1413, F_LAWc_17_j1379, F_LAWc_17_j1340, if_pos pi1, if_pos pi2, if_pos pi3, if_pos pi4, if_pos pi5, if_pos pi6, pt1, pt2, pt3, pt4, pt5, pt6]
  by_cases hd : 1 ≤ xs 3 ∧ xs 3 ≤ 1000
  · by_cases hx : -100000 ≤ xs 1 ∧ xs 1 ≤ 100000
    · by_cases hy : -100000 ≤ xs 2 ∧ xs 2 ≤ 100000
      · have hL : ∀ b : Int32, F_LAW_in (xs 1) (xs 2) (xs 3) b M_start = some (0, mSL MD1 121 0 (if (inV (xs 1) (xs 2) && decide (b = 0)) = true then 1 else 0)) := by
          intro b
          unfold F_LAW_in F_KW_in
          rw [S_num_ok hd, xb_inr, S_num_ok hx, xb_inr, S_num_ok hy, xb_inr, hD1, bs, C_bodyHas, bs]
          by_cases hv : inV (xs 1) (xs 2) = true
          · rw [if_pos hv]
            by_cases hb : b = 0
            · rw [if_pos hb, hb_inr, if_pos rfl, if_pos ib01, tn0, hv, decide_eq_true hb]
              rfl
            · rw [if_neg hb]
              unfold F_Day_mustBeKept
              rw [hD1f.2.2.1, bs, z32, if_pos (inV_0 hv), bs, if_neg (by decide), hb_inr, if_neg (by decide), if_pos ib01, tn0, hv, decide_eq_false hb]
              rfl
          · rw [if_neg hv, hb_inr, if_neg (by decide), if_pos ib01, tn0]
            have hf : inV (xs 1) (xs 2) = false := by cases h : inV (xs 1) (xs 2) with
              | true => exact absurd h hv
              | false => rfl
            rw [hf]
            rfl
        have hN : ∀ (b : Int32) (M MB : Mem), F_MO_body (mSI M 94 0 0) = some MB → MB.1 94 36 = 1 → MB.1 116 0 = 0 → MB.1 117 0 = 0 → F_MO_leastOf 0 MB = some 0 → F_MO_in (xs 1) (xs 2) (xs 3) b M = some ((inV (xs 1) (xs 2) && decide (b = 0)), MB) := by
          intro b M MB h f1 f2 f3 f4
          unfold F_MO_in
          rw [S_within, bs, decide_eq_true hd, if_pos rfl, S_within, bs, decide_eq_true hx, if_pos rfl, S_within, bs, decide_eq_true hy, if_pos rfl]
          unfold F_MO_in_j48
          rw [S_throws_f, bs, if_f1, N_isIn _ _ _ _ _ h f1 f2 f3, bs]
          by_cases hv : inV (xs 1) (xs 2) = true
          · rw [if_pos hv]
            by_cases hb : b = 0
            · rw [if_pos hb, hv, decide_eq_true hb]
              rfl
            · rw [if_neg hb, f4, bs, z32, if_pos (inV_0 hv), hv, decide_eq_false hb]
              rfl
          · rw [if_neg hv]
            have hf : inV (xs 1) (xs 2) = false := by cases h : inV (xs 1) (xs 2) with
              | true => exact absurd h hv
              | false => rfl
            rw [hf]
            rfl
        have fin : ∀ v : Bool, ∃ MB, F_MO_body (mSI (mSL MD1 121 0 (if v = true then 1 else 0)) 94 0 0) = some MB ∧ MB.1 94 36 = 1 ∧ MB.1 116 0 = 0 ∧ MB.1 117 0 = 0 ∧ F_MO_leastOf 0 MB = some 0 ∧ MB.1 94 0 = 0 ∧ MB.2 121 0 = (if v = true then 1 else 0) := by
          intro v
          cases v with
          | true => exact ⟨_, hDi1, hDi1f.1, hDi1f.2.1, hDi1f.2.2.1, hDi1f.2.2.2.1, hDi1f.2.2.2.2.2.1, hDi1f.2.2.2.2.2.2⟩
          | false => exact ⟨_, hDi0, hDi0f.1, hDi0f.2.1, hDi0f.2.2.1, hDi0f.2.2.2.1, hDi0f.2.2.2.2.2.1, hDi0f.2.2.2.2.2.2⟩
        by_cases hb : xs 4 = 0
        · simp only [if_pos hb, hL, bs]
          obtain ⟨MB, k1, k2, k3, k4, k5, k6, k7⟩ := fin (inV (xs 1) (xs 2) && decide (b2i false = 0))
          rw [hN _ _ MB k1 k2 k3 k4 k5]
          simp only [bs, F_MO_thrown, k6]
          rw [if_pos trivial, if_pos trivial, if_pos ib01, tn0, k7]
          cases (inV (xs 1) (xs 2) && decide (b2i false = 0)) <;> exact ⟨_, rfl⟩
        · simp only [if_neg hb, hL, bs]
          obtain ⟨MB, k1, k2, k3, k4, k5, k6, k7⟩ := fin (inV (xs 1) (xs 2) && decide (b2i true = 0))
          rw [hN _ _ MB k1 k2 k3 k4 k5]
          simp only [bs, F_MO_thrown, k6]
          rw [if_pos trivial, if_pos trivial, if_pos ib01, tn0, k7]
          cases (inV (xs 1) (xs 2) && decide (b2i true = 0)) <;> exact ⟨_, rfl⟩
      · have hL : ∀ b : Int32, F_LAW_in (xs 1) (xs 2) (xs 3) b M_start = some (1, M_start) := by
          intro b
          unfold F_LAW_in F_KW_in
          rw [S_num_ok hd, xb_inr, S_num_ok hx, xb_inr, S_num_no hy, xb_inl, hb_inl, if_pos rfl]
        have hN : ∀ b : Int32, F_MO_in (xs 1) (xs 2) (xs 3) b M_start = some (false, mSI (mSI M_start 94 0 0) 94 0 1) := by
          intro b
          unfold F_MO_in
          rw [S_within, bs, decide_eq_true hd, if_pos rfl, S_within, bs, decide_eq_true hx, if_pos rfl, S_within, bs, decide_eq_false hy, if_neg (by decide)]
          unfold F_MO_in_j48
          rw [S_throws_t, bs, if_pos rfl]
        by_cases hb : xs 4 = 0
        · simp only [if_pos hb, hL, hN, bs, S_thrown]
          exact ⟨_, rfl⟩
        · simp only [if_neg hb, hL, hN, bs, S_thrown]
          exact ⟨_, rfl⟩
    · have hL : ∀ b : Int32, F_LAW_in (xs 1) (xs 2) (xs 3) b M_start = some (1, M_start) := by
        intro b
        unfold F_LAW_in F_KW_in
        rw [S_num_ok hd, xb_inr, S_num_no hx, xb_inl, hb_inl, if_pos rfl]
      have hN : ∀ b : Int32, F_MO_in (xs 1) (xs 2) (xs 3) b M_start = some (false, mSI (mSI M_start 94 0 0) 94 0 1) := by
        intro b
        unfold F_MO_in
        rw [S_within, bs, decide_eq_true hd, if_pos rfl, S_within, bs, decide_eq_false hx, if_neg (by decide)]
        unfold F_MO_in_j48
        rw [S_throws_t, bs, if_pos rfl]
      by_cases hb : xs 4 = 0
      · simp only [if_pos hb, hL, hN, bs, S_thrown]
        exact ⟨_, rfl⟩
      · simp only [if_neg hb, hL, hN, bs, S_thrown]
        exact ⟨_, rfl⟩
  · have hL : ∀ b : Int32, F_LAW_in (xs 1) (xs 2) (xs 3) b M_start = some (1, M_start) := by
      intro b
      unfold F_LAW_in F_KW_in
      rw [S_num_no hd, xb_inl, hb_inl, if_pos rfl]
    have hN : ∀ b : Int32, F_MO_in (xs 1) (xs 2) (xs 3) b M_start = some (false, mSI (mSI M_start 94 0 0) 94 0 1) := by
      intro b
      unfold F_MO_in
      rw [S_within, bs, decide_eq_false hd, if_neg (by decide)]
      unfold F_MO_in_j48
      rw [S_throws_t, bs, if_pos rfl]
    by_cases hb : xs 4 = 0
    · simp only [if_pos hb, hL, hN, bs, S_thrown]
      exact ⟨_, rfl⟩
    · simp only [if_neg hb, hL, hN, bs, S_thrown]
      exact ⟨_, rfl⟩
/-- grow without ways -/
def HG (M M' : Mem) : Prop := M'.1 = M.1 ∧ ∀ a b, a ≠ 86 → M'.2 a b = M.2 a b
theorem HG.rf {M : Mem} : HG M M := ⟨rfl, fun _ _ _ => rfl⟩
theorem HG.tr {M M1 M2 : Mem} (h : HG M M1) (h2 : HG M1 M2) : HG M M2 := ⟨h2.1.trans h.1, fun a b q => (h2.2 a b q).trans (h.2 a b q)⟩
theorem C_isThere0 {M : Mem} (h : ∀ j, j < 8 → M.2 82 j = 0) {k : Nat} (hk : k < 8) : F_Crowd_isThere (iI k) M = some false := by
  unfold F_Crowd_isThere
  rw [T_Row_at (by omega) (by omega) (by decide), bs, h _ (by omega), if_neg (by decide)]
theorem C_grow1 {M : Mem} (h : ∀ j, j < 8 → M.2 82 j = 0) : wpO (F_Crowd_growOneStep M) (fun r => r.1 = false ∧ HG M r.2) := by
  unfold F_Crowd_growOneStep F_Crowd_growOneStep_l7
  refine wp_bind (Ψ := fun z => z.1 = 0 ∧ z.2.1 = 0 ∧ HG M z.2.2) ?_ ?_
  · refine wp_iter (P := fun k z => z.1 = 0 ∧ z.2.1 = 0 ∧ z.2.2.1 = iI k ∧ HG M z.2.2.2) 8 ?_ _ _ ⟨rfl, rfl, rfl, HG.rf⟩ (FUEL_big (by decide))
    intro k z hk ⟨p1, p2, p3, p4⟩
    unfold F_Crowd_growOneStep_b7
    rw [p1, p2, p3]
    have l8 : (8 : Int32) = iI 8 := rfl
    have hz : ∀ j, j < 8 → z.2.2.2.2 82 j = 0 := fun j hj => by rw [p4.2 82 j (by decide)]; exact h j hj
    rcases Nat.lt_or_ge k 8 with hlt | hge
    · refine wp_f (by rw [l8, iI_le] <;> omega) ?_
      rw [C_isThere0 hz hlt, bs, if_neg (by decide)]
      unfold F_Crowd_growOneStep_j46
      rw [T_Row_put (by omega) (by omega) (by decide), bs]
      rw [C_isThere0 (fun j hj => by rw [mL_cell (by decide)]; exact hz j hj) hlt, bs, if_neg (by decide)]
      refine wp_some ⟨hlt, rfl, rfl, ?_, p4.tr ⟨rfl, fun a b q => mL_cell q⟩⟩
      have h9 : (1 : Int32) = iI 1 := rfl
      show iI (k : Int) + 1 = _
      rw [h9, iI_add]
      rfl
    · have : k = 8 := by omega
      subst this
      exact wp_t (by decide) (wp_some ⟨rfl, rfl, p4⟩)
  · intro z ⟨p1, p2, p4⟩
    unfold F_Crowd_growOneStep_j98
    rw [p2, if_neg (by decide)]
    exact wp_some ⟨rfl, p4⟩
theorem C_grow {M : Mem} (h : ∀ j, j < 8 → M.2 82 j = 0) {n : Int32} (h0 : 0 ≤ n) (h5 : n ≤ 50) : wpO (F_Crowd_growSteps_l12 n 0 0 M) (fun r => r.1 = 0 ∧ HG M r.2) := by
  have l50 : (50 : Int32).toInt = 50 := by decide
  rw [le_i, li0] at h0
  rw [le_i, l50] at h5
  unfold F_Crowd_growSteps_l12
  refine wp_bind (Ψ := fun z => z.1 = 0 ∧ HG M z.2) ?_ (fun z hz => wp_some hz)
  refine wp_iter (P := fun k z => z.1 = 0 ∧ z.2.1 = iI k ∧ HG M z.2.2) n.toInt.toNat ?_ _ _ ⟨rfl, rfl, HG.rf⟩ (FUEL_big (by omega))
  intro k z hk ⟨p1, p3, p4⟩
  unfold F_Crowd_growSteps_b12
  rw [p1, p3]
  have hz : ∀ j, j < 8 → z.2.2.2 82 j = 0 := fun j hj => by rw [p4.2 82 j (by decide)]; exact h j hj
  by_cases hle : n ≤ iI (k : Int)
  · exact wp_t hle (wp_some ⟨rfl, p4⟩)
  · refine wp_f hle (wp_bind (C_grow1 hz) (fun r hr => ?_))
    have hlt : k < n.toInt.toNat := by
      rw [le_i, iI_toInt (by omega) (by omega)] at hle
      omega
    rw [hr.1, if_neg (by decide)]
    refine wp_some ⟨hlt, rfl, ?_, p4.tr hr.2⟩
    have h9 : (1 : Int32) = iI 1 := rfl
    show iI (k : Int) + 1 = _
    rw [h9, iI_add]
    rfl
theorem N_grow1 {M : Mem} (h : M.1 95 5 = 0) : F_MO_growsOnce M = some (false, M) := by
  unfold F_MO_growsOnce F_MO_growsOnce_l15
  have b0 : F_MO_growsOnce_b15 0 (0, 0, 0, M) = some (.inr (0, 0, M)) := by
    unfold F_MO_growsOnce_b15
    dsimp only
    rw [if_pos (by decide)]
  rw [if_pos ib5, tn5, h, FUEL_2, it_r b0, bs]
  rfl
theorem N_growL {M : Mem} (h : M.1 95 5 = 0) {n : Int32} (h0 : 0 ≤ n) (h5 : n ≤ 50) : wpO (F_MO_grow_l96 n 0 0 M) (fun r => r = (0, M)) := by
  have l50 : (50 : Int32).toInt = 50 := by decide
  rw [le_i, li0] at h0
  rw [le_i, l50] at h5
  unfold F_MO_grow_l96
  refine wp_bind (Ψ := fun z => z = (0, M)) ?_ (fun z hz => wp_some (by rw [hz]))
  refine wp_iter (P := fun k z => z = (0, iI k, M)) n.toInt.toNat ?_ _ _ rfl (FUEL_big (by omega))
  intro k z hk p
  subst p
  unfold F_MO_grow_b96
  dsimp only
  by_cases hle : n ≤ iI (k : Int)
  · exact wp_t hle (wp_some rfl)
  · have hlt : k < n.toInt.toNat := by
      rw [le_i, iI_toInt (by omega) (by omega)] at hle
      omega
    refine wp_f hle ?_
    rw [N_grow1 h, bs, if_f1]
    refine wp_some ⟨hlt, ?_⟩
    have h9 : (1 : Int32) = iI 1 := rfl
    rw [h9, iI_add]
    rfl
noncomputable def MG1 : Mem := (F_Crowd_seeWhoIsThere M_start).getD M_zero
noncomputable def MG2 : Mem := (F_Crowd_meetAll MG1).getD M_zero
set_option maxRecDepth 100000 in
theorem hG1 : F_Crowd_seeWhoIsThere M_start = some MG1 := some_getD (by decide +kernel)
set_option maxRecDepth 100000 in
theorem hG2 : F_Crowd_meetAll MG1 = some MG2 := some_getD (by decide +kernel)
set_option maxRecDepth 100000 in
theorem hG2f : (∀ j, j < 8 → MG2.2 82 j = 0) ∧ MG2.1 95 5 = 0 := by decide +kernel
set_option maxRecDepth 100000 in
set_option maxHeartbeats 2000000 in
theorem c30 (xs : Nat → Int32) : ∃ M, F_LAWc_30 xs 7 (nI (7 * 0)) M_start = some M := by
  simp only [F_LAWc_30, if_pos pi1, if_pos pi2, if_pos pi3, if_pos pi4, if_pos pi5, if_pos pi6, pt1, pt2, pt3, pt4, pt5, pt6]
  by_cases hn : 0 ≤ xs 1 ∧ xs 1 ≤ 50
  · obtain ⟨r, hr, r1, r2⟩ := C_grow hG2f.1 hn.1 hn.2
    have hL : F_LAW_grow (xs 1) M_start = some (0, mSL r.2 121 0 0) := by
      unfold F_LAW_grow F_KW_grow F_Crowd_growSteps
      rw [S_num_ok hn, xb_inr, hG1, bs, hG2, bs, hr, bs, hb_inr, if_pos ib01, tn0, r1]
      rfl
    rw [hL, bs]
    have hw : (mSI (mSL r.2 121 0 0) 94 0 0).1 95 5 = 0 := by
      rw [mI_cell (by decide), mSL_1, r2.1]
      exact hG2f.2
    obtain ⟨q, hq, q1⟩ := N_growL hw hn.1 hn.2
    have hN : F_MO_grow (xs 1) (mSL r.2 121 0 0) = some (0, mSI (mSL r.2 121 0 0) 94 0 0) := by
      unfold F_MO_grow
      rw [S_within, bs, decide_eq_true hn, if_pos rfl]
      unfold F_MO_grow_j21
      rw [S_throws_f, bs, if_f1]
      unfold F_MO_grow_l32
      have b0 : F_MO_grow_b32 (xs 1) (0, mSI (mSL r.2 121 0 0) 94 0 0) = some (.inr (mSI (mSL r.2 121 0 0) 94 0 0)) := by
        unfold F_MO_grow_b32
        dsimp only
        rw [if_pos ib5, tn5, hw, if_pos (by decide)]
      rw [FUEL_2, it_r b0, bs, hq, q1]
    rw [hN, bs, S_thrown, bs, if_pos rfl, if_pos rfl, if_pos ib01, tn0, mSI_2, mL_hit, if_pos (show (0 : Int64) = (0 : Int32).toInt64 by decide)]
    exact ⟨_, rfl⟩
  · have hL : F_LAW_grow (xs 1) M_start = some (1, M_start) := by
      unfold F_LAW_grow F_KW_grow
      rw [S_num_no hn, xb_inl, hb_inl, if_pos rfl]
    have hN : F_MO_grow (xs 1) M_start = some (0, mSI (mSI M_start 94 0 0) 94 0 1) := by
      unfold F_MO_grow
      rw [S_within, bs, decide_eq_false hn, if_neg (by decide)]
      unfold F_MO_grow_j21
      rw [S_throws_t, bs, if_pos rfl]
    simp only [hL, hN, bs, S_thrown]
    exact ⟨_, rfl⟩
theorem p1_sw (xs : Nat → Int32) (k : Int32) : ∃ M, F_law_sw xs 7 (nI (7 * 0)) k M_start = some M := by
  unfold F_law_sw
  by_cases h0 : k = 0
  · rw [if_pos h0]
    exact c0 xs
  rw [if_neg h0]
  by_cases h1 : k = 1
  · rw [if_pos h1]
    exact c1 xs
  rw [if_neg h1]
  by_cases h2 : k = 2
  · rw [if_pos h2]
    exact c2 xs
  rw [if_neg h2]
  by_cases h3 : k = 3
  · rw [if_pos h3]
    exact c3 xs
  rw [if_neg h3]
  by_cases h4 : k = 4
  · rw [if_pos h4]
    exact c4 xs
  rw [if_neg h4]
  by_cases h5 : k = 5
  · rw [if_pos h5]
    exact c5 xs
  rw [if_neg h5]
  by_cases h6 : k = 6
  · rw [if_pos h6]
    exact c6 xs
  rw [if_neg h6]
  by_cases h7 : k = 7
  · rw [if_pos h7]
    exact c7 xs
  rw [if_neg h7]
  by_cases h8 : k = 8
  · rw [if_pos h8]
    exact c8 xs
  rw [if_neg h8]
  by_cases h9 : k = 9
  · rw [if_pos h9]
    exact c9 xs
  rw [if_neg h9]
  by_cases h10 : k = 10
  · rw [if_pos h10]
    exact c10 xs
  rw [if_neg h10]
  by_cases h11 : k = 11
  · rw [if_pos h11]
    exact c11 xs
  rw [if_neg h11]
  by_cases h12 : k = 12
  · rw [if_pos h12]
    exact c12 xs
  rw [if_neg h12]
  by_cases h13 : k = 13
  · rw [if_pos h13]
    exact c13 xs
  rw [if_neg h13]
  by_cases h14 : k = 14
  · rw [if_pos h14]
    exact c14 xs
  rw [if_neg h14]
  by_cases h15 : k = 15
  · rw [if_pos h15]
    exact c15 xs
  rw [if_neg h15]
  by_cases h16 : k = 16
  · rw [if_pos h16]
    exact c16 xs
  rw [if_neg h16]
  by_cases h17 : k = 17
  · rw [if_pos h17]
    exact c17 xs
  rw [if_neg h17]
  by_cases h18 : k = 18
  · rw [if_pos h18]
    exact c18 xs
  rw [if_neg h18]
  by_cases h19 : k = 19
  · rw [if_pos h19]
    exact c19 xs
  rw [if_neg h19]
  by_cases h20 : k = 20
  · rw [if_pos h20]
    exact c20 xs
  rw [if_neg h20]
  by_cases h21 : k = 21
  · rw [if_pos h21]
    exact c21 xs
  rw [if_neg h21]
  by_cases h22 : k = 22
  · rw [if_pos h22]
    exact c22 xs
  rw [if_neg h22]
  by_cases h23 : k = 23
  · rw [if_pos h23]
    exact c23 xs
  rw [if_neg h23]
  by_cases h24 : k = 24
  · rw [if_pos h24]
    exact c24 xs
  rw [if_neg h24]
  by_cases h25 : k = 25
  · rw [if_pos h25]
    exact c25 xs
  rw [if_neg h25]
  by_cases h26 : k = 26
  · rw [if_pos h26]
    exact c26 xs
  rw [if_neg h26]
  by_cases h27 : k = 27
  · rw [if_pos h27]
    exact c27 xs
  rw [if_neg h27]
  by_cases h28 : k = 28
  · rw [if_pos h28]
    exact c28 xs
  rw [if_neg h28]
  by_cases h29 : k = 29
  · rw [if_pos h29]
    exact c29 xs
  rw [if_neg h29]
  by_cases h30 : k = 30
  · rw [if_pos h30]
    exact c30 xs
  rw [if_neg h30]
  by_cases h31 : k = 31
  · rw [if_pos h31]
    exact c31 xs
  rw [if_neg h31]
  by_cases h32 : k = 32
  · rw [if_pos h32]
    exact c32 xs
  rw [if_neg h32]
  by_cases h33 : k = 33
  · rw [if_pos h33]
    exact c33 xs
  rw [if_neg h33]
  by_cases h34 : k = 34
  · rw [if_pos h34]
    exact c34 xs
  rw [if_neg h34]
  by_cases h35 : k = 35
  · rw [if_pos h35]
    exact c35 xs
  rw [if_neg h35]
  by_cases h36 : k = 36
  · rw [if_pos h36]
    exact c36 xs
  rw [if_neg h36]
  by_cases h37 : k = 37
  · rw [if_pos h37]
    exact c37 xs
  rw [if_neg h37]
  by_cases h38 : k = 38
  · rw [if_pos h38]
    exact c38 xs
  rw [if_neg h38]
  by_cases h39 : k = 39
  · rw [if_pos h39]
    exact c39 xs
  rw [if_neg h39]
  by_cases h40 : k = 40
  · rw [if_pos h40]
    exact c40 xs
  rw [if_neg h40]
  exact ⟨_, rfl⟩
theorem p1_math (xs : Nat → Int32) (L : Nat) (hL : L ≤ 7) : wpO (iter (F_law_b xs L) FUEL (nI (7 * 0), M_start)) (fun _ => True) := by
  rcases Nat.lt_or_ge L 7 with h | h
  · have b0 : F_law_b xs L (nI (7 * 0), M_start) = some (.inr ()) := by
      unfold F_law_b
      dsimp only
      have : ∀ L, L < 7 → nI L - 7 < nI (7 * 0) := by decide
      rw [if_pos (this L h)]
    rw [FUEL_2, it_r b0]
    exact ⟨_, rfl, trivial⟩
  · obtain rfl : L = 7 := by omega
    obtain ⟨M, hM⟩ := p1_sw xs ((xs (nI (7 * 0)).toNatClampNeg) &&& 63)
    have b0 : F_law_b xs 7 (nI (7 * 0), M_start) = some (.inl (nI (7 * 0) + 7, M)) := by
      unfold F_law_b
      dsimp only
      rw [if_neg (by decide), if_pos (by decide), hM, bs]
    have b1 : F_law_b xs 7 (nI (7 * 0) + 7, M) = some (.inr ()) := by
      unfold F_law_b
      dsimp only
      rw [if_pos (by decide)]
    rw [FUEL_2, it_l b0, it_r b1]
    exact ⟨_, rfl, trivial⟩
