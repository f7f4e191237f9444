/-! ===== the making of the system: a world that grows cell by cell; a reference's slot holds 1 in M.1 when it is set ===== -/
def shapesC : List (GB → (Nat → Int32) → (Nat → Int64) → va_E) := [
  fun g f h => .inr (11, [if f 0 = 0 then .null else .ref (g.2.1 1), if f 1 = 0 then .null else .ref (g.2.1 14), .int (f 2), if f 3 = 0 then .null else .ref (g.2.1 27), .int (f 4), if f 5 = 0 then .null else .ref (g.2.1 34), if f 6 = 0 then .null else .ref (g.2.1 52), if f 7 = 0 then .null else .ref (g.2.1 68), if f 8 = 0 then .null else .ref (g.2.1 79), if f 9 = 0 then .null else .ref (g.2.1 80), if f 10 = 0 then .null else .ref (g.2.1 91), if f 11 = 0 then .null else .ref (g.2.1 93)]),
  fun g f h => .inr (10, [.int (f 0), .int (f 1), .int (f 2), .int (f 3), .int (f 4), .int (f 5), .int (f 6), .int (f 7), .int (f 8), if f 9 = 0 then .null else .ref (g.2.1 2), if f 10 = 0 then .null else .ref (g.2.1 4), if f 11 = 0 then .null else .ref (g.2.1 6), if f 12 = 0 then .null else .ref (g.2.1 8), if f 13 = 0 then .null else .ref (g.2.1 10), if f 14 = 0 then .null else .ref (g.2.1 12)]),
  fun g f h => .inr (7, [if f 0 = 0 then .null else .ref (g.2.1 3)]),
  fun g f h => .inl (g.2.2.2.1, 18, .inr (.inl h)),
  fun g f h => .inr (7, [if f 0 = 0 then .null else .ref (g.2.1 5)]),
  fun g f h => .inl (g.2.2.2.1, 117, .inr (.inl h)),
  fun g f h => .inr (7, [if f 0 = 0 then .null else .ref (g.2.1 7)]),
  fun g f h => .inl (g.2.2.2.1, 400, .inr (.inl h)),
  fun g f h => .inr (7, [if f 0 = 0 then .null else .ref (g.2.1 9)]),
  fun g f h => .inl (g.2.2.2.1, 8, .inr (.inl h)),
  fun g f h => .inr (7, [if f 0 = 0 then .null else .ref (g.2.1 11)]),
  fun g f h => .inl (g.2.2.2.1, 6, .inr (.inl h)),
  fun g f h => .inr (7, [if f 0 = 0 then .null else .ref (g.2.1 13)]),
  fun g f h => .inl (g.2.2.2.1, 6, .inr (.inl h)),
  fun g f h => .inr (10, [.int (f 0), .int (f 1), .int (f 2), .int (f 3), .int (f 4), .int (f 5), .int (f 6), .int (f 7), .int (f 8), if f 9 = 0 then .null else .ref (g.2.1 15), if f 10 = 0 then .null else .ref (g.2.1 17), if f 11 = 0 then .null else .ref (g.2.1 19), if f 12 = 0 then .null else .ref (g.2.1 21), if f 13 = 0 then .null else .ref (g.2.1 23), if f 14 = 0 then .null else .ref (g.2.1 25)]),
  fun g f h => .inr (7, [if f 0 = 0 then .null else .ref (g.2.1 16)]),
  fun g f h => .inl (g.2.2.2.1, 18, .inr (.inl h)),
  fun g f h => .inr (7, [if f 0 = 0 then .null else .ref (g.2.1 18)]),
  fun g f h => .inl (g.2.2.2.1, 117, .inr (.inl h)),
  fun g f h => .inr (7, [if f 0 = 0 then .null else .ref (g.2.1 20)]),
  fun g f h => .inl (g.2.2.2.1, 400, .inr (.inl h)),
  fun g f h => .inr (7, [if f 0 = 0 then .null else .ref (g.2.1 22)]),
  fun g f h => .inl (g.2.2.2.1, 8, .inr (.inl h)),
  fun g f h => .inr (7, [if f 0 = 0 then .null else .ref (g.2.1 24)]),
  fun g f h => .inl (g.2.2.2.1, 6, .inr (.inl h)),
  fun g f h => .inr (7, [if f 0 = 0 then .null else .ref (g.2.1 26)]),
  fun g f h => .inl (g.2.2.2.1, 6, .inr (.inl h)),
  fun g f h => .inr (8, [if f 0 = 0 then .null else .ref (g.2.1 28), .int (f 1), if f 2 = 0 then .null else .ref (g.2.1 30), if f 3 = 0 then .null else .ref (g.2.1 32), .int (f 4), .int (f 5), .int (f 6), .int (f 7)]),
  fun g f h => .inr (7, [if f 0 = 0 then .null else .ref (g.2.1 29)]),
  fun g f h => .inl (g.2.2.2.1, 400, .inr (.inl h)),
  fun g f h => .inr (7, [if f 0 = 0 then .null else .ref (g.2.1 31)]),
  fun g f h => .inl (g.2.2.2.1, 13, .inr (.inl h)),
  fun g f h => .inr (7, [if f 0 = 0 then .null else .ref (g.2.1 33)]),
  fun g f h => .inl (g.2.2.2.1, 3, .inr (.inl h)),
  fun g f h => .inr (6, [if f 0 = 0 then .null else .ref (g.2.1 1), if f 1 = 0 then .null else .ref (g.2.1 35), .int (f 2), .int (f 3), .int (f 4), .int (f 5), if f 6 = 0 then .null else .ref (g.2.1 48), if f 7 = 0 then .null else .ref (g.2.1 50)]),
  fun g f h => .inr (2, [if f 0 = 0 then .null else .ref (g.2.1 36), if f 1 = 0 then .null else .ref (g.2.1 38), if f 2 = 0 then .null else .ref (g.2.1 40), if f 3 = 0 then .null else .ref (g.2.1 42), if f 4 = 0 then .null else .ref (g.2.1 44), if f 5 = 0 then .null else .ref (g.2.1 46), .long (h 6), .long (h 7)]),
  fun g f h => .inr (7, [if f 0 = 0 then .null else .ref (g.2.1 37)]),
  fun g f h => .inl (g.2.2.2.1, 9, .inr (.inl h)),
  fun g f h => .inr (7, [if f 0 = 0 then .null else .ref (g.2.1 39)]),
  fun g f h => .inl (g.2.2.2.1, 18, .inr (.inl h)),
  fun g f h => .inr (7, [if f 0 = 0 then .null else .ref (g.2.1 41)]),
  fun g f h => .inl (g.2.2.2.1, 18, .inr (.inl h)),
  fun g f h => .inr (7, [if f 0 = 0 then .null else .ref (g.2.1 43)]),
  fun g f h => .inl (g.2.2.2.1, 9, .inr (.inl h)),
  fun g f h => .inr (7, [if f 0 = 0 then .null else .ref (g.2.1 45)]),
  fun g f h => .inl (g.2.2.2.1, 9, .inr (.inl h)),
  fun g f h => .inr (7, [if f 0 = 0 then .null else .ref (g.2.1 47)]),
  fun g f h => .inl (g.2.2.2.1, 9, .inr (.inl h)),
  fun g f h => .inr (7, [if f 0 = 0 then .null else .ref (g.2.1 49)]),
  fun g f h => .inl (g.2.2.2.1, 16, .inr (.inl h)),
  fun g f h => .inr (7, [if f 0 = 0 then .null else .ref (g.2.1 51)]),
  fun g f h => .inl (g.2.2.2.1, 8, .inr (.inl h)),
  fun g f h => .inr (0, [if f 0 = 0 then .null else .ref (g.2.1 1), if f 1 = 0 then .null else .ref (g.2.1 53), if f 2 = 0 then .null else .ref (g.2.1 66), .int (f 3), .int (f 4), .int (f 5)]),
  fun g f h => .inr (2, [if f 0 = 0 then .null else .ref (g.2.1 54), if f 1 = 0 then .null else .ref (g.2.1 56), if f 2 = 0 then .null else .ref (g.2.1 58), if f 3 = 0 then .null else .ref (g.2.1 60), if f 4 = 0 then .null else .ref (g.2.1 62), if f 5 = 0 then .null else .ref (g.2.1 64), .long (h 6), .long (h 7)]),
  fun g f h => .inr (7, [if f 0 = 0 then .null else .ref (g.2.1 55)]),
  fun g f h => .inl (g.2.2.2.1, 9, .inr (.inl h)),
  fun g f h => .inr (7, [if f 0 = 0 then .null else .ref (g.2.1 57)]),
  fun g f h => .inl (g.2.2.2.1, 18, .inr (.inl h)),
  fun g f h => .inr (7, [if f 0 = 0 then .null else .ref (g.2.1 59)]),
  fun g f h => .inl (g.2.2.2.1, 18, .inr (.inl h)),
  fun g f h => .inr (7, [if f 0 = 0 then .null else .ref (g.2.1 61)]),
  fun g f h => .inl (g.2.2.2.1, 9, .inr (.inl h)),
  fun g f h => .inr (7, [if f 0 = 0 then .null else .ref (g.2.1 63)]),
  fun g f h => .inl (g.2.2.2.1, 9, .inr (.inl h)),
  fun g f h => .inr (7, [if f 0 = 0 then .null else .ref (g.2.1 65)]),
  fun g f h => .inl (g.2.2.2.1, 9, .inr (.inl h)),
  fun g f h => .inr (7, [if f 0 = 0 then .null else .ref (g.2.1 67)]),
  fun g f h => .inl (g.2.2.2.1, 3, .inr (.inl h)),
  fun g f h => .inr (4, [if f 0 = 0 then .null else .ref (g.2.1 1), if f 1 = 0 then .null else .ref (g.2.1 69), if f 2 = 0 then .null else .ref (g.2.1 71), .long (h 3), .long (h 4), .int (f 5), if f 6 = 0 then .null else .ref (g.2.1 73), if f 7 = 0 then .null else .ref (g.2.1 75), if f 8 = 0 then .null else .ref (g.2.1 77)]),
  fun g f h => .inr (7, [if f 0 = 0 then .null else .ref (g.2.1 70)]),
  fun g f h => .inl (g.2.2.2.1, 9, .inr (.inl h)),
  fun g f h => .inr (7, [if f 0 = 0 then .null else .ref (g.2.1 72)]),
  fun g f h => .inl (g.2.2.2.1, 3, .inr (.inl h)),
  fun g f h => .inr (7, [if f 0 = 0 then .null else .ref (g.2.1 74)]),
  fun g f h => .inl (g.2.2.2.1, 9, .inr (.inl h)),
  fun g f h => .inr (7, [if f 0 = 0 then .null else .ref (g.2.1 76)]),
  fun g f h => .inl (g.2.2.2.1, 9, .inr (.inl h)),
  fun g f h => .inr (7, [if f 0 = 0 then .null else .ref (g.2.1 78)]),
  fun g f h => .inl (g.2.2.2.1, 10, .inr (.inl h)),
  fun g f h => .inr (9, [if f 0 = 0 then .null else .ref (g.2.1 1), .int (f 1), .int (f 2), .int (f 3), .int (f 4), .int (f 5)]),
  fun g f h => .inr (3, [if f 0 = 0 then .null else .ref (g.2.1 1), if f 1 = 0 then .null else .ref (g.2.1 79), if f 2 = 0 then .null else .ref (g.2.1 81), if f 3 = 0 then .null else .ref (g.2.1 83), if f 4 = 0 then .null else .ref (g.2.1 85), if f 5 = 0 then .null else .ref (g.2.1 87), if f 6 = 0 then .null else .ref (g.2.1 89)]),
  fun g f h => .inr (7, [if f 0 = 0 then .null else .ref (g.2.1 82)]),
  fun g f h => .inl (g.2.2.2.1, 8, .inr (.inl h)),
  fun g f h => .inr (7, [if f 0 = 0 then .null else .ref (g.2.1 84)]),
  fun g f h => .inl (g.2.2.2.1, 64, .inr (.inl h)),
  fun g f h => .inr (7, [if f 0 = 0 then .null else .ref (g.2.1 86)]),
  fun g f h => .inl (g.2.2.2.1, 8, .inr (.inl h)),
  fun g f h => .inr (7, [if f 0 = 0 then .null else .ref (g.2.1 88)]),
  fun g f h => .inl (g.2.2.2.1, 8, .inr (.inl h)),
  fun g f h => .inr (7, [if f 0 = 0 then .null else .ref (g.2.1 90)]),
  fun g f h => .inl (g.2.2.2.1, 8, .inr (.inl h)),
  fun g f h => .inr (1, [if f 0 = 0 then .null else .ref (g.2.1 1), if f 1 = 0 then .null else .ref (g.2.1 92)]),
  fun g f h => .inr (5, [.long (h 0), .long (h 1)]),
  fun g f h => .inr (5, [.long (h 0), .long (h 1)]),
  fun g f h => .inr (12, [.int (f 0), if f 1 = 0 then .null else .ref (g.2.1 95), if f 2 = 0 then .null else .ref (g.2.1 96), .int (f 3), if f 4 = 0 then .null else .ref (g.2.1 97), .int (f 5), .int (f 6), .int (f 7), .int (f 8), .int (f 9), if f 10 = 0 then .null else .ref (g.2.1 98), if f 11 = 0 then .null else .ref (g.2.1 99), if f 12 = 0 then .null else .ref (g.2.1 100), if f 13 = 0 then .null else .ref (g.2.1 101), .int (f 14), .long (h 15), .long (h 16), if f 17 = 0 then .null else .ref (g.2.1 102), if f 18 = 0 then .null else .ref (g.2.1 103), .int (f 19), .int (f 20), if f 21 = 0 then .null else .ref (g.2.1 104), if f 22 = 0 then .null else .ref (g.2.1 105), if f 23 = 0 then .null else .ref (g.2.1 106), if f 24 = 0 then .null else .ref (g.2.1 107), if f 25 = 0 then .null else .ref (g.2.1 108), if f 26 = 0 then .null else .ref (g.2.1 109), if f 27 = 0 then .null else .ref (g.2.1 110), if f 28 = 0 then .null else .ref (g.2.1 111), if f 29 = 0 then .null else .ref (g.2.1 112), if f 30 = 0 then .null else .ref (g.2.1 113), if f 31 = 0 then .null else .ref (g.2.1 114), if f 32 = 0 then .null else .ref (g.2.1 115), if f 33 = 0 then .null else .ref (g.2.1 116), if f 34 = 0 then .null else .ref (g.2.1 117), .int (f 35), .int (f 36), .int (f 37), if f 38 = 0 then .null else .ref (g.2.1 118), if f 39 = 0 then .null else .ref (g.2.1 119), if f 40 = 0 then .null else .ref (g.2.1 120)]),
  fun g f h => .inl (g.2.2.1, 564, .inl f),
  fun g f h => .inl (g.2.2.1, 564, .inl f),
  fun g f h => .inl (g.2.2.2.2, 400, .inl f),
  fun g f h => .inl (g.2.2.1, 5, .inl f),
  fun g f h => .inl (g.2.2.1, 13, .inl f),
  fun g f h => .inl (g.2.2.1, 400, .inl f),
  fun g f h => .inl (g.2.2.1, 400, .inl f),
  fun g f h => .inl (g.2.2.1, 10, .inl f),
  fun g f h => .inl (g.2.2.1, 9, .inl f),
  fun g f h => .inl (g.2.2.2.1, 18, .inr (.inl h)),
  fun g f h => .inl (g.2.2.2.1, 18, .inr (.inl h)),
  fun g f h => .inl (g.2.2.2.1, 3, .inr (.inl h)),
  fun g f h => .inl (g.2.2.2.1, 3, .inr (.inl h)),
  fun g f h => .inl (g.2.2.1, 3, .inl f),
  fun g f h => .inl (g.2.2.1, 3, .inl f),
  fun g f h => .inl (g.2.2.2.1, 16, .inr (.inl h)),
  fun g f h => .inl (g.2.2.2.1, 16, .inr (.inl h)),
  fun g f h => .inl (g.2.2.2.1, 3, .inr (.inl h)),
  fun g f h => .inl (g.2.2.2.1, 3, .inr (.inl h)),
  fun g f h => .inl (g.2.2.1, 9, .inl f),
  fun g f h => .inl (g.2.2.1, 9, .inl f),
  fun g f h => .inl (g.2.2.1, 10, .inl f),
  fun g f h => .inl (g.2.2.1, 10, .inl f),
  fun g f h => .inl (g.2.2.1, 64, .inl f),
  fun g f h => .inl (g.2.2.2.1, 8, .inr (.inl h)),
  fun g f h => .inl (g.2.2.2.1, 8, .inr (.inl h)),
  fun g f h => .inl (g.2.2.2.1, 1, .inr (.inl h))]
def cellC (g : GB) (k : Nat) (M : Mem) : va_E := (shapesC.getD k (fun _ _ _ => .inr (0, []))) g (M.1 k) (M.2 k)
def worldC (g : GB) (n : Nat) (M : Mem) : va_W := (List.range n).map (fun k => (g.2.1 k, cellC g k M))
theorem worldC_get {g : GB} {M : Mem} {n k : Nat} (h : k < n) : (worldC g n M)[k]? = some (g.2.1 k, cellC g k M) := by
  unfold worldC
  rw [List.getElem?_map, List.getElem?_range h]
  rfl
theorem worldC_of {g : GB} {M : Mem} {n k : Nat} {q : Nat × va_E} (h : (worldC g n M)[k]? = some q) : k < n ∧ q = (g.2.1 k, cellC g k M) := by
  have hk : k < n := by
    rcases Nat.lt_or_ge k n with h1 | h1
    · exact h1
    · rw [List.getElem?_eq_none (by unfold worldC; rw [List.length_map, List.length_range]; exact h1)] at h
      cases h
  rw [worldC_get hk] at h
  exact ⟨hk, (Option.some.inj h).symm⟩
theorem worldC_set {g : GB} {M M' : Mem} {n k : Nat} (hk : k < n) (hne : ∀ j, j ≠ k → cellC g j M' = cellC g j M) {e : va_E} (he : cellC g k M' = e) : (worldC g n M).set k (g.2.1 k, e) = worldC g n M' := by
  apply List.ext_getElem?
  intro j
  rw [List.getElem?_set]
  by_cases hj : k = j
  · subst hj
    rw [if_pos rfl, worldC_get hk, he]
    have : k < (worldC g n M).length := by unfold worldC; rw [List.length_map, List.length_range]; exact hk
    rw [if_pos this]
  · rw [if_neg hj]
    rcases Nat.lt_or_ge j n with h | h
    · rw [worldC_get h, worldC_get h, hne j (fun q => hj q.symm)]
    · rw [List.getElem?_eq_none (by unfold worldC; rw [List.length_map, List.length_range]; exact h), List.getElem?_eq_none (by unfold worldC; rw [List.length_map, List.length_range]; exact h)]
theorem cellC_mSI {g : GB} {M : Mem} {k i : Nat} {v : Int32} : ∀ j, j ≠ k → cellC g j (mSI M k i v) = cellC g j M := by
  intro j hj
  unfold cellC mSI
  dsimp only
  rw [if_neg hj]
theorem cellC_mSL {g : GB} {M : Mem} {k i : Nat} {v : Int64} : ∀ j, j ≠ k → cellC g j (mSL M k i v) = cellC g j M := by
  intro j hj
  unfold cellC mSL
  dsimp only
  rw [if_neg hj]
def Lin (g : GB) : Prop := ∀ k, k < NC → g.2.1 k = g.2.1 0 + k
theorem Lin.inj {g : GB} (h : Lin g) : Inj g := fun i j hi hj e => by rw [h i hi, h j hj] at e; omega
def AC (g : GB) : Nat → Prop := fun q => g.2.1 0 ≤ q
theorem worldC_D {g : GB} {M : Mem} {n : Nat} (h : Lin g) (hn : n ≤ NC) : va_D (AC g) (worldC g n M) := by
  refine ⟨fun i j p q hi hj e => ?_, fun k q hk => ?_⟩
  · obtain ⟨a1, rfl⟩ := worldC_of hi
    obtain ⟨b1, rfl⟩ := worldC_of hj
    exact h.inj i j (Nat.lt_of_lt_of_le a1 hn) (Nat.lt_of_lt_of_le b1 hn) e
  · obtain ⟨a1, rfl⟩ := worldC_of hk
    show g.2.1 0 ≤ g.2.1 k
    rw [h k (Nat.lt_of_lt_of_le a1 hn)]
    omega
/-- nothing stands in the cells that aren't made yet -/
def Fr (n : Nat) (M : Mem) : Prop := ∀ k, n ≤ k → (∀ j, M.1 k j = 0) ∧ ∀ j, M.2 k j = 0
theorem Fr.mono {n m : Nat} {M : Mem} (h : Fr n M) (hn : n ≤ m) : Fr m M := fun k hk => h k (Nat.le_trans hn hk)
theorem Fr.sI {n k j : Nat} {M : Mem} {v : Int32} (h : Fr n M) (hk : k < n) : Fr n (mSI M k j v) := by
  intro i hi
  have hne : i ≠ k := by omega
  unfold mSI
  dsimp only
  rw [if_neg hne]
  exact h i hi
theorem Fr.sL {n k j : Nat} {M : Mem} {v : Int64} (h : Fr n M) (hk : k < n) : Fr n (mSL M k j v) := by
  intro i hi
  have hne : i ≠ k := by omega
  unfold mSL
  dsimp only
  rw [if_neg hne]
  exact h i hi
theorem Fr.z1 {n k : Nat} {M : Mem} (h : Fr n M) (hk : n ≤ k) : M.1 k = fun _ => 0 := funext (h k hk).1
theorem Fr.z2 {n k : Nat} {M : Mem} (h : Fr n M) (hk : n ≤ k) : M.2 k = fun _ => 0 := funext (h k hk).2
def NestL : List (String × Nat × MethodName × String) := [("KeptWell", 9, ⟨"KeptWell$Well", "<init>", "()V"⟩, "KeptWell"), ("KeptWell", 25, ⟨"KeptWell$Tape", "<init>", "()V"⟩, "KeptWell"), ("KeptWell$Pair", 11, ⟨"KeptWell$Chain", "<init>", "()V"⟩, "KeptWell"), ("KeptWell$Answer", 9, ⟨"KeptWell$Chain", "<init>", "()V"⟩, "KeptWell"), ("KeptWell$Bridge", 11, ⟨"KeptWell$Fraction", "<init>", "()V"⟩, "KeptWell"), ("KeptWell", 82, ⟨"KeptWell$Fraction", "<init>", "()V"⟩, "KeptWell")]
def nestW (q : String × Nat × MethodName × String) : Cond := .methodLinkNest q.1 q.2.1 q.2.2.1 q.2.2.2
def PicC (g : GB) (n : Nat) (M : Mem) (U : State) : Prop := U.heap.size = g.2.1 0 + n ∧ va_P g.1 vwCl (worldC g n M) U.heap ∧ va_K g.1 vwCl (tys g) U ∧ Lin g ∧ ∀ q ∈ NestL, va_Nw (nestW q) U
theorem PicC.blind {g : GB} {n : Nat} {M : Mem} {av : List Value} : FrameBlind (va_Pc av (PicC g n M)) := by
  intro a U f mk h
  obtain ⟨h0, h1, h2, h3, h4, h5⟩ := h
  exact ⟨h0, h1, h2, va_K.moved (u := U) (U := U.calling f mk a) (Vm.Alike.refl U.vm) h3, h4, fun q hq => va_Nw.same rfl (u := U) (U := U.calling f mk a) rfl (h5 q hq)⟩
def QnC (g : GB) (n : Nat) (M : Mem) : Array Value → State → Outcome → State → Prop := fun _ st oc t => oc = .returned none ∧ va_P g.1 vwCl (worldC g n M) t.heap ∧ va_F (AC g) st t
def CC (l : Launch) (g : GB) (y : MethodName) (ws : List Cond) (rm : Room) (av : List Value) (n : Nat) (M : Mem) (n' : Nat) (M' : Mem) : Prop := Met l y ws rm (va_Pc av (PicC g n M)) (QnC g n' M') rm.cells rm.slots (AC g)
def KC (p : Program) (s : State) (m : MethodId) (args : Array Value) (meth : Method) (c : Code) (g : GB) (cc : ByteArray) (nL : Nat) (own : String) (n0 : Nat) : Prop :=
  CallFix p m c cc nL s args wAll own ∧ (va_K g.1 vwCl (tys g) s ∧ Lin g ∧ s.heap.size = g.2.1 0 + n0) ∧ (∀ q ∈ NestL, va_Nw (nestW q) s) ∧ meth.locks = false
def GC (p : Program) (l : Launch) (e : Env) (R : Room) (s : State) (m : MethodId) (args : Array Value) (below : List Frame) (meth : Method) (c : Code) (g : GB) (nL : Nat) (Q : State → Prop) (cells slots pc : Nat) (lv : List (Nat × Value)) (st : List Value) (n : Nat) (M : Mem) : Prop :=
  ∀ (H : Heap) (locs : List Loc) (ls : Array Slot), va_P g.1 vwCl (worldC g n M) H → va_S (AC g) s.heap H locs → lv_has ls nL lv → W p l e R s m args below meth c H locs cells slots Q (F0 m pc ls st)
theorem mSI_1ne {M : Mem} {a j k : Nat} {v : Int32} (h : k ≠ a) : (mSI M a j v).1 k = M.1 k := if_neg h
theorem mSL_1k {M : Mem} {a j k : Nat} {v : Int64} : (mSL M a j v).1 k = M.1 k := rfl
theorem mSI_o {M : Mem} {k j a b : Nat} {v : Int32} (h : ¬ (a = k ∧ b = j)) : (mSI M k j v).1 a b = M.1 a b := by
  unfold mSI upd
  dsimp only
  by_cases h1 : a = k
  · subst h1
    rw [if_pos rfl, if_neg (fun q => h ⟨rfl, q⟩)]
  · rw [if_neg h1]
theorem mSI_h {M : Mem} {k j : Nat} {v : Int32} : (mSI M k j v).1 k j = v := by
  unfold mSI upd
  dsimp only
  rw [if_pos rfl, if_pos rfl]
section GC
variable {p : Program} {l : Launch} {e : Env} {R : Room} {s : State} {m : MethodId} {args : Array Value} {below : List Frame} {meth : Method} {c : Code} {g : GB} {nL : Nat} {Q : State → Prop} {cells slots n n0 : Nat}
variable {cc : ByteArray} {own : String} {pc pc' : Nat} {lv lv' : List (Nat × Value)} {rest : List Value} {M : Mem}
theorem GC_size {T : State} {H : Heap} {locs : List Loc} (K : KC p s m args meth c g cc nL own n0) (hn : n0 + cells = n) (hnc : n ≤ NC) (hP : va_P g.1 vwCl (worldC g n M) H) (hS : va_S (AC g) s.heap H locs) (hT : T.heap = H) (X : Stand p l e R s m args below meth c T locs cells slots) : H.size = g.2.1 0 + n := by
  have h1 := X.heapSize
  rw [hT, K.2.1.2.2] at h1
  have h2 := hS.1
  rw [K.2.1.2.2] at h2
  rcases Nat.eq_zero_or_pos cells with h0 | h0
  · omega
  · have h3 := (hP (n - 1) _ (worldC_get (by omega))).lt
    dsimp only at h3
    rw [K.2.1.2.1 (n - 1) (by omega)] at h3
    omega
theorem GC_iconst {i : Int} {v : Int32} (hv : Int32.ofInt i = v) (K : KC p s m args meth c g cc nL own n0) (d : dc cc pc pc' (.iconst i) 1) (k : GC p l e R s m args below meth c g nL Q cells slots pc' lv (.int v :: rest) n M) : GC p l e R s m args below meth c g nL Q cells slots pc lv (rest) n M := by
  obtain ⟨d, rfl⟩ := d
  exact fun H locs ls hP hS hl => lv_iconst K.1.1 K.1.2.1 d hv (k H locs ls hP hS hl)
theorem GC_bipush {i : Int} {v : Int32} (hv : (Int8.ofInt i).toInt32 = v) (K : KC p s m args meth c g cc nL own n0) (d : dc cc pc pc' (.bipush i) 2) (k : GC p l e R s m args below meth c g nL Q cells slots pc' lv (.int v :: rest) n M) : GC p l e R s m args below meth c g nL Q cells slots pc lv (rest) n M := by
  obtain ⟨d, rfl⟩ := d
  exact fun H locs ls hP hS hl => lv_bipush K.1.1 K.1.2.1 d hv (k H locs ls hP hS hl)
theorem GC_sipush {i : Int} {v : Int32} (hv : (Int16.ofInt i).toInt32 = v) (K : KC p s m args meth c g cc nL own n0) (d : dc cc pc pc' (.sipush i) 3) (k : GC p l e R s m args below meth c g nL Q cells slots pc' lv (.int v :: rest) n M) : GC p l e R s m args below meth c g nL Q cells slots pc lv (rest) n M := by
  obtain ⟨d, rfl⟩ := d
  exact fun H locs ls hP hS hl => lv_sipush K.1.1 K.1.2.1 d hv (k H locs ls hP hS hl)
theorem GC_lconst {i : Fin 2} {v : Int64} (hv : Int64.ofNat (i : Nat) = v) (K : KC p s m args meth c g cc nL own n0) (d : dc cc pc pc' (.lconst i) 1) (k : GC p l e R s m args below meth c g nL Q cells slots pc' lv (.long v :: rest) n M) : GC p l e R s m args below meth c g nL Q cells slots pc lv (rest) n M := by
  obtain ⟨d, rfl⟩ := d
  exact fun H locs ls hP hS hl => lv_lconst K.1.1 K.1.2.1 d hv (k H locs ls hP hS hl)
theorem GC_iload_n {k9 : Fin 4} {i : Nat} {x : Int32} (hi : (k9 : Nat) = i) (q : Nat) (hq : lv[q]? = some (i, .int x)) (K : KC p s m args meth c g cc nL own n0) (d : dc cc pc pc' (.iload_n k9) 1) (k : GC p l e R s m args below meth c g nL Q cells slots pc' lv (.int x :: rest) n M) : GC p l e R s m args below meth c g nL Q cells slots pc lv (rest) n M := by
  obtain ⟨d, rfl⟩ := d
  exact fun H locs ls hP hS hl => lv_iload_n K.1.1 K.1.2.1 d hi (lv_at hl q hq) (k H locs ls hP hS hl)
theorem GC_aload_n {k9 : Fin 4} {i : Nat} {x : Nat} (hi : (k9 : Nat) = i) (q : Nat) (hq : lv[q]? = some (i, .ref x)) (K : KC p s m args meth c g cc nL own n0) (d : dc cc pc pc' (.aload_n k9) 1) (k : GC p l e R s m args below meth c g nL Q cells slots pc' lv (.ref x :: rest) n M) : GC p l e R s m args below meth c g nL Q cells slots pc lv (rest) n M := by
  obtain ⟨d, rfl⟩ := d
  exact fun H locs ls hP hS hl => lv_aload_n K.1.1 K.1.2.1 d hi (lv_at hl q hq) (k H locs ls hP hS hl)
theorem GC_dup {v : Value} (hv : v.category = 1) (K : KC p s m args meth c g cc nL own n0) (d : dc cc pc pc' .dup 1) (k : GC p l e R s m args below meth c g nL Q cells slots pc' lv (v :: v :: rest) n M) : GC p l e R s m args below meth c g nL Q cells slots pc lv (v :: rest) n M := by
  obtain ⟨d, rfl⟩ := d
  exact fun H locs ls hP hS hl => lv_dup K.1.1 K.1.2.1 d hv (k H locs ls hP hS hl)
theorem GC_ldc2 {index : Nat} {v : Int64} (K : KC p s m args meth c g cc nL own n0) (d : dc cc pc pc' (.ldc2_w index) 3) (hw : Cond.constantLong own index v ∈ wAll) (k : GC p l e R s m args below meth c g nL Q cells slots pc' lv (.long v :: rest) n M) : GC p l e R s m args below meth c g nL Q cells slots pc lv (rest) n M := by
  obtain ⟨d, rfl⟩ := d
  exact fun H locs ls hP hS hl => lv_ldc2 K.1.1 K.1.2.1 K.1.2.2.2.1 (K.1.2.2.2.2 _ hw) d (k H locs ls hP hS hl)
theorem GC_wide {k2 n2 : Nat} (h1 : cells ≤ k2) (h2 : slots ≤ n2) (kk : GC p l e R s m args below meth c g nL Q k2 n2 pc lv (rest) n M) : GC p l e R s m args below meth c g nL Q cells slots pc lv (rest) n M :=
  fun H locs ls hP hS hl => W.widen h1 h2 (kk H locs ls hP hS hl)
theorem GC_objInit {idx : Nat} {a : Addr} (K : KC p s m args meth c g cc nL own n0) (d : dc cc pc pc' (.invokespecial idx) 3) (hl : Cond.methodLink own idx Lib.objectInit ∈ wAll) (hi : Cond.instanceMethod Lib.objectInit ∈ wAll) (hc : Cond.code Lib.objectInit ⟨#[0xb1]⟩ 1 none ∈ wAll) (hf : 1 ≤ R.frames) (hlo : (rest.map fun v => v.category).sum + 12 ≤ R.locals) (k : GC p l e R s m args below meth c g nL Q cells slots pc' lv (rest) n M) : GC p l e R s m args below meth c g nL Q cells slots pc lv (.ref a :: rest) n M := by
  obtain ⟨d, rfl⟩ := d
  exact fun H locs ls hP hS hl2 => W.objInit K.1.1 K.1.2.1 K.1.2.2.2.1 (K.1.2.2.2.2 _ hl) (K.1.2.2.2.2 _ hi) (K.1.2.2.2.2 _ hc) rfl (by rw [K.1.2.2.1]; exact hl2.1) rfl d hf (by show 2 * 0 + _ + 12 ≤ _; omega) (k H locs ls hP hS hl2)
theorem GC_max {idx : Nat} {x y v : Int32} (hv : (if x < y then y else x) = v) (K : KC p s m args meth c g cc nL own n0) (d : dc cc pc pc' (.invokestatic idx) 3) (hl : Cond.methodLink own idx Lib.Math.max.name ∈ wAll) (hst : Cond.static Lib.Math.max.name ∈ wAll) (hi : Cond.initialized "java/lang/Math" ∈ wAll) (hc : Cond.code Lib.Math.max.name Lib.Math.max.code 2 (some .int) ∈ wAll) (hf : 1 ≤ R.frames) (hlo : (rest.map fun v => v.category).sum + 13 ≤ R.locals) (hcs : cells ≤ R.cells ∧ slots ≤ R.slots) (k : GC p l e R s m args below meth c g nL Q cells slots pc' lv (.int v :: rest) n M) : GC p l e R s m args below meth c g nL Q cells slots pc lv (.int y :: .int x :: rest) n M := by
  obtain ⟨d, rfl⟩ := d
  subst hv
  exact fun H locs ls hP hS hl2 => va_mmax K.1.1 K.1.2.1 (by rw [K.1.2.2.1]; exact hl2.1.symm) K.1.2.2.2.1 (K.1.2.2.2.2 _ hl) (K.1.2.2.2.2 _ hst) (K.1.2.2.2.2 _ hi) (K.1.2.2.2.2 _ hc) hf hlo hcs.1 hcs.2 d (k H locs ls hP hS hl2)
theorem GC_new {C : String} {T : u_T} {N ci index : Nat} {fs : List Value} (ty : Nat → FieldType) (hty : ∀ k, k < N → parseFieldDescriptor (T k).2.2.1 = some (ty k)) (K : KC p s m args meth c g cc nL own n0) (hc : vwCl[ci]? = some (C, T, N)) (hin : ∀ w ∈ u_ws C T N, w ∈ wAll) (hcl : Cond.classLink own index C ∈ wAll) (hinst : Cond.instantiable C N ∈ wAll) (hini : Cond.initialized C ∈ wAll) (d : dc cc pc pc' (.new index) 3) (hn0 : n0 + cells = n) (hn : n < NC) (hcell : cellC g n M = .inr (ci, fs)) (hfs : ∀ j, j < N → defaultValue (ty j) = vp_V fs j) (hcs : cells + 1 ≤ R.cells ∧ slots + N ≤ R.slots) (k : GC p l e R s m args below meth c g nL Q (cells + 1) (slots + N) pc' lv (.ref (g.2.1 n) :: rest) (n + 1) M) : GC p l e R s m args below meth c g nL Q cells slots pc lv (rest) n M := by
  obtain ⟨d, rfl⟩ := d
  intro H locs ls hP hS hl T9 hT9 X9
  have hz := GC_size K hn0 (Nat.le_of_lt hn) hP hS hT9 X9
  have hsz : H.size = g.2.1 n := by rw [hz, K.2.1.2.1 n hn]
  have hW : W p l e R s m args below meth c H locs cells slots Q (F0 m pc ls rest) := by
    refine W.newc K.1.1 K.1.2.1 K.1.2.2.2.1 (K.1.2.2.2.2 _ hcl) (K.1.2.2.2.2 _ hinst) (K.1.2.2.2.2 _ hini) rfl d hcs.1 hcs.2 (fun cC kC h1 h2 h3 h4 => ?_)
    have hKu := K.2.1.1.1 ci _ hc
    have hcc : g.1.1 ci = cC := Option.some.inj (hKu.2.1.symm.trans h1)
    have hsame : ∀ q : Nat, q < H.size → (H.push (blank cC kC))[q]? = H[q]? := fun q hq => by rw [Array.getElem?_push, if_neg (Nat.ne_of_lt hq)]
    have hnew : (H.push (blank cC kC))[g.2.1 n]? = some (blank cC kC) := by rw [← hsz]; simp
    have hob := u_born (T := T) (N := N) (o := g.2.1 n) (H := H.push (blank cC kC)) (kC := kC) ty K.1.2.2.2.2 hin hKu (by rw [hcc]; exact h2) (by rw [hcc]; exact hnew) hty
    have hP1 : va_P g.1 vwCl (worldC g (n + 1) M) (H.push (blank cC kC)) := by
      intro j q hj
      obtain ⟨hjn, rfl⟩ := worldC_of hj
      rcases Nat.lt_or_ge j n with hlt | hge
      · have hw := worldC_get (g := g) (M := M) hlt
        exact (hP j _ hw).kept (hsame _ (hP j _ hw).lt)
      · have hjn' : j = n := by omega
        subst hjn'
        rw [hcell]
        exact ⟨_, hc, t_OB.to hob (fun j hj => hfs j hj)⟩
    rw [hsz]
    exact k _ _ ls hP1 ⟨by rw [Array.size_push]; exact Nat.le_succ_of_le hS.1, fun q h1 h2 => (hsame q (Nat.lt_of_lt_of_le h1 hS.1)).trans (hS.2.1 q h1 h2), hS.2.2⟩ hl
  exact hW T9 hT9 X9
theorem GC_newa_int {i : Int32} {N : Nat} (K : KC p s m args meth c g cc nL own n0) (d : dc cc pc pc' (.newarray .int) 2) (harr : Cond.arrayClass .int ∈ wAll) (hi0 : ¬ i < 0) (hN : i.toNatClampNeg = N) (hb : N * componentBytes .int ≤ 536870912) (hn0 : n0 + cells = n) (hn : n < NC) (hcell : cellC g n M = .inl (g.2.2.1, N, .inl (fun _ => 0))) (hcs : cells + 1 ≤ R.cells ∧ slots + N ≤ R.slots) (k : GC p l e R s m args below meth c g nL Q (cells + 1) (slots + N) pc' lv (.ref (g.2.1 n) :: rest) (n + 1) M) : GC p l e R s m args below meth c g nL Q cells slots pc lv (.int i :: rest) n M := by
  obtain ⟨d, rfl⟩ := d
  intro H locs ls hP hS hl T9 hT9 X9
  have hz := GC_size K hn0 (Nat.le_of_lt hn) hP hS hT9 X9
  have hsz : H.size = g.2.1 n := by rw [hz, K.2.1.2.1 n hn]
  have hW : W p l e R s m args below meth c H locs cells slots Q (F0 m pc ls (.int i :: rest)) := by
    refine va_newaK (atype := .int) K.1.1 K.1.2.1 (K.1.2.2.2.2 _ harr) rfl d rfl hi0 hN hb hcs.1 hcs.2 hsz (fun H1 cA e1 z1 o1 hAr hNm => ?_)
    have hRA := (K.2.1.1.2 0 _ rfl).2
    have hcc : g.2.2.1 = cA := Option.some.inj (hRA.symm.trans hNm)
    have hP1 : va_P g.1 vwCl (worldC g (n + 1) M) H1 := by
      intro j q hj
      obtain ⟨hjn, rfl⟩ := worldC_of hj
      rcases Nat.lt_or_ge j n with hlt | hge
      · have hw := worldC_get (g := g) (M := M) hlt
        exact (hP j _ hw).kept (o1 _ (by have h9 := (hP j _ hw).lt; omega))
      · have hjn' : j = n := by omega
        subst hjn'
        rw [hcell]
        show H1[g.2.1 j]? = some (vp_cell g.2.2.1 (N, .inl (fun _ => 0)))
        rw [e1, hcc]
        rfl
    exact k _ _ ls hP1 ⟨by rw [z1]; have := hS.1; omega, fun q h1 h2 => by rw [o1 q (by have := hS.1; omega)]; exact hS.2.1 q h1 h2, hS.2.2⟩ hl
  exact hW T9 hT9 X9
theorem GC_newa_byte {i : Int32} {N : Nat} (K : KC p s m args meth c g cc nL own n0) (d : dc cc pc pc' (.newarray .byte) 2) (harr : Cond.arrayClass .byte ∈ wAll) (hi0 : ¬ i < 0) (hN : i.toNatClampNeg = N) (hb : N * componentBytes .byte ≤ 536870912) (hn0 : n0 + cells = n) (hn : n < NC) (hcell : cellC g n M = .inl (g.2.2.2.2, N, .inl (fun _ => 0))) (hcs : cells + 1 ≤ R.cells ∧ slots + N ≤ R.slots) (k : GC p l e R s m args below meth c g nL Q (cells + 1) (slots + N) pc' lv (.ref (g.2.1 n) :: rest) (n + 1) M) : GC p l e R s m args below meth c g nL Q cells slots pc lv (.int i :: rest) n M := by
  obtain ⟨d, rfl⟩ := d
  intro H locs ls hP hS hl T9 hT9 X9
  have hz := GC_size K hn0 (Nat.le_of_lt hn) hP hS hT9 X9
  have hsz : H.size = g.2.1 n := by rw [hz, K.2.1.2.1 n hn]
  have hW : W p l e R s m args below meth c H locs cells slots Q (F0 m pc ls (.int i :: rest)) := by
    refine va_newaK (atype := .byte) K.1.1 K.1.2.1 (K.1.2.2.2.2 _ harr) rfl d rfl hi0 hN hb hcs.1 hcs.2 hsz (fun H1 cA e1 z1 o1 hAr hNm => ?_)
    have hRA := (K.2.1.1.2 2 _ rfl).2
    have hcc : g.2.2.2.2 = cA := Option.some.inj (hRA.symm.trans hNm)
    have hP1 : va_P g.1 vwCl (worldC g (n + 1) M) H1 := by
      intro j q hj
      obtain ⟨hjn, rfl⟩ := worldC_of hj
      rcases Nat.lt_or_ge j n with hlt | hge
      · have hw := worldC_get (g := g) (M := M) hlt
        exact (hP j _ hw).kept (o1 _ (by have h9 := (hP j _ hw).lt; omega))
      · have hjn' : j = n := by omega
        subst hjn'
        rw [hcell]
        show H1[g.2.1 j]? = some (vp_cell g.2.2.2.2 (N, .inl (fun _ => 0)))
        rw [e1, hcc]
        rfl
    exact k _ _ ls hP1 ⟨by rw [z1]; have := hS.1; omega, fun q h1 h2 => by rw [o1 q (by have := hS.1; omega)]; exact hS.2.1 q h1 h2, hS.2.2⟩ hl
  exact hW T9 hT9 X9
theorem GC_newa_long {i : Int32} {N : Nat} (K : KC p s m args meth c g cc nL own n0) (d : dc cc pc pc' (.newarray .long) 2) (harr : Cond.arrayClass .long ∈ wAll) (hi0 : ¬ i < 0) (hN : i.toNatClampNeg = N) (hb : N * componentBytes .long ≤ 536870912) (hn0 : n0 + cells = n) (hn : n < NC) (hcell : cellC g n M = .inl (g.2.2.2.1, N, .inr (.inl (fun _ => 0)))) (hcs : cells + 1 ≤ R.cells ∧ slots + N ≤ R.slots) (k : GC p l e R s m args below meth c g nL Q (cells + 1) (slots + N) pc' lv (.ref (g.2.1 n) :: rest) (n + 1) M) : GC p l e R s m args below meth c g nL Q cells slots pc lv (.int i :: rest) n M := by
  obtain ⟨d, rfl⟩ := d
  intro H locs ls hP hS hl T9 hT9 X9
  have hz := GC_size K hn0 (Nat.le_of_lt hn) hP hS hT9 X9
  have hsz : H.size = g.2.1 n := by rw [hz, K.2.1.2.1 n hn]
  have hW : W p l e R s m args below meth c H locs cells slots Q (F0 m pc ls (.int i :: rest)) := by
    refine va_newaK (atype := .long) K.1.1 K.1.2.1 (K.1.2.2.2.2 _ harr) rfl d rfl hi0 hN hb hcs.1 hcs.2 hsz (fun H1 cA e1 z1 o1 hAr hNm => ?_)
    have hRA := (K.2.1.1.2 1 _ rfl).2
    have hcc : g.2.2.2.1 = cA := Option.some.inj (hRA.symm.trans hNm)
    have hP1 : va_P g.1 vwCl (worldC g (n + 1) M) H1 := by
      intro j q hj
      obtain ⟨hjn, rfl⟩ := worldC_of hj
      rcases Nat.lt_or_ge j n with hlt | hge
      · have hw := worldC_get (g := g) (M := M) hlt
        exact (hP j _ hw).kept (o1 _ (by have h9 := (hP j _ hw).lt; omega))
      · have hjn' : j = n := by omega
        subst hjn'
        rw [hcell]
        show H1[g.2.1 j]? = some (vp_cell g.2.2.2.1 (N, .inr (.inl (fun _ => 0))))
        rw [e1, hcc]
        rfl
    exact k _ _ ls hP1 ⟨by rw [z1]; have := hS.1; omega, fun q h1 h2 => by rw [o1 q (by have := hS.1; omega)]; exact hS.2.1 q h1 h2, hS.2.2⟩ hl
  exact hW T9 hT9 X9
theorem GC_putI {C : String} {T : u_T} {N ci index i k : Nat} {v : Int32} {fs fs' : List Value} {ty : FieldType} (K : KC p s m args meth c g cc nL own n0) (hc : vwCl[ci]? = some (C, T, N)) (hin : ∀ w ∈ u_ws C T N, w ∈ wAll) (ty0 : Nat → FieldType) (hty : ∀ k, k < N → parseFieldDescriptor (T k).2.2.1 = some (ty0 k)) (hnm : ∀ a, a < N → ∀ b, b < N → a ≠ b → (T a).2.1 ≠ (T b).2.1) (hlink : Cond.fieldLink own index C (T k).2.1 (T k).2.2.1 ∈ wAll) (hT : (T k).1 = C) (hfin : (T k).2.2.2 = false) (hd : parseFieldDescriptor (T k).2.2.1 = some ty) (hn2 : narrow ty (.int v) = .int v) (hfit : fits ty (.int v) = true) (d : dc cc pc pc' (.putfield index) 3) (hi : i < n) (hnc : n ≤ NC) (hcell : cellC g i M = .inr (ci, fs)) (hcell' : cellC g i (mSI M i k v) = .inr (ci, fs')) (hk : k < N) (hk2 : k < fs.length) (hset : fs.set k (.int v) = fs') (kk : GC p l e R s m args below meth c g nL Q cells slots pc' lv (rest) n (mSI M i k v)) : GC p l e R s m args below meth c g nL Q cells slots pc lv (.int v :: .ref (g.2.1 i) :: rest) n M := by
  obtain ⟨d, rfl⟩ := d
  intro H locs ls hP hS hl
  refine va_put K.1.1 K.1.2.1 K.1.2.2.2.2 hin ty0 hty hnm K.1.2.2.2.1 K.2.1.1 hP (worldC_D K.2.1.2.1 hnc) hS i ((worldC_get hi).trans (by rw [hcell])) hc k hk (K.1.2.2.2.2 _ hlink) (fun x hx => by rw [hT] at hx; exact hx) hfin hd hn2 hfit hk2 d (fun H1 locs1 hP1 hD1 hS1 => ?_)
  rw [hset, worldC_set hi (M' := (mSI M i k v)) cellC_mSI hcell'] at hP1
  exact kk H1 locs1 ls hP1 hS1 hl
theorem GC_putL {C : String} {T : u_T} {N ci index i k : Nat} {v : Int64} {fs fs' : List Value} {ty : FieldType} (K : KC p s m args meth c g cc nL own n0) (hc : vwCl[ci]? = some (C, T, N)) (hin : ∀ w ∈ u_ws C T N, w ∈ wAll) (ty0 : Nat → FieldType) (hty : ∀ k, k < N → parseFieldDescriptor (T k).2.2.1 = some (ty0 k)) (hnm : ∀ a, a < N → ∀ b, b < N → a ≠ b → (T a).2.1 ≠ (T b).2.1) (hlink : Cond.fieldLink own index C (T k).2.1 (T k).2.2.1 ∈ wAll) (hT : (T k).1 = C) (hfin : (T k).2.2.2 = false) (hd : parseFieldDescriptor (T k).2.2.1 = some ty) (hn2 : narrow ty (.long v) = .long v) (hfit : fits ty (.long v) = true) (d : dc cc pc pc' (.putfield index) 3) (hi : i < n) (hnc : n ≤ NC) (hcell : cellC g i M = .inr (ci, fs)) (hcell' : cellC g i (mSL M i k v) = .inr (ci, fs')) (hk : k < N) (hk2 : k < fs.length) (hset : fs.set k (.long v) = fs') (kk : GC p l e R s m args below meth c g nL Q cells slots pc' lv (rest) n (mSL M i k v)) : GC p l e R s m args below meth c g nL Q cells slots pc lv (.long v :: .ref (g.2.1 i) :: rest) n M := by
  obtain ⟨d, rfl⟩ := d
  intro H locs ls hP hS hl
  refine va_put K.1.1 K.1.2.1 K.1.2.2.2.2 hin ty0 hty hnm K.1.2.2.2.1 K.2.1.1 hP (worldC_D K.2.1.2.1 hnc) hS i ((worldC_get hi).trans (by rw [hcell])) hc k hk (K.1.2.2.2.2 _ hlink) (fun x hx => by rw [hT] at hx; exact hx) hfin hd hn2 hfit hk2 d (fun H1 locs1 hP1 hD1 hS1 => ?_)
  rw [hset, worldC_set hi (M' := (mSL M i k v)) cellC_mSL hcell'] at hP1
  exact kk H1 locs1 ls hP1 hS1 hl
theorem GC_putR {C : String} {T : u_T} {N ci index i k : Nat} {v : Nat} {fs fs' : List Value} {ty : FieldType} (K : KC p s m args meth c g cc nL own n0) (hc : vwCl[ci]? = some (C, T, N)) (hin : ∀ w ∈ u_ws C T N, w ∈ wAll) (ty0 : Nat → FieldType) (hty : ∀ k, k < N → parseFieldDescriptor (T k).2.2.1 = some (ty0 k)) (hnm : ∀ a, a < N → ∀ b, b < N → a ≠ b → (T a).2.1 ≠ (T b).2.1) (hlink : Cond.fieldLink own index C (T k).2.1 (T k).2.2.1 ∈ wAll) (hT : (T k).1 = C) (hfin : (T k).2.2.2 = false) (hd : parseFieldDescriptor (T k).2.2.1 = some ty) (hn2 : narrow ty (.ref v) = .ref v) (hfit : fits ty (.ref v) = true) (d : dc cc pc pc' (.putfield index) 3) (hi : i < n) (hnc : n ≤ NC) (hcell : cellC g i M = .inr (ci, fs)) (hcell' : cellC g i (mSI M i k 1) = .inr (ci, fs')) (hk : k < N) (hk2 : k < fs.length) (hset : fs.set k (.ref v) = fs') (kk : GC p l e R s m args below meth c g nL Q cells slots pc' lv (rest) n (mSI M i k 1)) : GC p l e R s m args below meth c g nL Q cells slots pc lv (.ref v :: .ref (g.2.1 i) :: rest) n M := by
  obtain ⟨d, rfl⟩ := d
  intro H locs ls hP hS hl
  refine va_put K.1.1 K.1.2.1 K.1.2.2.2.2 hin ty0 hty hnm K.1.2.2.2.1 K.2.1.1 hP (worldC_D K.2.1.2.1 hnc) hS i ((worldC_get hi).trans (by rw [hcell])) hc k hk (K.1.2.2.2.2 _ hlink) (fun x hx => by rw [hT] at hx; exact hx) hfin hd hn2 hfit hk2 d (fun H1 locs1 hP1 hD1 hS1 => ?_)
  rw [hset, worldC_set hi (M' := (mSI M i k 1)) cellC_mSI hcell'] at hP1
  exact kk H1 locs1 ls hP1 hS1 hl
theorem GC_putFI {C : String} {T : u_T} {N ci index i k : Nat} {v : Int32} {fs fs' : List Value} {ty : FieldType} (K : KC p s m args meth c g cc nL own n0) (hc : vwCl[ci]? = some (C, T, N)) (hin : ∀ w ∈ u_ws C T N, w ∈ wAll) (ty0 : Nat → FieldType) (hty : ∀ k, k < N → parseFieldDescriptor (T k).2.2.1 = some (ty0 k)) (hnm : ∀ a, a < N → ∀ b, b < N → a ≠ b → (T a).2.1 ≠ (T b).2.1) (hlink : Cond.fieldLink own index C (T k).2.1 (T k).2.2.1 ∈ wAll) (hT : (T k).1 = C) (hfin : (T k).2.2.2 = true) (hin2 : meth.name = "<init>") (hdecl : (T k).1 = own) (hd : parseFieldDescriptor (T k).2.2.1 = some ty) (hn2 : narrow ty (.int v) = .int v) (hfit : fits ty (.int v) = true) (d : dc cc pc pc' (.putfield index) 3) (hi : i < n) (hnc : n ≤ NC) (hcell : cellC g i M = .inr (ci, fs)) (hcell' : cellC g i (mSI M i k v) = .inr (ci, fs')) (hk : k < N) (hk2 : k < fs.length) (hset : fs.set k (.int v) = fs') (kk : GC p l e R s m args below meth c g nL Q cells slots pc' lv (rest) n (mSI M i k v)) : GC p l e R s m args below meth c g nL Q cells slots pc lv (.int v :: .ref (g.2.1 i) :: rest) n M := by
  obtain ⟨d, rfl⟩ := d
  intro H locs ls hP hS hl
  refine va_putF K.1.1 K.1.2.1 K.1.2.2.2.2 hin ty0 hty hnm K.1.2.2.2.1 K.2.1.1 hP (worldC_D K.2.1.2.1 hnc) hS i ((worldC_get hi).trans (by rw [hcell])) hc k hk (K.1.2.2.2.2 _ hlink) (fun x hx => by rw [hT] at hx; exact hx) hfin hin2 hdecl hd hn2 hfit hk2 d (fun H1 locs1 hP1 hD1 hS1 => ?_)
  rw [hset, worldC_set hi (M' := (mSI M i k v)) cellC_mSI hcell'] at hP1
  exact kk H1 locs1 ls hP1 hS1 hl
theorem GC_putFL {C : String} {T : u_T} {N ci index i k : Nat} {v : Int64} {fs fs' : List Value} {ty : FieldType} (K : KC p s m args meth c g cc nL own n0) (hc : vwCl[ci]? = some (C, T, N)) (hin : ∀ w ∈ u_ws C T N, w ∈ wAll) (ty0 : Nat → FieldType) (hty : ∀ k, k < N → parseFieldDescriptor (T k).2.2.1 = some (ty0 k)) (hnm : ∀ a, a < N → ∀ b, b < N → a ≠ b → (T a).2.1 ≠ (T b).2.1) (hlink : Cond.fieldLink own index C (T k).2.1 (T k).2.2.1 ∈ wAll) (hT : (T k).1 = C) (hfin : (T k).2.2.2 = true) (hin2 : meth.name = "<init>") (hdecl : (T k).1 = own) (hd : parseFieldDescriptor (T k).2.2.1 = some ty) (hn2 : narrow ty (.long v) = .long v) (hfit : fits ty (.long v) = true) (d : dc cc pc pc' (.putfield index) 3) (hi : i < n) (hnc : n ≤ NC) (hcell : cellC g i M = .inr (ci, fs)) (hcell' : cellC g i (mSL M i k v) = .inr (ci, fs')) (hk : k < N) (hk2 : k < fs.length) (hset : fs.set k (.long v) = fs') (kk : GC p l e R s m args below meth c g nL Q cells slots pc' lv (rest) n (mSL M i k v)) : GC p l e R s m args below meth c g nL Q cells slots pc lv (.long v :: .ref (g.2.1 i) :: rest) n M := by
  obtain ⟨d, rfl⟩ := d
  intro H locs ls hP hS hl
  refine va_putF K.1.1 K.1.2.1 K.1.2.2.2.2 hin ty0 hty hnm K.1.2.2.2.1 K.2.1.1 hP (worldC_D K.2.1.2.1 hnc) hS i ((worldC_get hi).trans (by rw [hcell])) hc k hk (K.1.2.2.2.2 _ hlink) (fun x hx => by rw [hT] at hx; exact hx) hfin hin2 hdecl hd hn2 hfit hk2 d (fun H1 locs1 hP1 hD1 hS1 => ?_)
  rw [hset, worldC_set hi (M' := (mSL M i k v)) cellC_mSL hcell'] at hP1
  exact kk H1 locs1 ls hP1 hS1 hl
theorem GC_putFR {C : String} {T : u_T} {N ci index i k : Nat} {v : Nat} {fs fs' : List Value} {ty : FieldType} (K : KC p s m args meth c g cc nL own n0) (hc : vwCl[ci]? = some (C, T, N)) (hin : ∀ w ∈ u_ws C T N, w ∈ wAll) (ty0 : Nat → FieldType) (hty : ∀ k, k < N → parseFieldDescriptor (T k).2.2.1 = some (ty0 k)) (hnm : ∀ a, a < N → ∀ b, b < N → a ≠ b → (T a).2.1 ≠ (T b).2.1) (hlink : Cond.fieldLink own index C (T k).2.1 (T k).2.2.1 ∈ wAll) (hT : (T k).1 = C) (hfin : (T k).2.2.2 = true) (hin2 : meth.name = "<init>") (hdecl : (T k).1 = own) (hd : parseFieldDescriptor (T k).2.2.1 = some ty) (hn2 : narrow ty (.ref v) = .ref v) (hfit : fits ty (.ref v) = true) (d : dc cc pc pc' (.putfield index) 3) (hi : i < n) (hnc : n ≤ NC) (hcell : cellC g i M = .inr (ci, fs)) (hcell' : cellC g i (mSI M i k 1) = .inr (ci, fs')) (hk : k < N) (hk2 : k < fs.length) (hset : fs.set k (.ref v) = fs') (kk : GC p l e R s m args below meth c g nL Q cells slots pc' lv (rest) n (mSI M i k 1)) : GC p l e R s m args below meth c g nL Q cells slots pc lv (.ref v :: .ref (g.2.1 i) :: rest) n M := by
  obtain ⟨d, rfl⟩ := d
  intro H locs ls hP hS hl
  refine va_putF K.1.1 K.1.2.1 K.1.2.2.2.2 hin ty0 hty hnm K.1.2.2.2.1 K.2.1.1 hP (worldC_D K.2.1.2.1 hnc) hS i ((worldC_get hi).trans (by rw [hcell])) hc k hk (K.1.2.2.2.2 _ hlink) (fun x hx => by rw [hT] at hx; exact hx) hfin hin2 hdecl hd hn2 hfit hk2 d (fun H1 locs1 hP1 hD1 hS1 => ?_)
  rw [hset, worldC_set hi (M' := (mSI M i k 1)) cellC_mSI hcell'] at hP1
  exact kk H1 locs1 ls hP1 hS1 hl
theorem GC_get {C : String} {T : u_T} {N ci index i k : Nat} {v : Value} {fs : List Value} (K : KC p s m args meth c g cc nL own n0) (hc : vwCl[ci]? = some (C, T, N)) (hin : ∀ w ∈ u_ws C T N, w ∈ wAll) (hlink : Cond.fieldLink own index C (T k).2.1 (T k).2.2.1 ∈ wAll) (hT : (T k).1 = C) (d : dc cc pc pc' (.getfield index) 3) (hi : i < n) (hcell : cellC g i M = .inr (ci, fs)) (hk : k < N) (hv : fs[k]? = some v) (kk : GC p l e R s m args below meth c g nL Q cells slots pc' lv (v :: rest) n M) : GC p l e R s m args below meth c g nL Q cells slots pc lv (.ref (g.2.1 i) :: rest) n M := by
  obtain ⟨d, rfl⟩ := d
  exact fun H locs ls hP hS hl => va_get K.1.1 K.1.2.1 K.1.2.2.2.2 hin K.1.2.2.2.1 K.2.1.1 hP i ((worldC_get hi).trans (by rw [hcell])) hc k hk (K.1.2.2.2.2 _ hlink) (fun x hx => by rw [hT] at hx; exact hx) hv d (kk H locs ls hP hS hl)
theorem GC_iast {k N : Nat} {i : Int32} {x : Int32} (K : KC p s m args meth c g cc nL own n0) (d : dc cc pc pc' .iastore 1) (hk : k < n) (hnc : n ≤ NC) (hcell : ∀ M : Mem, cellC g k M = .inl (g.2.2.1, N, .inl (M.1 k))) (hin : vp_in i N) (kk : GC p l e R s m args below meth c g nL Q cells slots pc' lv (rest) n (mSI M k i.toNatClampNeg x)) : GC p l e R s m args below meth c g nL Q cells slots pc lv (.int x :: .int i :: .ref (g.2.1 k) :: rest) n M := by
  obtain ⟨d, rfl⟩ := d
  intro H locs ls hP hS hl
  refine va_iast K.1.1 K.1.2.1 K.2.1.1 hP (worldC_D K.2.1.2.1 hnc) hS k 0 ((worldC_get hk).trans (by rw [hcell])) rfl hin d (fun H1 locs1 hP1 hD1 hS1 => ?_)
  rw [worldC_set hk (M' := mSI M k i.toNatClampNeg x) cellC_mSI ((hcell _).trans (by unfold mSI; dsimp only; rw [if_pos rfl]))] at hP1
  exact kk H1 locs1 ls hP1 hS1 hl
theorem GC_vret {mc ms n' : Nat} {M' : Mem} (K : KC p s m args meth c g cc nL own n0) (hr : meth.sig.returnType = none) (d : dc cc pc pc' .return_ 1) (hc : cells ≤ mc) (hs : slots ≤ ms) (he : n' = n ∧ M' = M) : GC p l e R s m args below meth c g nL (MQ below (QnC g n' M') args s mc ms (AC g)) cells slots pc lv [] n M := by
  obtain ⟨rfl, rfl⟩ := he
  exact fun H locs ls hP hS hl => W.widen hc hs (W.vret K.1.1 K.1.2.1 hr (fun t ht hW => ⟨rfl, by rw [ht]; exact hP, hS.F ht⟩) hS.2.2 d.1 K.2.2.2)
theorem run_GC {y : MethodName} {rm : Room} {n' : Nat} {M' : Mem} {H : Heap} {locs : List Loc} {ls : Array Slot} {st : List Value} {a : Array Value} (hS : va_S (AC g) s.heap H locs) (hl : lv_has ls nL lv)
    (hr : va_Run p l e R s m args below meth c H locs cells slots rm.cells rm.slots (F0 m pc ls st) rest (QnC g n' M' a) (AC g))
    (kk : GC p l e R s m args below meth c g nL Q (cells + rm.cells) (slots + rm.slots) (pc + 3) lv rest n' M') : W p l e R s m args below meth c H locs cells slots Q (F0 m pc ls st) := by
  intro T hT X
  obtain ⟨v, st₀, t, T', L, h0, X', hL, e1, e2, ⟨hv, hP1, hF⟩, st1⟩ := hr T hT X
  have hvv := Outcome.returned.inj hv
  subst hvv
  obtain ⟨k1, k2, k3⟩ := vx_keep (A1 := AC g) (A0 := AC g) h0 e1 hS (fun q _ h => h) (fun q h => h) hL hF
  obtain ⟨t2, a1, b1⟩ := kk T'.heap (locs ++ L) ls (by rw [e1]; exact hP1) k3 hl T' rfl X'
  exact ⟨t2, st1 t2 a1, b1⟩
theorem PicC.of {H : Heap} {locs : List Loc} (K : KC p s m args meth c g cc nL own n0) (hz : H.size = g.2.1 0 + n) (hP : va_P g.1 vwCl (worldC g n M) H) {U : State} (hU : U.heap = H) (hW : s.WarmedH U.vm) : PicC g n M U := by
  subst hU
  exact ⟨hz, hP, va_K.moved hW.alike K.2.1.1, K.2.1.2.1, fun q hq => va_Nw.warmM hW (K.2.2.1 q hq)⟩
theorem GC_callI {q idx nl k : Nat} {y : MethodName} {b : ByteArray} {rm : Room} (As rest : List Value) {st : List Value} {n' : Nat} {M' : Mem} (K : KC p s m args meth c g cc nL own n0) (d : dc cc pc pc' (.invokespecial idx) 3) (hlk : Cond.methodLink own idx y ∈ wAll) (hin : Cond.instanceMethod y ∈ wAll) (hini : Cond.initialized y.cls ∈ wAll) (hcode : Cond.code y b nl none ∈ wAll) (hy : y.name = "<init>") (hd : ydN y k)
    (hR : rm.frames + 1 ≤ R.frames ∧ 8 + (nl + 11) + rm.locals ≤ R.locals) (hcs : cells + rm.cells ≤ R.cells ∧ slots + rm.slots ≤ R.slots) (hn0 : n0 + cells = n) (hnc : n ≤ NC) (hn : As.length = k) (hst : st = As.reverse ++ .ref q :: rest) (hW : (rest.map fun v => v.category).sum ≤ 8)
    (hC : CC l g y (.code y b nl none :: wAll) rm (.ref q :: As) n M n' M') (kk : GC p l e R s m args below meth c g nL Q (cells + rm.cells) (slots + rm.slots) pc' lv rest n' M') : GC p l e R s m args below meth c g nL Q cells slots pc lv (st) n M := by
  obtain ⟨d, rfl⟩ := d
  intro H locs ls hP hS hl T9 hT9 X9
  have hz := GC_size K hn0 hnc hP hS hT9 X9
  exact run_GC (y := y) (a := (Value.ref q :: As).toArray) hS hl (va_runI (Ts := wAll) K.1 hC (cwI (Ts := wAll) (ws' := wAll) k K.1.2.2.2.2 (good_wAll hcode) rfl rfl rfl (K.1.2.2.2.2 _ hini) (K.1.2.2.2.2 _ hlk) (K.1.2.2.2.2 _ hin) hy hd hR) ⟨PicC.blind, fun U hU hW => ⟨rfl, PicC.of (locs := locs) K hz hP hU hW⟩⟩ rfl hn hl.1 hst (lv_room hW) d hcs) kk T9 hT9 X9
theorem GC_callIN {q idx nl k : Nat} {y : MethodName} {host : String} {b : ByteArray} {rm : Room} (As rest : List Value) {st : List Value} {n' : Nat} {M' : Mem} (K : KC p s m args meth c g cc nL own n0) (d : dc cc pc pc' (.invokespecial idx) 3) (hlk : (own, idx, y, host) ∈ NestL) (hin : Cond.instanceMethod y ∈ wAll) (hini : Cond.initialized y.cls ∈ wAll) (hcode : Cond.code y b nl none ∈ wAll) (hy : y.name = "<init>") (hd : ydN y k)
    (hR : rm.frames + 1 ≤ R.frames ∧ 8 + (nl + 11) + rm.locals ≤ R.locals) (hcs : cells + rm.cells ≤ R.cells ∧ slots + rm.slots ≤ R.slots) (hn0 : n0 + cells = n) (hnc : n ≤ NC) (hn : As.length = k) (hst : st = As.reverse ++ .ref q :: rest) (hW : (rest.map fun v => v.category).sum ≤ 8)
    (hC : CC l g y (.code y b nl none :: wAll) rm (.ref q :: As) n M n' M') (kk : GC p l e R s m args below meth c g nL Q (cells + rm.cells) (slots + rm.slots) pc' lv rest n' M') : GC p l e R s m args below meth c g nL Q cells slots pc lv (st) n M := by
  obtain ⟨d, rfl⟩ := d
  intro H locs ls hP hS hl T9 hT9 X9
  have hz := GC_size K hn0 hnc hP hS hT9 X9
  exact run_GC (y := y) (a := (Value.ref q :: As).toArray) hS hl (va_runIN (Ts := wAll) K.1 hC ⟨va_cnB (Ts := wAll) (ws' := wAll) k K.1.2.2.2.2 (good_wAll hcode) rfl rfl rfl (K.2.2.1 _ hlk) (K.1.2.2.2.2 _ hini) hd hR, hy, K.1.2.2.2.2 _ hin⟩ ⟨PicC.blind, fun U hU hW => ⟨rfl, PicC.of (locs := locs) K hz hP hU hW⟩⟩ rfl hn hl.1 hst (lv_room hW) d hcs) kk T9 hT9 X9
end GC
theorem CC.of {l : Launch} {g : GB} {y : MethodName} {b : ByteArray} {nl : Nat} {rm : Room} {av : List Value} {n n' : Nat} {M M' : Mem} (lvl : List (Nat × Value)) (hy : plainName y.cls = true) (hlen : (lg_sl av).length ≤ nl) (hlv : lv_args 0 av = lvl)
    (hw : ∀ (p : Program) (e : Env) (s : State) (m : MethodId) (args : Array Value) (below : List Frame) (meth : Method) (c : Code), KC p s m args meth c g b nl y.cls n → meth.sig.returnType = none → meth.name = y.name →
      GC p l e rm s m args below meth c g nl (MQ below (QnC g n' M') args s rm.cells rm.slots (AC g)) 0 0 0 lvl [] n M) : CC l g y (.code y b nl none :: wAll) rm av n M n' M' := by
  refine Met.ofW (cc := b) (maxL := nl) (ret := none) hy rfl ?_
  intro p e s m args below meth c s₁ B hml hv
  obtain ⟨rfl, hsz, hP, hK, hLin, hN⟩ := hv
  have hts := atoms_spec (ws := .code y b nl none :: wAll) B.pre
  have hl := lv_entry av (n := nl) hlen
  rw [hlv] at hl
  rw [lg_entry_eq]
  exact hw p e s m av.toArray below meth c ⟨⟨B.exec, B.bytes, hml, findClass_of_methodNamed B.named, fun w hw => hts w (List.mem_cons_of_mem _ hw)⟩, ⟨hK, hLin, hsz⟩, hN, B.notSynchronized⟩ B.returns (name_of_methodNamed B.named B.method).1 s.heap [] _ hP va_S.rf hl
theorem shC_0 (g : GB) (M : Mem) : cellC g 0 M = .inr (11, [if M.1 0 0 = 0 then .null else .ref (g.2.1 1), if M.1 0 1 = 0 then .null else .ref (g.2.1 14), .int (M.1 0 2), if M.1 0 3 = 0 then .null else .ref (g.2.1 27), .int (M.1 0 4), if M.1 0 5 = 0 then .null else .ref (g.2.1 34), if M.1 0 6 = 0 then .null else .ref (g.2.1 52), if M.1 0 7 = 0 then .null else .ref (g.2.1 68), if M.1 0 8 = 0 then .null else .ref (g.2.1 79), if M.1 0 9 = 0 then .null else .ref (g.2.1 80), if M.1 0 10 = 0 then .null else .ref (g.2.1 91), if M.1 0 11 = 0 then .null else .ref (g.2.1 93)]) := rfl
theorem frC_0 (g : GB) (M : Mem) (h : Fr 0 M) : cellC g 0 M = .inr (11, [.null, .null, .int 0, .null, .int 0, .null, .null, .null, .null, .null, .null, .null]) := by rw [shC_0]; simp [(h 0 (Nat.le_refl _)).1, (h 0 (Nat.le_refl _)).2]
theorem shC_1 (g : GB) (M : Mem) : cellC g 1 M = .inr (10, [.int (M.1 1 0), .int (M.1 1 1), .int (M.1 1 2), .int (M.1 1 3), .int (M.1 1 4), .int (M.1 1 5), .int (M.1 1 6), .int (M.1 1 7), .int (M.1 1 8), if M.1 1 9 = 0 then .null else .ref (g.2.1 2), if M.1 1 10 = 0 then .null else .ref (g.2.1 4), if M.1 1 11 = 0 then .null else .ref (g.2.1 6), if M.1 1 12 = 0 then .null else .ref (g.2.1 8), if M.1 1 13 = 0 then .null else .ref (g.2.1 10), if M.1 1 14 = 0 then .null else .ref (g.2.1 12)]) := rfl
theorem frC_1 (g : GB) (M : Mem) (h : Fr 1 M) : cellC g 1 M = .inr (10, [.int 0, .int 0, .int 0, .int 0, .int 0, .int 0, .int 0, .int 0, .int 0, .null, .null, .null, .null, .null, .null]) := by rw [shC_1]; simp [(h 1 (Nat.le_refl _)).1, (h 1 (Nat.le_refl _)).2]
theorem shC_2 (g : GB) (M : Mem) : cellC g 2 M = .inr (7, [if M.1 2 0 = 0 then .null else .ref (g.2.1 3)]) := rfl
theorem frC_2 (g : GB) (M : Mem) (h : Fr 2 M) : cellC g 2 M = .inr (7, [.null]) := by rw [shC_2]; simp [(h 2 (Nat.le_refl _)).1, (h 2 (Nat.le_refl _)).2]
theorem shC_3 (g : GB) (M : Mem) : cellC g 3 M = .inl (g.2.2.2.1, 18, .inr (.inl (M.2 3))) := rfl
theorem frC_3 (g : GB) (M : Mem) (h : Fr 3 M) : cellC g 3 M = .inl (g.2.2.2.1, 18, .inr (.inl (fun _ => 0))) := by rw [shC_3, h.z2 (Nat.le_refl _)]
theorem shC_4 (g : GB) (M : Mem) : cellC g 4 M = .inr (7, [if M.1 4 0 = 0 then .null else .ref (g.2.1 5)]) := rfl
theorem frC_4 (g : GB) (M : Mem) (h : Fr 4 M) : cellC g 4 M = .inr (7, [.null]) := by rw [shC_4]; simp [(h 4 (Nat.le_refl _)).1, (h 4 (Nat.le_refl _)).2]
theorem shC_5 (g : GB) (M : Mem) : cellC g 5 M = .inl (g.2.2.2.1, 117, .inr (.inl (M.2 5))) := rfl
theorem frC_5 (g : GB) (M : Mem) (h : Fr 5 M) : cellC g 5 M = .inl (g.2.2.2.1, 117, .inr (.inl (fun _ => 0))) := by rw [shC_5, h.z2 (Nat.le_refl _)]
theorem shC_6 (g : GB) (M : Mem) : cellC g 6 M = .inr (7, [if M.1 6 0 = 0 then .null else .ref (g.2.1 7)]) := rfl
theorem frC_6 (g : GB) (M : Mem) (h : Fr 6 M) : cellC g 6 M = .inr (7, [.null]) := by rw [shC_6]; simp [(h 6 (Nat.le_refl _)).1, (h 6 (Nat.le_refl _)).2]
theorem shC_7 (g : GB) (M : Mem) : cellC g 7 M = .inl (g.2.2.2.1, 400, .inr (.inl (M.2 7))) := rfl
theorem frC_7 (g : GB) (M : Mem) (h : Fr 7 M) : cellC g 7 M = .inl (g.2.2.2.1, 400, .inr (.inl (fun _ => 0))) := by rw [shC_7, h.z2 (Nat.le_refl _)]
theorem shC_8 (g : GB) (M : Mem) : cellC g 8 M = .inr (7, [if M.1 8 0 = 0 then .null else .ref (g.2.1 9)]) := rfl
theorem frC_8 (g : GB) (M : Mem) (h : Fr 8 M) : cellC g 8 M = .inr (7, [.null]) := by rw [shC_8]; simp [(h 8 (Nat.le_refl _)).1, (h 8 (Nat.le_refl _)).2]
theorem shC_9 (g : GB) (M : Mem) : cellC g 9 M = .inl (g.2.2.2.1, 8, .inr (.inl (M.2 9))) := rfl
theorem frC_9 (g : GB) (M : Mem) (h : Fr 9 M) : cellC g 9 M = .inl (g.2.2.2.1, 8, .inr (.inl (fun _ => 0))) := by rw [shC_9, h.z2 (Nat.le_refl _)]
theorem shC_10 (g : GB) (M : Mem) : cellC g 10 M = .inr (7, [if M.1 10 0 = 0 then .null else .ref (g.2.1 11)]) := rfl
theorem frC_10 (g : GB) (M : Mem) (h : Fr 10 M) : cellC g 10 M = .inr (7, [.null]) := by rw [shC_10]; simp [(h 10 (Nat.le_refl _)).1, (h 10 (Nat.le_refl _)).2]
theorem shC_11 (g : GB) (M : Mem) : cellC g 11 M = .inl (g.2.2.2.1, 6, .inr (.inl (M.2 11))) := rfl
theorem frC_11 (g : GB) (M : Mem) (h : Fr 11 M) : cellC g 11 M = .inl (g.2.2.2.1, 6, .inr (.inl (fun _ => 0))) := by rw [shC_11, h.z2 (Nat.le_refl _)]
theorem shC_12 (g : GB) (M : Mem) : cellC g 12 M = .inr (7, [if M.1 12 0 = 0 then .null else .ref (g.2.1 13)]) := rfl
theorem frC_12 (g : GB) (M : Mem) (h : Fr 12 M) : cellC g 12 M = .inr (7, [.null]) := by rw [shC_12]; simp [(h 12 (Nat.le_refl _)).1, (h 12 (Nat.le_refl _)).2]
theorem shC_13 (g : GB) (M : Mem) : cellC g 13 M = .inl (g.2.2.2.1, 6, .inr (.inl (M.2 13))) := rfl
theorem frC_13 (g : GB) (M : Mem) (h : Fr 13 M) : cellC g 13 M = .inl (g.2.2.2.1, 6, .inr (.inl (fun _ => 0))) := by rw [shC_13, h.z2 (Nat.le_refl _)]
theorem shC_14 (g : GB) (M : Mem) : cellC g 14 M = .inr (10, [.int (M.1 14 0), .int (M.1 14 1), .int (M.1 14 2), .int (M.1 14 3), .int (M.1 14 4), .int (M.1 14 5), .int (M.1 14 6), .int (M.1 14 7), .int (M.1 14 8), if M.1 14 9 = 0 then .null else .ref (g.2.1 15), if M.1 14 10 = 0 then .null else .ref (g.2.1 17), if M.1 14 11 = 0 then .null else .ref (g.2.1 19), if M.1 14 12 = 0 then .null else .ref (g.2.1 21), if M.1 14 13 = 0 then .null else .ref (g.2.1 23), if M.1 14 14 = 0 then .null else .ref (g.2.1 25)]) := rfl
theorem frC_14 (g : GB) (M : Mem) (h : Fr 14 M) : cellC g 14 M = .inr (10, [.int 0, .int 0, .int 0, .int 0, .int 0, .int 0, .int 0, .int 0, .int 0, .null, .null, .null, .null, .null, .null]) := by rw [shC_14]; simp [(h 14 (Nat.le_refl _)).1, (h 14 (Nat.le_refl _)).2]
theorem shC_15 (g : GB) (M : Mem) : cellC g 15 M = .inr (7, [if M.1 15 0 = 0 then .null else .ref (g.2.1 16)]) := rfl
theorem frC_15 (g : GB) (M : Mem) (h : Fr 15 M) : cellC g 15 M = .inr (7, [.null]) := by rw [shC_15]; simp [(h 15 (Nat.le_refl _)).1, (h 15 (Nat.le_refl _)).2]
theorem shC_16 (g : GB) (M : Mem) : cellC g 16 M = .inl (g.2.2.2.1, 18, .inr (.inl (M.2 16))) := rfl
theorem frC_16 (g : GB) (M : Mem) (h : Fr 16 M) : cellC g 16 M = .inl (g.2.2.2.1, 18, .inr (.inl (fun _ => 0))) := by rw [shC_16, h.z2 (Nat.le_refl _)]
theorem shC_17 (g : GB) (M : Mem) : cellC g 17 M = .inr (7, [if M.1 17 0 = 0 then .null else .ref (g.2.1 18)]) := rfl
theorem frC_17 (g : GB) (M : Mem) (h : Fr 17 M) : cellC g 17 M = .inr (7, [.null]) := by rw [shC_17]; simp [(h 17 (Nat.le_refl _)).1, (h 17 (Nat.le_refl _)).2]
theorem shC_18 (g : GB) (M : Mem) : cellC g 18 M = .inl (g.2.2.2.1, 117, .inr (.inl (M.2 18))) := rfl
theorem frC_18 (g : GB) (M : Mem) (h : Fr 18 M) : cellC g 18 M = .inl (g.2.2.2.1, 117, .inr (.inl (fun _ => 0))) := by rw [shC_18, h.z2 (Nat.le_refl _)]
theorem shC_19 (g : GB) (M : Mem) : cellC g 19 M = .inr (7, [if M.1 19 0 = 0 then .null else .ref (g.2.1 20)]) := rfl
theorem frC_19 (g : GB) (M : Mem) (h : Fr 19 M) : cellC g 19 M = .inr (7, [.null]) := by rw [shC_19]; simp [(h 19 (Nat.le_refl _)).1, (h 19 (Nat.le_refl _)).2]
theorem shC_20 (g : GB) (M : Mem) : cellC g 20 M = .inl (g.2.2.2.1, 400, .inr (.inl (M.2 20))) := rfl
theorem frC_20 (g : GB) (M : Mem) (h : Fr 20 M) : cellC g 20 M = .inl (g.2.2.2.1, 400, .inr (.inl (fun _ => 0))) := by rw [shC_20, h.z2 (Nat.le_refl _)]
theorem shC_21 (g : GB) (M : Mem) : cellC g 21 M = .inr (7, [if M.1 21 0 = 0 then .null else .ref (g.2.1 22)]) := rfl
theorem frC_21 (g : GB) (M : Mem) (h : Fr 21 M) : cellC g 21 M = .inr (7, [.null]) := by rw [shC_21]; simp [(h 21 (Nat.le_refl _)).1, (h 21 (Nat.le_refl _)).2]
theorem shC_22 (g : GB) (M : Mem) : cellC g 22 M = .inl (g.2.2.2.1, 8, .inr (.inl (M.2 22))) := rfl
theorem frC_22 (g : GB) (M : Mem) (h : Fr 22 M) : cellC g 22 M = .inl (g.2.2.2.1, 8, .inr (.inl (fun _ => 0))) := by rw [shC_22, h.z2 (Nat.le_refl _)]
theorem shC_23 (g : GB) (M : Mem) : cellC g 23 M = .inr (7, [if M.1 23 0 = 0 then .null else .ref (g.2.1 24)]) := rfl
theorem frC_23 (g : GB) (M : Mem) (h : Fr 23 M) : cellC g 23 M = .inr (7, [.null]) := by rw [shC_23]; simp [(h 23 (Nat.le_refl _)).1, (h 23 (Nat.le_refl _)).2]
theorem shC_24 (g : GB) (M : Mem) : cellC g 24 M = .inl (g.2.2.2.1, 6, .inr (.inl (M.2 24))) := rfl
theorem frC_24 (g : GB) (M : Mem) (h : Fr 24 M) : cellC g 24 M = .inl (g.2.2.2.1, 6, .inr (.inl (fun _ => 0))) := by rw [shC_24, h.z2 (Nat.le_refl _)]
theorem shC_25 (g : GB) (M : Mem) : cellC g 25 M = .inr (7, [if M.1 25 0 = 0 then .null else .ref (g.2.1 26)]) := rfl
theorem frC_25 (g : GB) (M : Mem) (h : Fr 25 M) : cellC g 25 M = .inr (7, [.null]) := by rw [shC_25]; simp [(h 25 (Nat.le_refl _)).1, (h 25 (Nat.le_refl _)).2]
theorem shC_26 (g : GB) (M : Mem) : cellC g 26 M = .inl (g.2.2.2.1, 6, .inr (.inl (M.2 26))) := rfl
theorem frC_26 (g : GB) (M : Mem) (h : Fr 26 M) : cellC g 26 M = .inl (g.2.2.2.1, 6, .inr (.inl (fun _ => 0))) := by rw [shC_26, h.z2 (Nat.le_refl _)]
theorem shC_27 (g : GB) (M : Mem) : cellC g 27 M = .inr (8, [if M.1 27 0 = 0 then .null else .ref (g.2.1 28), .int (M.1 27 1), if M.1 27 2 = 0 then .null else .ref (g.2.1 30), if M.1 27 3 = 0 then .null else .ref (g.2.1 32), .int (M.1 27 4), .int (M.1 27 5), .int (M.1 27 6), .int (M.1 27 7)]) := rfl
theorem frC_27 (g : GB) (M : Mem) (h : Fr 27 M) : cellC g 27 M = .inr (8, [.null, .int 0, .null, .null, .int 0, .int 0, .int 0, .int 0]) := by rw [shC_27]; simp [(h 27 (Nat.le_refl _)).1, (h 27 (Nat.le_refl _)).2]
theorem shC_28 (g : GB) (M : Mem) : cellC g 28 M = .inr (7, [if M.1 28 0 = 0 then .null else .ref (g.2.1 29)]) := rfl
theorem frC_28 (g : GB) (M : Mem) (h : Fr 28 M) : cellC g 28 M = .inr (7, [.null]) := by rw [shC_28]; simp [(h 28 (Nat.le_refl _)).1, (h 28 (Nat.le_refl _)).2]
theorem shC_29 (g : GB) (M : Mem) : cellC g 29 M = .inl (g.2.2.2.1, 400, .inr (.inl (M.2 29))) := rfl
theorem frC_29 (g : GB) (M : Mem) (h : Fr 29 M) : cellC g 29 M = .inl (g.2.2.2.1, 400, .inr (.inl (fun _ => 0))) := by rw [shC_29, h.z2 (Nat.le_refl _)]
theorem shC_30 (g : GB) (M : Mem) : cellC g 30 M = .inr (7, [if M.1 30 0 = 0 then .null else .ref (g.2.1 31)]) := rfl
theorem frC_30 (g : GB) (M : Mem) (h : Fr 30 M) : cellC g 30 M = .inr (7, [.null]) := by rw [shC_30]; simp [(h 30 (Nat.le_refl _)).1, (h 30 (Nat.le_refl _)).2]
theorem shC_31 (g : GB) (M : Mem) : cellC g 31 M = .inl (g.2.2.2.1, 13, .inr (.inl (M.2 31))) := rfl
theorem frC_31 (g : GB) (M : Mem) (h : Fr 31 M) : cellC g 31 M = .inl (g.2.2.2.1, 13, .inr (.inl (fun _ => 0))) := by rw [shC_31, h.z2 (Nat.le_refl _)]
theorem shC_32 (g : GB) (M : Mem) : cellC g 32 M = .inr (7, [if M.1 32 0 = 0 then .null else .ref (g.2.1 33)]) := rfl
theorem frC_32 (g : GB) (M : Mem) (h : Fr 32 M) : cellC g 32 M = .inr (7, [.null]) := by rw [shC_32]; simp [(h 32 (Nat.le_refl _)).1, (h 32 (Nat.le_refl _)).2]
theorem shC_33 (g : GB) (M : Mem) : cellC g 33 M = .inl (g.2.2.2.1, 3, .inr (.inl (M.2 33))) := rfl
theorem frC_33 (g : GB) (M : Mem) (h : Fr 33 M) : cellC g 33 M = .inl (g.2.2.2.1, 3, .inr (.inl (fun _ => 0))) := by rw [shC_33, h.z2 (Nat.le_refl _)]
theorem shC_34 (g : GB) (M : Mem) : cellC g 34 M = .inr (6, [if M.1 34 0 = 0 then .null else .ref (g.2.1 1), if M.1 34 1 = 0 then .null else .ref (g.2.1 35), .int (M.1 34 2), .int (M.1 34 3), .int (M.1 34 4), .int (M.1 34 5), if M.1 34 6 = 0 then .null else .ref (g.2.1 48), if M.1 34 7 = 0 then .null else .ref (g.2.1 50)]) := rfl
theorem frC_34 (g : GB) (M : Mem) (h : Fr 34 M) : cellC g 34 M = .inr (6, [.null, .null, .int 0, .int 0, .int 0, .int 0, .null, .null]) := by rw [shC_34]; simp [(h 34 (Nat.le_refl _)).1, (h 34 (Nat.le_refl _)).2]
theorem shC_35 (g : GB) (M : Mem) : cellC g 35 M = .inr (2, [if M.1 35 0 = 0 then .null else .ref (g.2.1 36), if M.1 35 1 = 0 then .null else .ref (g.2.1 38), if M.1 35 2 = 0 then .null else .ref (g.2.1 40), if M.1 35 3 = 0 then .null else .ref (g.2.1 42), if M.1 35 4 = 0 then .null else .ref (g.2.1 44), if M.1 35 5 = 0 then .null else .ref (g.2.1 46), .long (M.2 35 6), .long (M.2 35 7)]) := rfl
theorem frC_35 (g : GB) (M : Mem) (h : Fr 35 M) : cellC g 35 M = .inr (2, [.null, .null, .null, .null, .null, .null, .long 0, .long 0]) := by rw [shC_35]; simp [(h 35 (Nat.le_refl _)).1, (h 35 (Nat.le_refl _)).2]
theorem shC_36 (g : GB) (M : Mem) : cellC g 36 M = .inr (7, [if M.1 36 0 = 0 then .null else .ref (g.2.1 37)]) := rfl
theorem frC_36 (g : GB) (M : Mem) (h : Fr 36 M) : cellC g 36 M = .inr (7, [.null]) := by rw [shC_36]; simp [(h 36 (Nat.le_refl _)).1, (h 36 (Nat.le_refl _)).2]
theorem shC_37 (g : GB) (M : Mem) : cellC g 37 M = .inl (g.2.2.2.1, 9, .inr (.inl (M.2 37))) := rfl
theorem frC_37 (g : GB) (M : Mem) (h : Fr 37 M) : cellC g 37 M = .inl (g.2.2.2.1, 9, .inr (.inl (fun _ => 0))) := by rw [shC_37, h.z2 (Nat.le_refl _)]
theorem shC_38 (g : GB) (M : Mem) : cellC g 38 M = .inr (7, [if M.1 38 0 = 0 then .null else .ref (g.2.1 39)]) := rfl
theorem frC_38 (g : GB) (M : Mem) (h : Fr 38 M) : cellC g 38 M = .inr (7, [.null]) := by rw [shC_38]; simp [(h 38 (Nat.le_refl _)).1, (h 38 (Nat.le_refl _)).2]
theorem shC_39 (g : GB) (M : Mem) : cellC g 39 M = .inl (g.2.2.2.1, 18, .inr (.inl (M.2 39))) := rfl
theorem frC_39 (g : GB) (M : Mem) (h : Fr 39 M) : cellC g 39 M = .inl (g.2.2.2.1, 18, .inr (.inl (fun _ => 0))) := by rw [shC_39, h.z2 (Nat.le_refl _)]
theorem shC_40 (g : GB) (M : Mem) : cellC g 40 M = .inr (7, [if M.1 40 0 = 0 then .null else .ref (g.2.1 41)]) := rfl
theorem frC_40 (g : GB) (M : Mem) (h : Fr 40 M) : cellC g 40 M = .inr (7, [.null]) := by rw [shC_40]; simp [(h 40 (Nat.le_refl _)).1, (h 40 (Nat.le_refl _)).2]
theorem shC_41 (g : GB) (M : Mem) : cellC g 41 M = .inl (g.2.2.2.1, 18, .inr (.inl (M.2 41))) := rfl
theorem frC_41 (g : GB) (M : Mem) (h : Fr 41 M) : cellC g 41 M = .inl (g.2.2.2.1, 18, .inr (.inl (fun _ => 0))) := by rw [shC_41, h.z2 (Nat.le_refl _)]
theorem shC_42 (g : GB) (M : Mem) : cellC g 42 M = .inr (7, [if M.1 42 0 = 0 then .null else .ref (g.2.1 43)]) := rfl
theorem frC_42 (g : GB) (M : Mem) (h : Fr 42 M) : cellC g 42 M = .inr (7, [.null]) := by rw [shC_42]; simp [(h 42 (Nat.le_refl _)).1, (h 42 (Nat.le_refl _)).2]
theorem shC_43 (g : GB) (M : Mem) : cellC g 43 M = .inl (g.2.2.2.1, 9, .inr (.inl (M.2 43))) := rfl
theorem frC_43 (g : GB) (M : Mem) (h : Fr 43 M) : cellC g 43 M = .inl (g.2.2.2.1, 9, .inr (.inl (fun _ => 0))) := by rw [shC_43, h.z2 (Nat.le_refl _)]
theorem shC_44 (g : GB) (M : Mem) : cellC g 44 M = .inr (7, [if M.1 44 0 = 0 then .null else .ref (g.2.1 45)]) := rfl
theorem frC_44 (g : GB) (M : Mem) (h : Fr 44 M) : cellC g 44 M = .inr (7, [.null]) := by rw [shC_44]; simp [(h 44 (Nat.le_refl _)).1, (h 44 (Nat.le_refl _)).2]
theorem shC_45 (g : GB) (M : Mem) : cellC g 45 M = .inl (g.2.2.2.1, 9, .inr (.inl (M.2 45))) := rfl
theorem frC_45 (g : GB) (M : Mem) (h : Fr 45 M) : cellC g 45 M = .inl (g.2.2.2.1, 9, .inr (.inl (fun _ => 0))) := by rw [shC_45, h.z2 (Nat.le_refl _)]
theorem shC_46 (g : GB) (M : Mem) : cellC g 46 M = .inr (7, [if M.1 46 0 = 0 then .null else .ref (g.2.1 47)]) := rfl
theorem frC_46 (g : GB) (M : Mem) (h : Fr 46 M) : cellC g 46 M = .inr (7, [.null]) := by rw [shC_46]; simp [(h 46 (Nat.le_refl _)).1, (h 46 (Nat.le_refl _)).2]
theorem shC_47 (g : GB) (M : Mem) : cellC g 47 M = .inl (g.2.2.2.1, 9, .inr (.inl (M.2 47))) := rfl
theorem frC_47 (g : GB) (M : Mem) (h : Fr 47 M) : cellC g 47 M = .inl (g.2.2.2.1, 9, .inr (.inl (fun _ => 0))) := by rw [shC_47, h.z2 (Nat.le_refl _)]
theorem shC_48 (g : GB) (M : Mem) : cellC g 48 M = .inr (7, [if M.1 48 0 = 0 then .null else .ref (g.2.1 49)]) := rfl
theorem frC_48 (g : GB) (M : Mem) (h : Fr 48 M) : cellC g 48 M = .inr (7, [.null]) := by rw [shC_48]; simp [(h 48 (Nat.le_refl _)).1, (h 48 (Nat.le_refl _)).2]
theorem shC_49 (g : GB) (M : Mem) : cellC g 49 M = .inl (g.2.2.2.1, 16, .inr (.inl (M.2 49))) := rfl
theorem frC_49 (g : GB) (M : Mem) (h : Fr 49 M) : cellC g 49 M = .inl (g.2.2.2.1, 16, .inr (.inl (fun _ => 0))) := by rw [shC_49, h.z2 (Nat.le_refl _)]
theorem shC_50 (g : GB) (M : Mem) : cellC g 50 M = .inr (7, [if M.1 50 0 = 0 then .null else .ref (g.2.1 51)]) := rfl
theorem frC_50 (g : GB) (M : Mem) (h : Fr 50 M) : cellC g 50 M = .inr (7, [.null]) := by rw [shC_50]; simp [(h 50 (Nat.le_refl _)).1, (h 50 (Nat.le_refl _)).2]
theorem shC_51 (g : GB) (M : Mem) : cellC g 51 M = .inl (g.2.2.2.1, 8, .inr (.inl (M.2 51))) := rfl
theorem frC_51 (g : GB) (M : Mem) (h : Fr 51 M) : cellC g 51 M = .inl (g.2.2.2.1, 8, .inr (.inl (fun _ => 0))) := by rw [shC_51, h.z2 (Nat.le_refl _)]
theorem shC_52 (g : GB) (M : Mem) : cellC g 52 M = .inr (0, [if M.1 52 0 = 0 then .null else .ref (g.2.1 1), if M.1 52 1 = 0 then .null else .ref (g.2.1 53), if M.1 52 2 = 0 then .null else .ref (g.2.1 66), .int (M.1 52 3), .int (M.1 52 4), .int (M.1 52 5)]) := rfl
theorem frC_52 (g : GB) (M : Mem) (h : Fr 52 M) : cellC g 52 M = .inr (0, [.null, .null, .null, .int 0, .int 0, .int 0]) := by rw [shC_52]; simp [(h 52 (Nat.le_refl _)).1, (h 52 (Nat.le_refl _)).2]
theorem shC_53 (g : GB) (M : Mem) : cellC g 53 M = .inr (2, [if M.1 53 0 = 0 then .null else .ref (g.2.1 54), if M.1 53 1 = 0 then .null else .ref (g.2.1 56), if M.1 53 2 = 0 then .null else .ref (g.2.1 58), if M.1 53 3 = 0 then .null else .ref (g.2.1 60), if M.1 53 4 = 0 then .null else .ref (g.2.1 62), if M.1 53 5 = 0 then .null else .ref (g.2.1 64), .long (M.2 53 6), .long (M.2 53 7)]) := rfl
theorem frC_53 (g : GB) (M : Mem) (h : Fr 53 M) : cellC g 53 M = .inr (2, [.null, .null, .null, .null, .null, .null, .long 0, .long 0]) := by rw [shC_53]; simp [(h 53 (Nat.le_refl _)).1, (h 53 (Nat.le_refl _)).2]
theorem shC_54 (g : GB) (M : Mem) : cellC g 54 M = .inr (7, [if M.1 54 0 = 0 then .null else .ref (g.2.1 55)]) := rfl
theorem frC_54 (g : GB) (M : Mem) (h : Fr 54 M) : cellC g 54 M = .inr (7, [.null]) := by rw [shC_54]; simp [(h 54 (Nat.le_refl _)).1, (h 54 (Nat.le_refl _)).2]
theorem shC_55 (g : GB) (M : Mem) : cellC g 55 M = .inl (g.2.2.2.1, 9, .inr (.inl (M.2 55))) := rfl
theorem frC_55 (g : GB) (M : Mem) (h : Fr 55 M) : cellC g 55 M = .inl (g.2.2.2.1, 9, .inr (.inl (fun _ => 0))) := by rw [shC_55, h.z2 (Nat.le_refl _)]
theorem shC_56 (g : GB) (M : Mem) : cellC g 56 M = .inr (7, [if M.1 56 0 = 0 then .null else .ref (g.2.1 57)]) := rfl
theorem frC_56 (g : GB) (M : Mem) (h : Fr 56 M) : cellC g 56 M = .inr (7, [.null]) := by rw [shC_56]; simp [(h 56 (Nat.le_refl _)).1, (h 56 (Nat.le_refl _)).2]
theorem shC_57 (g : GB) (M : Mem) : cellC g 57 M = .inl (g.2.2.2.1, 18, .inr (.inl (M.2 57))) := rfl
theorem frC_57 (g : GB) (M : Mem) (h : Fr 57 M) : cellC g 57 M = .inl (g.2.2.2.1, 18, .inr (.inl (fun _ => 0))) := by rw [shC_57, h.z2 (Nat.le_refl _)]
theorem shC_58 (g : GB) (M : Mem) : cellC g 58 M = .inr (7, [if M.1 58 0 = 0 then .null else .ref (g.2.1 59)]) := rfl
theorem frC_58 (g : GB) (M : Mem) (h : Fr 58 M) : cellC g 58 M = .inr (7, [.null]) := by rw [shC_58]; simp [(h 58 (Nat.le_refl _)).1, (h 58 (Nat.le_refl _)).2]
theorem shC_59 (g : GB) (M : Mem) : cellC g 59 M = .inl (g.2.2.2.1, 18, .inr (.inl (M.2 59))) := rfl
theorem frC_59 (g : GB) (M : Mem) (h : Fr 59 M) : cellC g 59 M = .inl (g.2.2.2.1, 18, .inr (.inl (fun _ => 0))) := by rw [shC_59, h.z2 (Nat.le_refl _)]
theorem shC_60 (g : GB) (M : Mem) : cellC g 60 M = .inr (7, [if M.1 60 0 = 0 then .null else .ref (g.2.1 61)]) := rfl
theorem frC_60 (g : GB) (M : Mem) (h : Fr 60 M) : cellC g 60 M = .inr (7, [.null]) := by rw [shC_60]; simp [(h 60 (Nat.le_refl _)).1, (h 60 (Nat.le_refl _)).2]
theorem shC_61 (g : GB) (M : Mem) : cellC g 61 M = .inl (g.2.2.2.1, 9, .inr (.inl (M.2 61))) := rfl
theorem frC_61 (g : GB) (M : Mem) (h : Fr 61 M) : cellC g 61 M = .inl (g.2.2.2.1, 9, .inr (.inl (fun _ => 0))) := by rw [shC_61, h.z2 (Nat.le_refl _)]
theorem shC_62 (g : GB) (M : Mem) : cellC g 62 M = .inr (7, [if M.1 62 0 = 0 then .null else .ref (g.2.1 63)]) := rfl
theorem frC_62 (g : GB) (M : Mem) (h : Fr 62 M) : cellC g 62 M = .inr (7, [.null]) := by rw [shC_62]; simp [(h 62 (Nat.le_refl _)).1, (h 62 (Nat.le_refl _)).2]
theorem shC_63 (g : GB) (M : Mem) : cellC g 63 M = .inl (g.2.2.2.1, 9, .inr (.inl (M.2 63))) := rfl
theorem frC_63 (g : GB) (M : Mem) (h : Fr 63 M) : cellC g 63 M = .inl (g.2.2.2.1, 9, .inr (.inl (fun _ => 0))) := by rw [shC_63, h.z2 (Nat.le_refl _)]
theorem shC_64 (g : GB) (M : Mem) : cellC g 64 M = .inr (7, [if M.1 64 0 = 0 then .null else .ref (g.2.1 65)]) := rfl
theorem frC_64 (g : GB) (M : Mem) (h : Fr 64 M) : cellC g 64 M = .inr (7, [.null]) := by rw [shC_64]; simp [(h 64 (Nat.le_refl _)).1, (h 64 (Nat.le_refl _)).2]
theorem shC_65 (g : GB) (M : Mem) : cellC g 65 M = .inl (g.2.2.2.1, 9, .inr (.inl (M.2 65))) := rfl
theorem frC_65 (g : GB) (M : Mem) (h : Fr 65 M) : cellC g 65 M = .inl (g.2.2.2.1, 9, .inr (.inl (fun _ => 0))) := by rw [shC_65, h.z2 (Nat.le_refl _)]
theorem shC_66 (g : GB) (M : Mem) : cellC g 66 M = .inr (7, [if M.1 66 0 = 0 then .null else .ref (g.2.1 67)]) := rfl
theorem frC_66 (g : GB) (M : Mem) (h : Fr 66 M) : cellC g 66 M = .inr (7, [.null]) := by rw [shC_66]; simp [(h 66 (Nat.le_refl _)).1, (h 66 (Nat.le_refl _)).2]
theorem shC_67 (g : GB) (M : Mem) : cellC g 67 M = .inl (g.2.2.2.1, 3, .inr (.inl (M.2 67))) := rfl
theorem frC_67 (g : GB) (M : Mem) (h : Fr 67 M) : cellC g 67 M = .inl (g.2.2.2.1, 3, .inr (.inl (fun _ => 0))) := by rw [shC_67, h.z2 (Nat.le_refl _)]
theorem shC_68 (g : GB) (M : Mem) : cellC g 68 M = .inr (4, [if M.1 68 0 = 0 then .null else .ref (g.2.1 1), if M.1 68 1 = 0 then .null else .ref (g.2.1 69), if M.1 68 2 = 0 then .null else .ref (g.2.1 71), .long (M.2 68 3), .long (M.2 68 4), .int (M.1 68 5), if M.1 68 6 = 0 then .null else .ref (g.2.1 73), if M.1 68 7 = 0 then .null else .ref (g.2.1 75), if M.1 68 8 = 0 then .null else .ref (g.2.1 77)]) := rfl
theorem frC_68 (g : GB) (M : Mem) (h : Fr 68 M) : cellC g 68 M = .inr (4, [.null, .null, .null, .long 0, .long 0, .int 0, .null, .null, .null]) := by rw [shC_68]; simp [(h 68 (Nat.le_refl _)).1, (h 68 (Nat.le_refl _)).2]
theorem shC_69 (g : GB) (M : Mem) : cellC g 69 M = .inr (7, [if M.1 69 0 = 0 then .null else .ref (g.2.1 70)]) := rfl
theorem frC_69 (g : GB) (M : Mem) (h : Fr 69 M) : cellC g 69 M = .inr (7, [.null]) := by rw [shC_69]; simp [(h 69 (Nat.le_refl _)).1, (h 69 (Nat.le_refl _)).2]
theorem shC_70 (g : GB) (M : Mem) : cellC g 70 M = .inl (g.2.2.2.1, 9, .inr (.inl (M.2 70))) := rfl
theorem frC_70 (g : GB) (M : Mem) (h : Fr 70 M) : cellC g 70 M = .inl (g.2.2.2.1, 9, .inr (.inl (fun _ => 0))) := by rw [shC_70, h.z2 (Nat.le_refl _)]
theorem shC_71 (g : GB) (M : Mem) : cellC g 71 M = .inr (7, [if M.1 71 0 = 0 then .null else .ref (g.2.1 72)]) := rfl
theorem frC_71 (g : GB) (M : Mem) (h : Fr 71 M) : cellC g 71 M = .inr (7, [.null]) := by rw [shC_71]; simp [(h 71 (Nat.le_refl _)).1, (h 71 (Nat.le_refl _)).2]
theorem shC_72 (g : GB) (M : Mem) : cellC g 72 M = .inl (g.2.2.2.1, 3, .inr (.inl (M.2 72))) := rfl
theorem frC_72 (g : GB) (M : Mem) (h : Fr 72 M) : cellC g 72 M = .inl (g.2.2.2.1, 3, .inr (.inl (fun _ => 0))) := by rw [shC_72, h.z2 (Nat.le_refl _)]
theorem shC_73 (g : GB) (M : Mem) : cellC g 73 M = .inr (7, [if M.1 73 0 = 0 then .null else .ref (g.2.1 74)]) := rfl
theorem frC_73 (g : GB) (M : Mem) (h : Fr 73 M) : cellC g 73 M = .inr (7, [.null]) := by rw [shC_73]; simp [(h 73 (Nat.le_refl _)).1, (h 73 (Nat.le_refl _)).2]
theorem shC_74 (g : GB) (M : Mem) : cellC g 74 M = .inl (g.2.2.2.1, 9, .inr (.inl (M.2 74))) := rfl
theorem frC_74 (g : GB) (M : Mem) (h : Fr 74 M) : cellC g 74 M = .inl (g.2.2.2.1, 9, .inr (.inl (fun _ => 0))) := by rw [shC_74, h.z2 (Nat.le_refl _)]
theorem shC_75 (g : GB) (M : Mem) : cellC g 75 M = .inr (7, [if M.1 75 0 = 0 then .null else .ref (g.2.1 76)]) := rfl
theorem frC_75 (g : GB) (M : Mem) (h : Fr 75 M) : cellC g 75 M = .inr (7, [.null]) := by rw [shC_75]; simp [(h 75 (Nat.le_refl _)).1, (h 75 (Nat.le_refl _)).2]
theorem shC_76 (g : GB) (M : Mem) : cellC g 76 M = .inl (g.2.2.2.1, 9, .inr (.inl (M.2 76))) := rfl
theorem frC_76 (g : GB) (M : Mem) (h : Fr 76 M) : cellC g 76 M = .inl (g.2.2.2.1, 9, .inr (.inl (fun _ => 0))) := by rw [shC_76, h.z2 (Nat.le_refl _)]
theorem shC_77 (g : GB) (M : Mem) : cellC g 77 M = .inr (7, [if M.1 77 0 = 0 then .null else .ref (g.2.1 78)]) := rfl
theorem frC_77 (g : GB) (M : Mem) (h : Fr 77 M) : cellC g 77 M = .inr (7, [.null]) := by rw [shC_77]; simp [(h 77 (Nat.le_refl _)).1, (h 77 (Nat.le_refl _)).2]
theorem shC_78 (g : GB) (M : Mem) : cellC g 78 M = .inl (g.2.2.2.1, 10, .inr (.inl (M.2 78))) := rfl
theorem frC_78 (g : GB) (M : Mem) (h : Fr 78 M) : cellC g 78 M = .inl (g.2.2.2.1, 10, .inr (.inl (fun _ => 0))) := by rw [shC_78, h.z2 (Nat.le_refl _)]
theorem shC_79 (g : GB) (M : Mem) : cellC g 79 M = .inr (9, [if M.1 79 0 = 0 then .null else .ref (g.2.1 1), .int (M.1 79 1), .int (M.1 79 2), .int (M.1 79 3), .int (M.1 79 4), .int (M.1 79 5)]) := rfl
theorem frC_79 (g : GB) (M : Mem) (h : Fr 79 M) : cellC g 79 M = .inr (9, [.null, .int 0, .int 0, .int 0, .int 0, .int 0]) := by rw [shC_79]; simp [(h 79 (Nat.le_refl _)).1, (h 79 (Nat.le_refl _)).2]
theorem shC_80 (g : GB) (M : Mem) : cellC g 80 M = .inr (3, [if M.1 80 0 = 0 then .null else .ref (g.2.1 1), if M.1 80 1 = 0 then .null else .ref (g.2.1 79), if M.1 80 2 = 0 then .null else .ref (g.2.1 81), if M.1 80 3 = 0 then .null else .ref (g.2.1 83), if M.1 80 4 = 0 then .null else .ref (g.2.1 85), if M.1 80 5 = 0 then .null else .ref (g.2.1 87), if M.1 80 6 = 0 then .null else .ref (g.2.1 89)]) := rfl
theorem frC_80 (g : GB) (M : Mem) (h : Fr 80 M) : cellC g 80 M = .inr (3, [.null, .null, .null, .null, .null, .null, .null]) := by rw [shC_80]; simp [(h 80 (Nat.le_refl _)).1, (h 80 (Nat.le_refl _)).2]
theorem shC_81 (g : GB) (M : Mem) : cellC g 81 M = .inr (7, [if M.1 81 0 = 0 then .null else .ref (g.2.1 82)]) := rfl
theorem frC_81 (g : GB) (M : Mem) (h : Fr 81 M) : cellC g 81 M = .inr (7, [.null]) := by rw [shC_81]; simp [(h 81 (Nat.le_refl _)).1, (h 81 (Nat.le_refl _)).2]
theorem shC_82 (g : GB) (M : Mem) : cellC g 82 M = .inl (g.2.2.2.1, 8, .inr (.inl (M.2 82))) := rfl
theorem frC_82 (g : GB) (M : Mem) (h : Fr 82 M) : cellC g 82 M = .inl (g.2.2.2.1, 8, .inr (.inl (fun _ => 0))) := by rw [shC_82, h.z2 (Nat.le_refl _)]
theorem shC_83 (g : GB) (M : Mem) : cellC g 83 M = .inr (7, [if M.1 83 0 = 0 then .null else .ref (g.2.1 84)]) := rfl
theorem frC_83 (g : GB) (M : Mem) (h : Fr 83 M) : cellC g 83 M = .inr (7, [.null]) := by rw [shC_83]; simp [(h 83 (Nat.le_refl _)).1, (h 83 (Nat.le_refl _)).2]
theorem shC_84 (g : GB) (M : Mem) : cellC g 84 M = .inl (g.2.2.2.1, 64, .inr (.inl (M.2 84))) := rfl
theorem frC_84 (g : GB) (M : Mem) (h : Fr 84 M) : cellC g 84 M = .inl (g.2.2.2.1, 64, .inr (.inl (fun _ => 0))) := by rw [shC_84, h.z2 (Nat.le_refl _)]
theorem shC_85 (g : GB) (M : Mem) : cellC g 85 M = .inr (7, [if M.1 85 0 = 0 then .null else .ref (g.2.1 86)]) := rfl
theorem frC_85 (g : GB) (M : Mem) (h : Fr 85 M) : cellC g 85 M = .inr (7, [.null]) := by rw [shC_85]; simp [(h 85 (Nat.le_refl _)).1, (h 85 (Nat.le_refl _)).2]
theorem shC_86 (g : GB) (M : Mem) : cellC g 86 M = .inl (g.2.2.2.1, 8, .inr (.inl (M.2 86))) := rfl
theorem frC_86 (g : GB) (M : Mem) (h : Fr 86 M) : cellC g 86 M = .inl (g.2.2.2.1, 8, .inr (.inl (fun _ => 0))) := by rw [shC_86, h.z2 (Nat.le_refl _)]
theorem shC_87 (g : GB) (M : Mem) : cellC g 87 M = .inr (7, [if M.1 87 0 = 0 then .null else .ref (g.2.1 88)]) := rfl
theorem frC_87 (g : GB) (M : Mem) (h : Fr 87 M) : cellC g 87 M = .inr (7, [.null]) := by rw [shC_87]; simp [(h 87 (Nat.le_refl _)).1, (h 87 (Nat.le_refl _)).2]
theorem shC_88 (g : GB) (M : Mem) : cellC g 88 M = .inl (g.2.2.2.1, 8, .inr (.inl (M.2 88))) := rfl
theorem frC_88 (g : GB) (M : Mem) (h : Fr 88 M) : cellC g 88 M = .inl (g.2.2.2.1, 8, .inr (.inl (fun _ => 0))) := by rw [shC_88, h.z2 (Nat.le_refl _)]
theorem shC_89 (g : GB) (M : Mem) : cellC g 89 M = .inr (7, [if M.1 89 0 = 0 then .null else .ref (g.2.1 90)]) := rfl
theorem frC_89 (g : GB) (M : Mem) (h : Fr 89 M) : cellC g 89 M = .inr (7, [.null]) := by rw [shC_89]; simp [(h 89 (Nat.le_refl _)).1, (h 89 (Nat.le_refl _)).2]
theorem shC_90 (g : GB) (M : Mem) : cellC g 90 M = .inl (g.2.2.2.1, 8, .inr (.inl (M.2 90))) := rfl
theorem frC_90 (g : GB) (M : Mem) (h : Fr 90 M) : cellC g 90 M = .inl (g.2.2.2.1, 8, .inr (.inl (fun _ => 0))) := by rw [shC_90, h.z2 (Nat.le_refl _)]
theorem shC_91 (g : GB) (M : Mem) : cellC g 91 M = .inr (1, [if M.1 91 0 = 0 then .null else .ref (g.2.1 1), if M.1 91 1 = 0 then .null else .ref (g.2.1 92)]) := rfl
theorem frC_91 (g : GB) (M : Mem) (h : Fr 91 M) : cellC g 91 M = .inr (1, [.null, .null]) := by rw [shC_91]; simp [(h 91 (Nat.le_refl _)).1, (h 91 (Nat.le_refl _)).2]
theorem shC_92 (g : GB) (M : Mem) : cellC g 92 M = .inr (5, [.long (M.2 92 0), .long (M.2 92 1)]) := rfl
theorem frC_92 (g : GB) (M : Mem) (h : Fr 92 M) : cellC g 92 M = .inr (5, [.long 0, .long 0]) := by rw [shC_92]; simp [(h 92 (Nat.le_refl _)).1, (h 92 (Nat.le_refl _)).2]
theorem shC_93 (g : GB) (M : Mem) : cellC g 93 M = .inr (5, [.long (M.2 93 0), .long (M.2 93 1)]) := rfl
theorem frC_93 (g : GB) (M : Mem) (h : Fr 93 M) : cellC g 93 M = .inr (5, [.long 0, .long 0]) := by rw [shC_93]; simp [(h 93 (Nat.le_refl _)).1, (h 93 (Nat.le_refl _)).2]
theorem shC_94 (g : GB) (M : Mem) : cellC g 94 M = .inr (12, [.int (M.1 94 0), if M.1 94 1 = 0 then .null else .ref (g.2.1 95), if M.1 94 2 = 0 then .null else .ref (g.2.1 96), .int (M.1 94 3), if M.1 94 4 = 0 then .null else .ref (g.2.1 97), .int (M.1 94 5), .int (M.1 94 6), .int (M.1 94 7), .int (M.1 94 8), .int (M.1 94 9), if M.1 94 10 = 0 then .null else .ref (g.2.1 98), if M.1 94 11 = 0 then .null else .ref (g.2.1 99), if M.1 94 12 = 0 then .null else .ref (g.2.1 100), if M.1 94 13 = 0 then .null else .ref (g.2.1 101), .int (M.1 94 14), .long (M.2 94 15), .long (M.2 94 16), if M.1 94 17 = 0 then .null else .ref (g.2.1 102), if M.1 94 18 = 0 then .null else .ref (g.2.1 103), .int (M.1 94 19), .int (M.1 94 20), if M.1 94 21 = 0 then .null else .ref (g.2.1 104), if M.1 94 22 = 0 then .null else .ref (g.2.1 105), if M.1 94 23 = 0 then .null else .ref (g.2.1 106), if M.1 94 24 = 0 then .null else .ref (g.2.1 107), if M.1 94 25 = 0 then .null else .ref (g.2.1 108), if M.1 94 26 = 0 then .null else .ref (g.2.1 109), if M.1 94 27 = 0 then .null else .ref (g.2.1 110), if M.1 94 28 = 0 then .null else .ref (g.2.1 111), if M.1 94 29 = 0 then .null else .ref (g.2.1 112), if M.1 94 30 = 0 then .null else .ref (g.2.1 113), if M.1 94 31 = 0 then .null else .ref (g.2.1 114), if M.1 94 32 = 0 then .null else .ref (g.2.1 115), if M.1 94 33 = 0 then .null else .ref (g.2.1 116), if M.1 94 34 = 0 then .null else .ref (g.2.1 117), .int (M.1 94 35), .int (M.1 94 36), .int (M.1 94 37), if M.1 94 38 = 0 then .null else .ref (g.2.1 118), if M.1 94 39 = 0 then .null else .ref (g.2.1 119), if M.1 94 40 = 0 then .null else .ref (g.2.1 120)]) := rfl
theorem frC_94 (g : GB) (M : Mem) (h : Fr 94 M) : cellC g 94 M = .inr (12, [.int 0, .null, .null, .int 0, .null, .int 0, .int 0, .int 0, .int 0, .int 0, .null, .null, .null, .null, .int 0, .long 0, .long 0, .null, .null, .int 0, .int 0, .null, .null, .null, .null, .null, .null, .null, .null, .null, .null, .null, .null, .null, .null, .int 0, .int 0, .int 0, .null, .null, .null]) := by rw [shC_94]; simp [(h 94 (Nat.le_refl _)).1, (h 94 (Nat.le_refl _)).2]
theorem shC_95 (g : GB) (M : Mem) : cellC g 95 M = .inl (g.2.2.1, 564, .inl (M.1 95)) := rfl
theorem frC_95 (g : GB) (M : Mem) (h : Fr 95 M) : cellC g 95 M = .inl (g.2.2.1, 564, .inl (fun _ => 0)) := by rw [shC_95, h.z1 (Nat.le_refl _)]
theorem shC_96 (g : GB) (M : Mem) : cellC g 96 M = .inl (g.2.2.1, 564, .inl (M.1 96)) := rfl
theorem frC_96 (g : GB) (M : Mem) (h : Fr 96 M) : cellC g 96 M = .inl (g.2.2.1, 564, .inl (fun _ => 0)) := by rw [shC_96, h.z1 (Nat.le_refl _)]
theorem shC_97 (g : GB) (M : Mem) : cellC g 97 M = .inl (g.2.2.2.2, 400, .inl (M.1 97)) := rfl
theorem frC_97 (g : GB) (M : Mem) (h : Fr 97 M) : cellC g 97 M = .inl (g.2.2.2.2, 400, .inl (fun _ => 0)) := by rw [shC_97, h.z1 (Nat.le_refl _)]
theorem shC_98 (g : GB) (M : Mem) : cellC g 98 M = .inl (g.2.2.1, 5, .inl (M.1 98)) := rfl
theorem frC_98 (g : GB) (M : Mem) (h : Fr 98 M) : cellC g 98 M = .inl (g.2.2.1, 5, .inl (fun _ => 0)) := by rw [shC_98, h.z1 (Nat.le_refl _)]
theorem shC_99 (g : GB) (M : Mem) : cellC g 99 M = .inl (g.2.2.1, 13, .inl (M.1 99)) := rfl
theorem frC_99 (g : GB) (M : Mem) (h : Fr 99 M) : cellC g 99 M = .inl (g.2.2.1, 13, .inl (fun _ => 0)) := by rw [shC_99, h.z1 (Nat.le_refl _)]
theorem shC_100 (g : GB) (M : Mem) : cellC g 100 M = .inl (g.2.2.1, 400, .inl (M.1 100)) := rfl
theorem frC_100 (g : GB) (M : Mem) (h : Fr 100 M) : cellC g 100 M = .inl (g.2.2.1, 400, .inl (fun _ => 0)) := by rw [shC_100, h.z1 (Nat.le_refl _)]
theorem shC_101 (g : GB) (M : Mem) : cellC g 101 M = .inl (g.2.2.1, 400, .inl (M.1 101)) := rfl
theorem frC_101 (g : GB) (M : Mem) (h : Fr 101 M) : cellC g 101 M = .inl (g.2.2.1, 400, .inl (fun _ => 0)) := by rw [shC_101, h.z1 (Nat.le_refl _)]
theorem shC_102 (g : GB) (M : Mem) : cellC g 102 M = .inl (g.2.2.1, 10, .inl (M.1 102)) := rfl
theorem frC_102 (g : GB) (M : Mem) (h : Fr 102 M) : cellC g 102 M = .inl (g.2.2.1, 10, .inl (fun _ => 0)) := by rw [shC_102, h.z1 (Nat.le_refl _)]
theorem shC_103 (g : GB) (M : Mem) : cellC g 103 M = .inl (g.2.2.1, 9, .inl (M.1 103)) := rfl
theorem frC_103 (g : GB) (M : Mem) (h : Fr 103 M) : cellC g 103 M = .inl (g.2.2.1, 9, .inl (fun _ => 0)) := by rw [shC_103, h.z1 (Nat.le_refl _)]
theorem shC_104 (g : GB) (M : Mem) : cellC g 104 M = .inl (g.2.2.2.1, 18, .inr (.inl (M.2 104))) := rfl
theorem frC_104 (g : GB) (M : Mem) (h : Fr 104 M) : cellC g 104 M = .inl (g.2.2.2.1, 18, .inr (.inl (fun _ => 0))) := by rw [shC_104, h.z2 (Nat.le_refl _)]
theorem shC_105 (g : GB) (M : Mem) : cellC g 105 M = .inl (g.2.2.2.1, 18, .inr (.inl (M.2 105))) := rfl
theorem frC_105 (g : GB) (M : Mem) (h : Fr 105 M) : cellC g 105 M = .inl (g.2.2.2.1, 18, .inr (.inl (fun _ => 0))) := by rw [shC_105, h.z2 (Nat.le_refl _)]
theorem shC_106 (g : GB) (M : Mem) : cellC g 106 M = .inl (g.2.2.2.1, 3, .inr (.inl (M.2 106))) := rfl
theorem frC_106 (g : GB) (M : Mem) (h : Fr 106 M) : cellC g 106 M = .inl (g.2.2.2.1, 3, .inr (.inl (fun _ => 0))) := by rw [shC_106, h.z2 (Nat.le_refl _)]
theorem shC_107 (g : GB) (M : Mem) : cellC g 107 M = .inl (g.2.2.2.1, 3, .inr (.inl (M.2 107))) := rfl
theorem frC_107 (g : GB) (M : Mem) (h : Fr 107 M) : cellC g 107 M = .inl (g.2.2.2.1, 3, .inr (.inl (fun _ => 0))) := by rw [shC_107, h.z2 (Nat.le_refl _)]
theorem shC_108 (g : GB) (M : Mem) : cellC g 108 M = .inl (g.2.2.1, 3, .inl (M.1 108)) := rfl
theorem frC_108 (g : GB) (M : Mem) (h : Fr 108 M) : cellC g 108 M = .inl (g.2.2.1, 3, .inl (fun _ => 0)) := by rw [shC_108, h.z1 (Nat.le_refl _)]
theorem shC_109 (g : GB) (M : Mem) : cellC g 109 M = .inl (g.2.2.1, 3, .inl (M.1 109)) := rfl
theorem frC_109 (g : GB) (M : Mem) (h : Fr 109 M) : cellC g 109 M = .inl (g.2.2.1, 3, .inl (fun _ => 0)) := by rw [shC_109, h.z1 (Nat.le_refl _)]
theorem shC_110 (g : GB) (M : Mem) : cellC g 110 M = .inl (g.2.2.2.1, 16, .inr (.inl (M.2 110))) := rfl
theorem frC_110 (g : GB) (M : Mem) (h : Fr 110 M) : cellC g 110 M = .inl (g.2.2.2.1, 16, .inr (.inl (fun _ => 0))) := by rw [shC_110, h.z2 (Nat.le_refl _)]
theorem shC_111 (g : GB) (M : Mem) : cellC g 111 M = .inl (g.2.2.2.1, 16, .inr (.inl (M.2 111))) := rfl
theorem frC_111 (g : GB) (M : Mem) (h : Fr 111 M) : cellC g 111 M = .inl (g.2.2.2.1, 16, .inr (.inl (fun _ => 0))) := by rw [shC_111, h.z2 (Nat.le_refl _)]
theorem shC_112 (g : GB) (M : Mem) : cellC g 112 M = .inl (g.2.2.2.1, 3, .inr (.inl (M.2 112))) := rfl
theorem frC_112 (g : GB) (M : Mem) (h : Fr 112 M) : cellC g 112 M = .inl (g.2.2.2.1, 3, .inr (.inl (fun _ => 0))) := by rw [shC_112, h.z2 (Nat.le_refl _)]
theorem shC_113 (g : GB) (M : Mem) : cellC g 113 M = .inl (g.2.2.2.1, 3, .inr (.inl (M.2 113))) := rfl
theorem frC_113 (g : GB) (M : Mem) (h : Fr 113 M) : cellC g 113 M = .inl (g.2.2.2.1, 3, .inr (.inl (fun _ => 0))) := by rw [shC_113, h.z2 (Nat.le_refl _)]
theorem shC_114 (g : GB) (M : Mem) : cellC g 114 M = .inl (g.2.2.1, 9, .inl (M.1 114)) := rfl
theorem frC_114 (g : GB) (M : Mem) (h : Fr 114 M) : cellC g 114 M = .inl (g.2.2.1, 9, .inl (fun _ => 0)) := by rw [shC_114, h.z1 (Nat.le_refl _)]
theorem shC_115 (g : GB) (M : Mem) : cellC g 115 M = .inl (g.2.2.1, 9, .inl (M.1 115)) := rfl
theorem frC_115 (g : GB) (M : Mem) (h : Fr 115 M) : cellC g 115 M = .inl (g.2.2.1, 9, .inl (fun _ => 0)) := by rw [shC_115, h.z1 (Nat.le_refl _)]
theorem shC_116 (g : GB) (M : Mem) : cellC g 116 M = .inl (g.2.2.1, 10, .inl (M.1 116)) := rfl
theorem frC_116 (g : GB) (M : Mem) (h : Fr 116 M) : cellC g 116 M = .inl (g.2.2.1, 10, .inl (fun _ => 0)) := by rw [shC_116, h.z1 (Nat.le_refl _)]
theorem shC_117 (g : GB) (M : Mem) : cellC g 117 M = .inl (g.2.2.1, 10, .inl (M.1 117)) := rfl
theorem frC_117 (g : GB) (M : Mem) (h : Fr 117 M) : cellC g 117 M = .inl (g.2.2.1, 10, .inl (fun _ => 0)) := by rw [shC_117, h.z1 (Nat.le_refl _)]
theorem shC_118 (g : GB) (M : Mem) : cellC g 118 M = .inl (g.2.2.1, 64, .inl (M.1 118)) := rfl
theorem frC_118 (g : GB) (M : Mem) (h : Fr 118 M) : cellC g 118 M = .inl (g.2.2.1, 64, .inl (fun _ => 0)) := by rw [shC_118, h.z1 (Nat.le_refl _)]
theorem shC_119 (g : GB) (M : Mem) : cellC g 119 M = .inl (g.2.2.2.1, 8, .inr (.inl (M.2 119))) := rfl
theorem frC_119 (g : GB) (M : Mem) (h : Fr 119 M) : cellC g 119 M = .inl (g.2.2.2.1, 8, .inr (.inl (fun _ => 0))) := by rw [shC_119, h.z2 (Nat.le_refl _)]
theorem shC_120 (g : GB) (M : Mem) : cellC g 120 M = .inl (g.2.2.2.1, 8, .inr (.inl (M.2 120))) := rfl
theorem frC_120 (g : GB) (M : Mem) (h : Fr 120 M) : cellC g 120 M = .inl (g.2.2.2.1, 8, .inr (.inl (fun _ => 0))) := by rw [shC_120, h.z2 (Nat.le_refl _)]
theorem shC_121 (g : GB) (M : Mem) : cellC g 121 M = .inl (g.2.2.2.1, 1, .inr (.inl (M.2 121))) := rfl
theorem frC_121 (g : GB) (M : Mem) (h : Fr 121 M) : cellC g 121 M = .inl (g.2.2.2.1, 1, .inr (.inl (fun _ => 0))) := by rw [shC_121, h.z2 (Nat.le_refl _)]
theorem sC_1_0 (g : GB) (M : Mem) (v : Int32) : ([.int (M.1 1 0), .int (M.1 1 1), .int (M.1 1 2), .int (M.1 1 3), .int (M.1 1 4), .int (M.1 1 5), .int (M.1 1 6), .int (M.1 1 7), .int (M.1 1 8), if M.1 1 9 = 0 then .null else .ref (g.2.1 2), if M.1 1 10 = 0 then .null else .ref (g.2.1 4), if M.1 1 11 = 0 then .null else .ref (g.2.1 6), if M.1 1 12 = 0 then .null else .ref (g.2.1 8), if M.1 1 13 = 0 then .null else .ref (g.2.1 10), if M.1 1 14 = 0 then .null else .ref (g.2.1 12)] : List Value).set 0 (.int v) = [.int ((mSI M 1 0 v).1 1 0), .int ((mSI M 1 0 v).1 1 1), .int ((mSI M 1 0 v).1 1 2), .int ((mSI M 1 0 v).1 1 3), .int ((mSI M 1 0 v).1 1 4), .int ((mSI M 1 0 v).1 1 5), .int ((mSI M 1 0 v).1 1 6), .int ((mSI M 1 0 v).1 1 7), .int ((mSI M 1 0 v).1 1 8), if (mSI M 1 0 v).1 1 9 = 0 then .null else .ref (g.2.1 2), if (mSI M 1 0 v).1 1 10 = 0 then .null else .ref (g.2.1 4), if (mSI M 1 0 v).1 1 11 = 0 then .null else .ref (g.2.1 6), if (mSI M 1 0 v).1 1 12 = 0 then .null else .ref (g.2.1 8), if (mSI M 1 0 v).1 1 13 = 0 then .null else .ref (g.2.1 10), if (mSI M 1 0 v).1 1 14 = 0 then .null else .ref (g.2.1 12)] := by first | (simp [mSI, mSL, upd, vp_updL]; done) | rfl
theorem sC_1_1 (g : GB) (M : Mem) (v : Int32) : ([.int (M.1 1 0), .int (M.1 1 1), .int (M.1 1 2), .int (M.1 1 3), .int (M.1 1 4), .int (M.1 1 5), .int (M.1 1 6), .int (M.1 1 7), .int (M.1 1 8), if M.1 1 9 = 0 then .null else .ref (g.2.1 2), if M.1 1 10 = 0 then .null else .ref (g.2.1 4), if M.1 1 11 = 0 then .null else .ref (g.2.1 6), if M.1 1 12 = 0 then .null else .ref (g.2.1 8), if M.1 1 13 = 0 then .null else .ref (g.2.1 10), if M.1 1 14 = 0 then .null else .ref (g.2.1 12)] : List Value).set 1 (.int v) = [.int ((mSI M 1 1 v).1 1 0), .int ((mSI M 1 1 v).1 1 1), .int ((mSI M 1 1 v).1 1 2), .int ((mSI M 1 1 v).1 1 3), .int ((mSI M 1 1 v).1 1 4), .int ((mSI M 1 1 v).1 1 5), .int ((mSI M 1 1 v).1 1 6), .int ((mSI M 1 1 v).1 1 7), .int ((mSI M 1 1 v).1 1 8), if (mSI M 1 1 v).1 1 9 = 0 then .null else .ref (g.2.1 2), if (mSI M 1 1 v).1 1 10 = 0 then .null else .ref (g.2.1 4), if (mSI M 1 1 v).1 1 11 = 0 then .null else .ref (g.2.1 6), if (mSI M 1 1 v).1 1 12 = 0 then .null else .ref (g.2.1 8), if (mSI M 1 1 v).1 1 13 = 0 then .null else .ref (g.2.1 10), if (mSI M 1 1 v).1 1 14 = 0 then .null else .ref (g.2.1 12)] := by first | (simp [mSI, mSL, upd, vp_updL]; done) | rfl
theorem sC_1_2 (g : GB) (M : Mem) (v : Int32) : ([.int (M.1 1 0), .int (M.1 1 1), .int (M.1 1 2), .int (M.1 1 3), .int (M.1 1 4), .int (M.1 1 5), .int (M.1 1 6), .int (M.1 1 7), .int (M.1 1 8), if M.1 1 9 = 0 then .null else .ref (g.2.1 2), if M.1 1 10 = 0 then .null else .ref (g.2.1 4), if M.1 1 11 = 0 then .null else .ref (g.2.1 6), if M.1 1 12 = 0 then .null else .ref (g.2.1 8), if M.1 1 13 = 0 then .null else .ref (g.2.1 10), if M.1 1 14 = 0 then .null else .ref (g.2.1 12)] : List Value).set 2 (.int v) = [.int ((mSI M 1 2 v).1 1 0), .int ((mSI M 1 2 v).1 1 1), .int ((mSI M 1 2 v).1 1 2), .int ((mSI M 1 2 v).1 1 3), .int ((mSI M 1 2 v).1 1 4), .int ((mSI M 1 2 v).1 1 5), .int ((mSI M 1 2 v).1 1 6), .int ((mSI M 1 2 v).1 1 7), .int ((mSI M 1 2 v).1 1 8), if (mSI M 1 2 v).1 1 9 = 0 then .null else .ref (g.2.1 2), if (mSI M 1 2 v).1 1 10 = 0 then .null else .ref (g.2.1 4), if (mSI M 1 2 v).1 1 11 = 0 then .null else .ref (g.2.1 6), if (mSI M 1 2 v).1 1 12 = 0 then .null else .ref (g.2.1 8), if (mSI M 1 2 v).1 1 13 = 0 then .null else .ref (g.2.1 10), if (mSI M 1 2 v).1 1 14 = 0 then .null else .ref (g.2.1 12)] := by first | (simp [mSI, mSL, upd, vp_updL]; done) | rfl
theorem sC_1_3 (g : GB) (M : Mem) (v : Int32) : ([.int (M.1 1 0), .int (M.1 1 1), .int (M.1 1 2), .int (M.1 1 3), .int (M.1 1 4), .int (M.1 1 5), .int (M.1 1 6), .int (M.1 1 7), .int (M.1 1 8), if M.1 1 9 = 0 then .null else .ref (g.2.1 2), if M.1 1 10 = 0 then .null else .ref (g.2.1 4), if M.1 1 11 = 0 then .null else .ref (g.2.1 6), if M.1 1 12 = 0 then .null else .ref (g.2.1 8), if M.1 1 13 = 0 then .null else .ref (g.2.1 10), if M.1 1 14 = 0 then .null else .ref (g.2.1 12)] : List Value).set 3 (.int v) = [.int ((mSI M 1 3 v).1 1 0), .int ((mSI M 1 3 v).1 1 1), .int ((mSI M 1 3 v).1 1 2), .int ((mSI M 1 3 v).1 1 3), .int ((mSI M 1 3 v).1 1 4), .int ((mSI M 1 3 v).1 1 5), .int ((mSI M 1 3 v).1 1 6), .int ((mSI M 1 3 v).1 1 7), .int ((mSI M 1 3 v).1 1 8), if (mSI M 1 3 v).1 1 9 = 0 then .null else .ref (g.2.1 2), if (mSI M 1 3 v).1 1 10 = 0 then .null else .ref (g.2.1 4), if (mSI M 1 3 v).1 1 11 = 0 then .null else .ref (g.2.1 6), if (mSI M 1 3 v).1 1 12 = 0 then .null else .ref (g.2.1 8), if (mSI M 1 3 v).1 1 13 = 0 then .null else .ref (g.2.1 10), if (mSI M 1 3 v).1 1 14 = 0 then .null else .ref (g.2.1 12)] := by first | (simp [mSI, mSL, upd, vp_updL]; done) | rfl
theorem sC_1_4 (g : GB) (M : Mem) (v : Int32) : ([.int (M.1 1 0), .int (M.1 1 1), .int (M.1 1 2), .int (M.1 1 3), .int (M.1 1 4), .int (M.1 1 5), .int (M.1 1 6), .int (M.1 1 7), .int (M.1 1 8), if M.1 1 9 = 0 then .null else .ref (g.2.1 2), if M.1 1 10 = 0 then .null else .ref (g.2.1 4), if M.1 1 11 = 0 then .null else .ref (g.2.1 6), if M.1 1 12 = 0 then .null else .ref (g.2.1 8), if M.1 1 13 = 0 then .null else .ref (g.2.1 10), if M.1 1 14 = 0 then .null else .ref (g.2.1 12)] : List Value).set 4 (.int v) = [.int ((mSI M 1 4 v).1 1 0), .int ((mSI M 1 4 v).1 1 1), .int ((mSI M 1 4 v).1 1 2), .int ((mSI M 1 4 v).1 1 3), .int ((mSI M 1 4 v).1 1 4), .int ((mSI M 1 4 v).1 1 5), .int ((mSI M 1 4 v).1 1 6), .int ((mSI M 1 4 v).1 1 7), .int ((mSI M 1 4 v).1 1 8), if (mSI M 1 4 v).1 1 9 = 0 then .null else .ref (g.2.1 2), if (mSI M 1 4 v).1 1 10 = 0 then .null else .ref (g.2.1 4), if (mSI M 1 4 v).1 1 11 = 0 then .null else .ref (g.2.1 6), if (mSI M 1 4 v).1 1 12 = 0 then .null else .ref (g.2.1 8), if (mSI M 1 4 v).1 1 13 = 0 then .null else .ref (g.2.1 10), if (mSI M 1 4 v).1 1 14 = 0 then .null else .ref (g.2.1 12)] := by first | (simp [mSI, mSL, upd, vp_updL]; done) | rfl
theorem sC_1_5 (g : GB) (M : Mem) (v : Int32) : ([.int (M.1 1 0), .int (M.1 1 1), .int (M.1 1 2), .int (M.1 1 3), .int (M.1 1 4), .int (M.1 1 5), .int (M.1 1 6), .int (M.1 1 7), .int (M.1 1 8), if M.1 1 9 = 0 then .null else .ref (g.2.1 2), if M.1 1 10 = 0 then .null else .ref (g.2.1 4), if M.1 1 11 = 0 then .null else .ref (g.2.1 6), if M.1 1 12 = 0 then .null else .ref (g.2.1 8), if M.1 1 13 = 0 then .null else .ref (g.2.1 10), if M.1 1 14 = 0 then .null else .ref (g.2.1 12)] : List Value).set 5 (.int v) = [.int ((mSI M 1 5 v).1 1 0), .int ((mSI M 1 5 v).1 1 1), .int ((mSI M 1 5 v).1 1 2), .int ((mSI M 1 5 v).1 1 3), .int ((mSI M 1 5 v).1 1 4), .int ((mSI M 1 5 v).1 1 5), .int ((mSI M 1 5 v).1 1 6), .int ((mSI M 1 5 v).1 1 7), .int ((mSI M 1 5 v).1 1 8), if (mSI M 1 5 v).1 1 9 = 0 then .null else .ref (g.2.1 2), if (mSI M 1 5 v).1 1 10 = 0 then .null else .ref (g.2.1 4), if (mSI M 1 5 v).1 1 11 = 0 then .null else .ref (g.2.1 6), if (mSI M 1 5 v).1 1 12 = 0 then .null else .ref (g.2.1 8), if (mSI M 1 5 v).1 1 13 = 0 then .null else .ref (g.2.1 10), if (mSI M 1 5 v).1 1 14 = 0 then .null else .ref (g.2.1 12)] := by first | (simp [mSI, mSL, upd, vp_updL]; done) | rfl
theorem sC_1_6 (g : GB) (M : Mem) (v : Int32) : ([.int (M.1 1 0), .int (M.1 1 1), .int (M.1 1 2), .int (M.1 1 3), .int (M.1 1 4), .int (M.1 1 5), .int (M.1 1 6), .int (M.1 1 7), .int (M.1 1 8), if M.1 1 9 = 0 then .null else .ref (g.2.1 2), if M.1 1 10 = 0 then .null else .ref (g.2.1 4), if M.1 1 11 = 0 then .null else .ref (g.2.1 6), if M.1 1 12 = 0 then .null else .ref (g.2.1 8), if M.1 1 13 = 0 then .null else .ref (g.2.1 10), if M.1 1 14 = 0 then .null else .ref (g.2.1 12)] : List Value).set 6 (.int v) = [.int ((mSI M 1 6 v).1 1 0), .int ((mSI M 1 6 v).1 1 1), .int ((mSI M 1 6 v).1 1 2), .int ((mSI M 1 6 v).1 1 3), .int ((mSI M 1 6 v).1 1 4), .int ((mSI M 1 6 v).1 1 5), .int ((mSI M 1 6 v).1 1 6), .int ((mSI M 1 6 v).1 1 7), .int ((mSI M 1 6 v).1 1 8), if (mSI M 1 6 v).1 1 9 = 0 then .null else .ref (g.2.1 2), if (mSI M 1 6 v).1 1 10 = 0 then .null else .ref (g.2.1 4), if (mSI M 1 6 v).1 1 11 = 0 then .null else .ref (g.2.1 6), if (mSI M 1 6 v).1 1 12 = 0 then .null else .ref (g.2.1 8), if (mSI M 1 6 v).1 1 13 = 0 then .null else .ref (g.2.1 10), if (mSI M 1 6 v).1 1 14 = 0 then .null else .ref (g.2.1 12)] := by first | (simp [mSI, mSL, upd, vp_updL]; done) | rfl
theorem sC_1_7 (g : GB) (M : Mem) (v : Int32) : ([.int (M.1 1 0), .int (M.1 1 1), .int (M.1 1 2), .int (M.1 1 3), .int (M.1 1 4), .int (M.1 1 5), .int (M.1 1 6), .int (M.1 1 7), .int (M.1 1 8), if M.1 1 9 = 0 then .null else .ref (g.2.1 2), if M.1 1 10 = 0 then .null else .ref (g.2.1 4), if M.1 1 11 = 0 then .null else .ref (g.2.1 6), if M.1 1 12 = 0 then .null else .ref (g.2.1 8), if M.1 1 13 = 0 then .null else .ref (g.2.1 10), if M.1 1 14 = 0 then .null else .ref (g.2.1 12)] : List Value).set 7 (.int v) = [.int ((mSI M 1 7 v).1 1 0), .int ((mSI M 1 7 v).1 1 1), .int ((mSI M 1 7 v).1 1 2), .int ((mSI M 1 7 v).1 1 3), .int ((mSI M 1 7 v).1 1 4), .int ((mSI M 1 7 v).1 1 5), .int ((mSI M 1 7 v).1 1 6), .int ((mSI M 1 7 v).1 1 7), .int ((mSI M 1 7 v).1 1 8), if (mSI M 1 7 v).1 1 9 = 0 then .null else .ref (g.2.1 2), if (mSI M 1 7 v).1 1 10 = 0 then .null else .ref (g.2.1 4), if (mSI M 1 7 v).1 1 11 = 0 then .null else .ref (g.2.1 6), if (mSI M 1 7 v).1 1 12 = 0 then .null else .ref (g.2.1 8), if (mSI M 1 7 v).1 1 13 = 0 then .null else .ref (g.2.1 10), if (mSI M 1 7 v).1 1 14 = 0 then .null else .ref (g.2.1 12)] := by first | (simp [mSI, mSL, upd, vp_updL]; done) | rfl
theorem sC_1_8 (g : GB) (M : Mem) (v : Int32) : ([.int (M.1 1 0), .int (M.1 1 1), .int (M.1 1 2), .int (M.1 1 3), .int (M.1 1 4), .int (M.1 1 5), .int (M.1 1 6), .int (M.1 1 7), .int (M.1 1 8), if M.1 1 9 = 0 then .null else .ref (g.2.1 2), if M.1 1 10 = 0 then .null else .ref (g.2.1 4), if M.1 1 11 = 0 then .null else .ref (g.2.1 6), if M.1 1 12 = 0 then .null else .ref (g.2.1 8), if M.1 1 13 = 0 then .null else .ref (g.2.1 10), if M.1 1 14 = 0 then .null else .ref (g.2.1 12)] : List Value).set 8 (.int v) = [.int ((mSI M 1 8 v).1 1 0), .int ((mSI M 1 8 v).1 1 1), .int ((mSI M 1 8 v).1 1 2), .int ((mSI M 1 8 v).1 1 3), .int ((mSI M 1 8 v).1 1 4), .int ((mSI M 1 8 v).1 1 5), .int ((mSI M 1 8 v).1 1 6), .int ((mSI M 1 8 v).1 1 7), .int ((mSI M 1 8 v).1 1 8), if (mSI M 1 8 v).1 1 9 = 0 then .null else .ref (g.2.1 2), if (mSI M 1 8 v).1 1 10 = 0 then .null else .ref (g.2.1 4), if (mSI M 1 8 v).1 1 11 = 0 then .null else .ref (g.2.1 6), if (mSI M 1 8 v).1 1 12 = 0 then .null else .ref (g.2.1 8), if (mSI M 1 8 v).1 1 13 = 0 then .null else .ref (g.2.1 10), if (mSI M 1 8 v).1 1 14 = 0 then .null else .ref (g.2.1 12)] := by first | (simp [mSI, mSL, upd, vp_updL]; done) | rfl
theorem sC_2_0 (g : GB) (M : Mem) : ([if M.1 2 0 = 0 then .null else .ref (g.2.1 3)] : List Value).set 0 (.ref (g.2.1 3)) = [if (mSI M 2 0 1).1 2 0 = 0 then .null else .ref (g.2.1 3)] := by first | (simp [mSI, mSL, upd, vp_updL]; done) | rfl
def on_X7_init : Nat := 0xb10d00b50bbc0700b8031b2a0100b72a
theorem ob_X7_init : OKB cX7_init on_X7_init 16 := ⟨by decide +kernel, by decide +kernel⟩
theorem dX7_init_0 : dc cX7_init 0 1 (.aload_n 0) 1 := o_42 ob_X7_init rfl rfl rfl
theorem dX7_init_1 : dc cX7_init 1 4 (.invokespecial 1) 3 := o_183 ob_X7_init rfl rfl rfl rfl
theorem dX7_init_4 : dc cX7_init 4 5 (.aload_n 0) 1 := o_42 ob_X7_init rfl rfl rfl
theorem dX7_init_5 : dc cX7_init 5 6 (.iload_n 1) 1 := o_27 ob_X7_init rfl rfl rfl
theorem dX7_init_6 : dc cX7_init 6 7 (.iconst 0) 1 := o_3 ob_X7_init rfl rfl rfl
theorem dX7_init_7 : dc cX7_init 7 10 (.invokestatic 7) 3 := o_184 ob_X7_init rfl rfl rfl rfl
theorem dX7_init_12 : dc cX7_init 12 15 (.putfield 13) 3 := o_181 ob_X7_init rfl rfl rfl rfl
theorem dX7_init_15 : dc cX7_init 15 16 .return_ 1 := o_177 ob_X7_init rfl rfl rfl
theorem drX7_init_10 : ([(10, (.newarray .long), 2)] : List (Nat × Instr × Nat)).all (fun q => decide (decode cX7_init q.1 = .ok q.2)) = true := by decide +kernel
theorem dX7_init_10 : dc cX7_init 10 12 (.newarray .long) 2 := ⟨dr_at drX7_init_10 (i := 0) rfl, rfl⟩
def FI_Row_2 (M : Mem) : Mem := (mSI M 2 0 1)
theorem FIk_Row_2 {M : Mem} {k : Nat} (h : k < 2) : (FI_Row_2 M).1 k = M.1 k := by
  unfold FI_Row_2
  rw [mSI_1ne (a := 2) (by omega)]
theorem FrI_Row_2 {M : Mem} (hz : Fr 3 M) : Fr 4 (FI_Row_2 M) := by
  have hz := hz.mono (Nat.le_succ _)
  have hz := hz.sI (k := 2) (j := 0) (v := 1) (Nat.le_of_ble_eq_true rfl)
  exact hz
set_option maxRecDepth 100000 in
set_option maxHeartbeats 4000000 in
theorem KI_Row_2 (l : Launch) (g : GB) (M : Mem) (hz : Fr 3 M) : CC l g yX7_init (.code yX7_init cX7_init 2 none :: wAll) { frames := 1, cells := 1, slots := 18, locals := 40 } [.ref (g.2.1 2), .int 18] 3 M 4 (FI_Row_2 M) := by
  refine CC.of [(0, .ref (g.2.1 2)), (1, .int 18)] (by decide) (Nat.le_of_ble_eq_true rfl) rfl ?_
  intro p e s m args below meth c K hr hin
  refine GC_aload_n rfl 0 rfl K dX7_init_0 ?_
  refine GC_objInit K dX7_init_1 wd_47 wd_34 wd_35 (Nat.le_of_ble_eq_true rfl) (Nat.le_of_ble_eq_true rfl) ?_
  refine GC_aload_n rfl 0 rfl K dX7_init_4 ?_
  refine GC_iload_n rfl 1 rfl K dX7_init_5 ?_
  refine GC_iconst (v := 0) rfl K dX7_init_6 ?_
  refine GC_max (v := 18) (by decide) K dX7_init_7 wd_48 wd_49 wd_4 wd_50 (Nat.le_of_ble_eq_true rfl) (Nat.le_of_ble_eq_true rfl) ⟨Nat.le_of_ble_eq_true rfl, Nat.le_of_ble_eq_true rfl⟩ ?_
  refine GC_newa_long (N := 18) K dX7_init_10 wd_55 (by decide) (by decide) (by decide) rfl (Nat.le_of_ble_eq_true rfl) (frC_3 g _ hz) (by decide) ?_
  have hz := hz.mono (Nat.le_succ _)
  refine GC_putFR (ci := 7) (k := 0) (ty := (.array .long)) K rfl in_X7 tyX7 tyX7_ok nmX7 wd_51 rfl rfl hin rfl (by decide +kernel) rfl rfl dX7_init_12 (Nat.le_of_ble_eq_true rfl) (Nat.le_of_ble_eq_true rfl) (shC_2 g _) (shC_2 g _) (Nat.le_of_ble_eq_true rfl) (Nat.le_of_ble_eq_true rfl) (sC_2_0 g _) ?_
  have hz := hz.sI (k := 2) (j := 0) (v := 1) (Nat.le_of_ble_eq_true rfl)
  exact GC_vret K hr dX7_init_15 (Nat.le_of_ble_eq_true rfl) (Nat.le_of_ble_eq_true rfl) ⟨rfl, rfl⟩
theorem ydc_X7_init : ydN yX7_init 1 := ⟨by decide, by decide, by decide +kernel⟩
theorem sC_1_9 (g : GB) (M : Mem) : ([.int (M.1 1 0), .int (M.1 1 1), .int (M.1 1 2), .int (M.1 1 3), .int (M.1 1 4), .int (M.1 1 5), .int (M.1 1 6), .int (M.1 1 7), .int (M.1 1 8), if M.1 1 9 = 0 then .null else .ref (g.2.1 2), if M.1 1 10 = 0 then .null else .ref (g.2.1 4), if M.1 1 11 = 0 then .null else .ref (g.2.1 6), if M.1 1 12 = 0 then .null else .ref (g.2.1 8), if M.1 1 13 = 0 then .null else .ref (g.2.1 10), if M.1 1 14 = 0 then .null else .ref (g.2.1 12)] : List Value).set 9 (.ref (g.2.1 2)) = [.int ((mSI M 1 9 1).1 1 0), .int ((mSI M 1 9 1).1 1 1), .int ((mSI M 1 9 1).1 1 2), .int ((mSI M 1 9 1).1 1 3), .int ((mSI M 1 9 1).1 1 4), .int ((mSI M 1 9 1).1 1 5), .int ((mSI M 1 9 1).1 1 6), .int ((mSI M 1 9 1).1 1 7), .int ((mSI M 1 9 1).1 1 8), if (mSI M 1 9 1).1 1 9 = 0 then .null else .ref (g.2.1 2), if (mSI M 1 9 1).1 1 10 = 0 then .null else .ref (g.2.1 4), if (mSI M 1 9 1).1 1 11 = 0 then .null else .ref (g.2.1 6), if (mSI M 1 9 1).1 1 12 = 0 then .null else .ref (g.2.1 8), if (mSI M 1 9 1).1 1 13 = 0 then .null else .ref (g.2.1 10), if (mSI M 1 9 1).1 1 14 = 0 then .null else .ref (g.2.1 12)] := by first | (simp [mSI, mSL, upd, vp_updL]; done) | rfl
theorem sC_4_0 (g : GB) (M : Mem) : ([if M.1 4 0 = 0 then .null else .ref (g.2.1 5)] : List Value).set 0 (.ref (g.2.1 5)) = [if (mSI M 4 0 1).1 4 0 = 0 then .null else .ref (g.2.1 5)] := by first | (simp [mSI, mSL, upd, vp_updL]; done) | rfl
def FI_Row_4 (M : Mem) : Mem := (mSI M 4 0 1)
theorem FIk_Row_4 {M : Mem} {k : Nat} (h : k < 4) : (FI_Row_4 M).1 k = M.1 k := by
  unfold FI_Row_4
  rw [mSI_1ne (a := 4) (by omega)]
theorem FrI_Row_4 {M : Mem} (hz : Fr 5 M) : Fr 6 (FI_Row_4 M) := by
  have hz := hz.mono (Nat.le_succ _)
  have hz := hz.sI (k := 4) (j := 0) (v := 1) (Nat.le_of_ble_eq_true rfl)
  exact hz
set_option maxRecDepth 100000 in
set_option maxHeartbeats 4000000 in
theorem KI_Row_4 (l : Launch) (g : GB) (M : Mem) (hz : Fr 5 M) : CC l g yX7_init (.code yX7_init cX7_init 2 none :: wAll) { frames := 1, cells := 1, slots := 117, locals := 40 } [.ref (g.2.1 4), .int 117] 5 M 6 (FI_Row_4 M) := by
  refine CC.of [(0, .ref (g.2.1 4)), (1, .int 117)] (by decide) (Nat.le_of_ble_eq_true rfl) rfl ?_
  intro p e s m args below meth c K hr hin
  refine GC_aload_n rfl 0 rfl K dX7_init_0 ?_
  refine GC_objInit K dX7_init_1 wd_47 wd_34 wd_35 (Nat.le_of_ble_eq_true rfl) (Nat.le_of_ble_eq_true rfl) ?_
  refine GC_aload_n rfl 0 rfl K dX7_init_4 ?_
  refine GC_iload_n rfl 1 rfl K dX7_init_5 ?_
  refine GC_iconst (v := 0) rfl K dX7_init_6 ?_
  refine GC_max (v := 117) (by decide) K dX7_init_7 wd_48 wd_49 wd_4 wd_50 (Nat.le_of_ble_eq_true rfl) (Nat.le_of_ble_eq_true rfl) ⟨Nat.le_of_ble_eq_true rfl, Nat.le_of_ble_eq_true rfl⟩ ?_
  refine GC_newa_long (N := 117) K dX7_init_10 wd_55 (by decide) (by decide) (by decide) rfl (Nat.le_of_ble_eq_true rfl) (frC_5 g _ hz) (by decide) ?_
  have hz := hz.mono (Nat.le_succ _)
  refine GC_putFR (ci := 7) (k := 0) (ty := (.array .long)) K rfl in_X7 tyX7 tyX7_ok nmX7 wd_51 rfl rfl hin rfl (by decide +kernel) rfl rfl dX7_init_12 (Nat.le_of_ble_eq_true rfl) (Nat.le_of_ble_eq_true rfl) (shC_4 g _) (shC_4 g _) (Nat.le_of_ble_eq_true rfl) (Nat.le_of_ble_eq_true rfl) (sC_4_0 g _) ?_
  have hz := hz.sI (k := 4) (j := 0) (v := 1) (Nat.le_of_ble_eq_true rfl)
  exact GC_vret K hr dX7_init_15 (Nat.le_of_ble_eq_true rfl) (Nat.le_of_ble_eq_true rfl) ⟨rfl, rfl⟩
theorem sC_1_10 (g : GB) (M : Mem) : ([.int (M.1 1 0), .int (M.1 1 1), .int (M.1 1 2), .int (M.1 1 3), .int (M.1 1 4), .int (M.1 1 5), .int (M.1 1 6), .int (M.1 1 7), .int (M.1 1 8), if M.1 1 9 = 0 then .null else .ref (g.2.1 2), if M.1 1 10 = 0 then .null else .ref (g.2.1 4), if M.1 1 11 = 0 then .null else .ref (g.2.1 6), if M.1 1 12 = 0 then .null else .ref (g.2.1 8), if M.1 1 13 = 0 then .null else .ref (g.2.1 10), if M.1 1 14 = 0 then .null else .ref (g.2.1 12)] : List Value).set 10 (.ref (g.2.1 4)) = [.int ((mSI M 1 10 1).1 1 0), .int ((mSI M 1 10 1).1 1 1), .int ((mSI M 1 10 1).1 1 2), .int ((mSI M 1 10 1).1 1 3), .int ((mSI M 1 10 1).1 1 4), .int ((mSI M 1 10 1).1 1 5), .int ((mSI M 1 10 1).1 1 6), .int ((mSI M 1 10 1).1 1 7), .int ((mSI M 1 10 1).1 1 8), if (mSI M 1 10 1).1 1 9 = 0 then .null else .ref (g.2.1 2), if (mSI M 1 10 1).1 1 10 = 0 then .null else .ref (g.2.1 4), if (mSI M 1 10 1).1 1 11 = 0 then .null else .ref (g.2.1 6), if (mSI M 1 10 1).1 1 12 = 0 then .null else .ref (g.2.1 8), if (mSI M 1 10 1).1 1 13 = 0 then .null else .ref (g.2.1 10), if (mSI M 1 10 1).1 1 14 = 0 then .null else .ref (g.2.1 12)] := by first | (simp [mSI, mSL, upd, vp_updL]; done) | rfl
theorem sC_6_0 (g : GB) (M : Mem) : ([if M.1 6 0 = 0 then .null else .ref (g.2.1 7)] : List Value).set 0 (.ref (g.2.1 7)) = [if (mSI M 6 0 1).1 6 0 = 0 then .null else .ref (g.2.1 7)] := by first | (simp [mSI, mSL, upd, vp_updL]; done) | rfl
def FI_Row_6 (M : Mem) : Mem := (mSI M 6 0 1)
theorem FIk_Row_6 {M : Mem} {k : Nat} (h : k < 6) : (FI_Row_6 M).1 k = M.1 k := by
  unfold FI_Row_6
  rw [mSI_1ne (a := 6) (by omega)]
theorem FrI_Row_6 {M : Mem} (hz : Fr 7 M) : Fr 8 (FI_Row_6 M) := by
  have hz := hz.mono (Nat.le_succ _)
  have hz := hz.sI (k := 6) (j := 0) (v := 1) (Nat.le_of_ble_eq_true rfl)
  exact hz
set_option maxRecDepth 100000 in
set_option maxHeartbeats 4000000 in
theorem KI_Row_6 (l : Launch) (g : GB) (M : Mem) (hz : Fr 7 M) : CC l g yX7_init (.code yX7_init cX7_init 2 none :: wAll) { frames := 1, cells := 1, slots := 400, locals := 40 } [.ref (g.2.1 6), .int 400] 7 M 8 (FI_Row_6 M) := by
  refine CC.of [(0, .ref (g.2.1 6)), (1, .int 400)] (by decide) (Nat.le_of_ble_eq_true rfl) rfl ?_
  intro p e s m args below meth c K hr hin
  refine GC_aload_n rfl 0 rfl K dX7_init_0 ?_
  refine GC_objInit K dX7_init_1 wd_47 wd_34 wd_35 (Nat.le_of_ble_eq_true rfl) (Nat.le_of_ble_eq_true rfl) ?_
  refine GC_aload_n rfl 0 rfl K dX7_init_4 ?_
  refine GC_iload_n rfl 1 rfl K dX7_init_5 ?_
  refine GC_iconst (v := 0) rfl K dX7_init_6 ?_
  refine GC_max (v := 400) (by decide) K dX7_init_7 wd_48 wd_49 wd_4 wd_50 (Nat.le_of_ble_eq_true rfl) (Nat.le_of_ble_eq_true rfl) ⟨Nat.le_of_ble_eq_true rfl, Nat.le_of_ble_eq_true rfl⟩ ?_
  refine GC_newa_long (N := 400) K dX7_init_10 wd_55 (by decide) (by decide) (by decide) rfl (Nat.le_of_ble_eq_true rfl) (frC_7 g _ hz) (by decide) ?_
  have hz := hz.mono (Nat.le_succ _)
  refine GC_putFR (ci := 7) (k := 0) (ty := (.array .long)) K rfl in_X7 tyX7 tyX7_ok nmX7 wd_51 rfl rfl hin rfl (by decide +kernel) rfl rfl dX7_init_12 (Nat.le_of_ble_eq_true rfl) (Nat.le_of_ble_eq_true rfl) (shC_6 g _) (shC_6 g _) (Nat.le_of_ble_eq_true rfl) (Nat.le_of_ble_eq_true rfl) (sC_6_0 g _) ?_
  have hz := hz.sI (k := 6) (j := 0) (v := 1) (Nat.le_of_ble_eq_true rfl)
  exact GC_vret K hr dX7_init_15 (Nat.le_of_ble_eq_true rfl) (Nat.le_of_ble_eq_true rfl) ⟨rfl, rfl⟩
theorem sC_1_11 (g : GB) (M : Mem) : ([.int (M.1 1 0), .int (M.1 1 1), .int (M.1 1 2), .int (M.1 1 3), .int (M.1 1 4), .int (M.1 1 5), .int (M.1 1 6), .int (M.1 1 7), .int (M.1 1 8), if M.1 1 9 = 0 then .null else .ref (g.2.1 2), if M.1 1 10 = 0 then .null else .ref (g.2.1 4), if M.1 1 11 = 0 then .null else .ref (g.2.1 6), if M.1 1 12 = 0 then .null else .ref (g.2.1 8), if M.1 1 13 = 0 then .null else .ref (g.2.1 10), if M.1 1 14 = 0 then .null else .ref (g.2.1 12)] : List Value).set 11 (.ref (g.2.1 6)) = [.int ((mSI M 1 11 1).1 1 0), .int ((mSI M 1 11 1).1 1 1), .int ((mSI M 1 11 1).1 1 2), .int ((mSI M 1 11 1).1 1 3), .int ((mSI M 1 11 1).1 1 4), .int ((mSI M 1 11 1).1 1 5), .int ((mSI M 1 11 1).1 1 6), .int ((mSI M 1 11 1).1 1 7), .int ((mSI M 1 11 1).1 1 8), if (mSI M 1 11 1).1 1 9 = 0 then .null else .ref (g.2.1 2), if (mSI M 1 11 1).1 1 10 = 0 then .null else .ref (g.2.1 4), if (mSI M 1 11 1).1 1 11 = 0 then .null else .ref (g.2.1 6), if (mSI M 1 11 1).1 1 12 = 0 then .null else .ref (g.2.1 8), if (mSI M 1 11 1).1 1 13 = 0 then .null else .ref (g.2.1 10), if (mSI M 1 11 1).1 1 14 = 0 then .null else .ref (g.2.1 12)] := by first | (simp [mSI, mSL, upd, vp_updL]; done) | rfl
theorem sC_8_0 (g : GB) (M : Mem) : ([if M.1 8 0 = 0 then .null else .ref (g.2.1 9)] : List Value).set 0 (.ref (g.2.1 9)) = [if (mSI M 8 0 1).1 8 0 = 0 then .null else .ref (g.2.1 9)] := by first | (simp [mSI, mSL, upd, vp_updL]; done) | rfl
def FI_Row_8 (M : Mem) : Mem := (mSI M 8 0 1)
theorem FIk_Row_8 {M : Mem} {k : Nat} (h : k < 8) : (FI_Row_8 M).1 k = M.1 k := by
  unfold FI_Row_8
  rw [mSI_1ne (a := 8) (by omega)]
theorem FrI_Row_8 {M : Mem} (hz : Fr 9 M) : Fr 10 (FI_Row_8 M) := by
  have hz := hz.mono (Nat.le_succ _)
  have hz := hz.sI (k := 8) (j := 0) (v := 1) (Nat.le_of_ble_eq_true rfl)
  exact hz
set_option maxRecDepth 100000 in
set_option maxHeartbeats 4000000 in
theorem KI_Row_8 (l : Launch) (g : GB) (M : Mem) (hz : Fr 9 M) : CC l g yX7_init (.code yX7_init cX7_init 2 none :: wAll) { frames := 1, cells := 1, slots := 8, locals := 40 } [.ref (g.2.1 8), .int 8] 9 M 10 (FI_Row_8 M) := by
  refine CC.of [(0, .ref (g.2.1 8)), (1, .int 8)] (by decide) (Nat.le_of_ble_eq_true rfl) rfl ?_
  intro p e s m args below meth c K hr hin
  refine GC_aload_n rfl 0 rfl K dX7_init_0 ?_
  refine GC_objInit K dX7_init_1 wd_47 wd_34 wd_35 (Nat.le_of_ble_eq_true rfl) (Nat.le_of_ble_eq_true rfl) ?_
  refine GC_aload_n rfl 0 rfl K dX7_init_4 ?_
  refine GC_iload_n rfl 1 rfl K dX7_init_5 ?_
  refine GC_iconst (v := 0) rfl K dX7_init_6 ?_
  refine GC_max (v := 8) (by decide) K dX7_init_7 wd_48 wd_49 wd_4 wd_50 (Nat.le_of_ble_eq_true rfl) (Nat.le_of_ble_eq_true rfl) ⟨Nat.le_of_ble_eq_true rfl, Nat.le_of_ble_eq_true rfl⟩ ?_
  refine GC_newa_long (N := 8) K dX7_init_10 wd_55 (by decide) (by decide) (by decide) rfl (Nat.le_of_ble_eq_true rfl) (frC_9 g _ hz) (by decide) ?_
  have hz := hz.mono (Nat.le_succ _)
  refine GC_putFR (ci := 7) (k := 0) (ty := (.array .long)) K rfl in_X7 tyX7 tyX7_ok nmX7 wd_51 rfl rfl hin rfl (by decide +kernel) rfl rfl dX7_init_12 (Nat.le_of_ble_eq_true rfl) (Nat.le_of_ble_eq_true rfl) (shC_8 g _) (shC_8 g _) (Nat.le_of_ble_eq_true rfl) (Nat.le_of_ble_eq_true rfl) (sC_8_0 g _) ?_
  have hz := hz.sI (k := 8) (j := 0) (v := 1) (Nat.le_of_ble_eq_true rfl)
  exact GC_vret K hr dX7_init_15 (Nat.le_of_ble_eq_true rfl) (Nat.le_of_ble_eq_true rfl) ⟨rfl, rfl⟩
theorem sC_1_12 (g : GB) (M : Mem) : ([.int (M.1 1 0), .int (M.1 1 1), .int (M.1 1 2), .int (M.1 1 3), .int (M.1 1 4), .int (M.1 1 5), .int (M.1 1 6), .int (M.1 1 7), .int (M.1 1 8), if M.1 1 9 = 0 then .null else .ref (g.2.1 2), if M.1 1 10 = 0 then .null else .ref (g.2.1 4), if M.1 1 11 = 0 then .null else .ref (g.2.1 6), if M.1 1 12 = 0 then .null else .ref (g.2.1 8), if M.1 1 13 = 0 then .null else .ref (g.2.1 10), if M.1 1 14 = 0 then .null else .ref (g.2.1 12)] : List Value).set 12 (.ref (g.2.1 8)) = [.int ((mSI M 1 12 1).1 1 0), .int ((mSI M 1 12 1).1 1 1), .int ((mSI M 1 12 1).1 1 2), .int ((mSI M 1 12 1).1 1 3), .int ((mSI M 1 12 1).1 1 4), .int ((mSI M 1 12 1).1 1 5), .int ((mSI M 1 12 1).1 1 6), .int ((mSI M 1 12 1).1 1 7), .int ((mSI M 1 12 1).1 1 8), if (mSI M 1 12 1).1 1 9 = 0 then .null else .ref (g.2.1 2), if (mSI M 1 12 1).1 1 10 = 0 then .null else .ref (g.2.1 4), if (mSI M 1 12 1).1 1 11 = 0 then .null else .ref (g.2.1 6), if (mSI M 1 12 1).1 1 12 = 0 then .null else .ref (g.2.1 8), if (mSI M 1 12 1).1 1 13 = 0 then .null else .ref (g.2.1 10), if (mSI M 1 12 1).1 1 14 = 0 then .null else .ref (g.2.1 12)] := by first | (simp [mSI, mSL, upd, vp_updL]; done) | rfl
theorem sC_10_0 (g : GB) (M : Mem) : ([if M.1 10 0 = 0 then .null else .ref (g.2.1 11)] : List Value).set 0 (.ref (g.2.1 11)) = [if (mSI M 10 0 1).1 10 0 = 0 then .null else .ref (g.2.1 11)] := by first | (simp [mSI, mSL, upd, vp_updL]; done) | rfl
def FI_Row_10 (M : Mem) : Mem := (mSI M 10 0 1)
theorem FIk_Row_10 {M : Mem} {k : Nat} (h : k < 10) : (FI_Row_10 M).1 k = M.1 k := by
  unfold FI_Row_10
  rw [mSI_1ne (a := 10) (by omega)]
theorem FrI_Row_10 {M : Mem} (hz : Fr 11 M) : Fr 12 (FI_Row_10 M) := by
  have hz := hz.mono (Nat.le_succ _)
  have hz := hz.sI (k := 10) (j := 0) (v := 1) (Nat.le_of_ble_eq_true rfl)
  exact hz
set_option maxRecDepth 100000 in
set_option maxHeartbeats 4000000 in
theorem KI_Row_10 (l : Launch) (g : GB) (M : Mem) (hz : Fr 11 M) : CC l g yX7_init (.code yX7_init cX7_init 2 none :: wAll) { frames := 1, cells := 1, slots := 6, locals := 40 } [.ref (g.2.1 10), .int 6] 11 M 12 (FI_Row_10 M) := by
  refine CC.of [(0, .ref (g.2.1 10)), (1, .int 6)] (by decide) (Nat.le_of_ble_eq_true rfl) rfl ?_
  intro p e s m args below meth c K hr hin
  refine GC_aload_n rfl 0 rfl K dX7_init_0 ?_
  refine GC_objInit K dX7_init_1 wd_47 wd_34 wd_35 (Nat.le_of_ble_eq_true rfl) (Nat.le_of_ble_eq_true rfl) ?_
  refine GC_aload_n rfl 0 rfl K dX7_init_4 ?_
  refine GC_iload_n rfl 1 rfl K dX7_init_5 ?_
  refine GC_iconst (v := 0) rfl K dX7_init_6 ?_
  refine GC_max (v := 6) (by decide) K dX7_init_7 wd_48 wd_49 wd_4 wd_50 (Nat.le_of_ble_eq_true rfl) (Nat.le_of_ble_eq_true rfl) ⟨Nat.le_of_ble_eq_true rfl, Nat.le_of_ble_eq_true rfl⟩ ?_
  refine GC_newa_long (N := 6) K dX7_init_10 wd_55 (by decide) (by decide) (by decide) rfl (Nat.le_of_ble_eq_true rfl) (frC_11 g _ hz) (by decide) ?_
  have hz := hz.mono (Nat.le_succ _)
  refine GC_putFR (ci := 7) (k := 0) (ty := (.array .long)) K rfl in_X7 tyX7 tyX7_ok nmX7 wd_51 rfl rfl hin rfl (by decide +kernel) rfl rfl dX7_init_12 (Nat.le_of_ble_eq_true rfl) (Nat.le_of_ble_eq_true rfl) (shC_10 g _) (shC_10 g _) (Nat.le_of_ble_eq_true rfl) (Nat.le_of_ble_eq_true rfl) (sC_10_0 g _) ?_
  have hz := hz.sI (k := 10) (j := 0) (v := 1) (Nat.le_of_ble_eq_true rfl)
  exact GC_vret K hr dX7_init_15 (Nat.le_of_ble_eq_true rfl) (Nat.le_of_ble_eq_true rfl) ⟨rfl, rfl⟩
theorem sC_1_13 (g : GB) (M : Mem) : ([.int (M.1 1 0), .int (M.1 1 1), .int (M.1 1 2), .int (M.1 1 3), .int (M.1 1 4), .int (M.1 1 5), .int (M.1 1 6), .int (M.1 1 7), .int (M.1 1 8), if M.1 1 9 = 0 then .null else .ref (g.2.1 2), if M.1 1 10 = 0 then .null else .ref (g.2.1 4), if M.1 1 11 = 0 then .null else .ref (g.2.1 6), if M.1 1 12 = 0 then .null else .ref (g.2.1 8), if M.1 1 13 = 0 then .null else .ref (g.2.1 10), if M.1 1 14 = 0 then .null else .ref (g.2.1 12)] : List Value).set 13 (.ref (g.2.1 10)) = [.int ((mSI M 1 13 1).1 1 0), .int ((mSI M 1 13 1).1 1 1), .int ((mSI M 1 13 1).1 1 2), .int ((mSI M 1 13 1).1 1 3), .int ((mSI M 1 13 1).1 1 4), .int ((mSI M 1 13 1).1 1 5), .int ((mSI M 1 13 1).1 1 6), .int ((mSI M 1 13 1).1 1 7), .int ((mSI M 1 13 1).1 1 8), if (mSI M 1 13 1).1 1 9 = 0 then .null else .ref (g.2.1 2), if (mSI M 1 13 1).1 1 10 = 0 then .null else .ref (g.2.1 4), if (mSI M 1 13 1).1 1 11 = 0 then .null else .ref (g.2.1 6), if (mSI M 1 13 1).1 1 12 = 0 then .null else .ref (g.2.1 8), if (mSI M 1 13 1).1 1 13 = 0 then .null else .ref (g.2.1 10), if (mSI M 1 13 1).1 1 14 = 0 then .null else .ref (g.2.1 12)] := by first | (simp [mSI, mSL, upd, vp_updL]; done) | rfl
theorem sC_12_0 (g : GB) (M : Mem) : ([if M.1 12 0 = 0 then .null else .ref (g.2.1 13)] : List Value).set 0 (.ref (g.2.1 13)) = [if (mSI M 12 0 1).1 12 0 = 0 then .null else .ref (g.2.1 13)] := by first | (simp [mSI, mSL, upd, vp_updL]; done) | rfl
def FI_Row_12 (M : Mem) : Mem := (mSI M 12 0 1)
theorem FIk_Row_12 {M : Mem} {k : Nat} (h : k < 12) : (FI_Row_12 M).1 k = M.1 k := by
  unfold FI_Row_12
  rw [mSI_1ne (a := 12) (by omega)]
theorem FrI_Row_12 {M : Mem} (hz : Fr 13 M) : Fr 14 (FI_Row_12 M) := by
  have hz := hz.mono (Nat.le_succ _)
  have hz := hz.sI (k := 12) (j := 0) (v := 1) (Nat.le_of_ble_eq_true rfl)
  exact hz
set_option maxRecDepth 100000 in
set_option maxHeartbeats 4000000 in
theorem KI_Row_12 (l : Launch) (g : GB) (M : Mem) (hz : Fr 13 M) : CC l g yX7_init (.code yX7_init cX7_init 2 none :: wAll) { frames := 1, cells := 1, slots := 6, locals := 40 } [.ref (g.2.1 12), .int 6] 13 M 14 (FI_Row_12 M) := by
  refine CC.of [(0, .ref (g.2.1 12)), (1, .int 6)] (by decide) (Nat.le_of_ble_eq_true rfl) rfl ?_
  intro p e s m args below meth c K hr hin
  refine GC_aload_n rfl 0 rfl K dX7_init_0 ?_
  refine GC_objInit K dX7_init_1 wd_47 wd_34 wd_35 (Nat.le_of_ble_eq_true rfl) (Nat.le_of_ble_eq_true rfl) ?_
  refine GC_aload_n rfl 0 rfl K dX7_init_4 ?_
  refine GC_iload_n rfl 1 rfl K dX7_init_5 ?_
  refine GC_iconst (v := 0) rfl K dX7_init_6 ?_
  refine GC_max (v := 6) (by decide) K dX7_init_7 wd_48 wd_49 wd_4 wd_50 (Nat.le_of_ble_eq_true rfl) (Nat.le_of_ble_eq_true rfl) ⟨Nat.le_of_ble_eq_true rfl, Nat.le_of_ble_eq_true rfl⟩ ?_
  refine GC_newa_long (N := 6) K dX7_init_10 wd_55 (by decide) (by decide) (by decide) rfl (Nat.le_of_ble_eq_true rfl) (frC_13 g _ hz) (by decide) ?_
  have hz := hz.mono (Nat.le_succ _)
  refine GC_putFR (ci := 7) (k := 0) (ty := (.array .long)) K rfl in_X7 tyX7 tyX7_ok nmX7 wd_51 rfl rfl hin rfl (by decide +kernel) rfl rfl dX7_init_12 (Nat.le_of_ble_eq_true rfl) (Nat.le_of_ble_eq_true rfl) (shC_12 g _) (shC_12 g _) (Nat.le_of_ble_eq_true rfl) (Nat.le_of_ble_eq_true rfl) (sC_12_0 g _) ?_
  have hz := hz.sI (k := 12) (j := 0) (v := 1) (Nat.le_of_ble_eq_true rfl)
  exact GC_vret K hr dX7_init_15 (Nat.le_of_ble_eq_true rfl) (Nat.le_of_ble_eq_true rfl) ⟨rfl, rfl⟩
theorem sC_1_14 (g : GB) (M : Mem) : ([.int (M.1 1 0), .int (M.1 1 1), .int (M.1 1 2), .int (M.1 1 3), .int (M.1 1 4), .int (M.1 1 5), .int (M.1 1 6), .int (M.1 1 7), .int (M.1 1 8), if M.1 1 9 = 0 then .null else .ref (g.2.1 2), if M.1 1 10 = 0 then .null else .ref (g.2.1 4), if M.1 1 11 = 0 then .null else .ref (g.2.1 6), if M.1 1 12 = 0 then .null else .ref (g.2.1 8), if M.1 1 13 = 0 then .null else .ref (g.2.1 10), if M.1 1 14 = 0 then .null else .ref (g.2.1 12)] : List Value).set 14 (.ref (g.2.1 12)) = [.int ((mSI M 1 14 1).1 1 0), .int ((mSI M 1 14 1).1 1 1), .int ((mSI M 1 14 1).1 1 2), .int ((mSI M 1 14 1).1 1 3), .int ((mSI M 1 14 1).1 1 4), .int ((mSI M 1 14 1).1 1 5), .int ((mSI M 1 14 1).1 1 6), .int ((mSI M 1 14 1).1 1 7), .int ((mSI M 1 14 1).1 1 8), if (mSI M 1 14 1).1 1 9 = 0 then .null else .ref (g.2.1 2), if (mSI M 1 14 1).1 1 10 = 0 then .null else .ref (g.2.1 4), if (mSI M 1 14 1).1 1 11 = 0 then .null else .ref (g.2.1 6), if (mSI M 1 14 1).1 1 12 = 0 then .null else .ref (g.2.1 8), if (mSI M 1 14 1).1 1 13 = 0 then .null else .ref (g.2.1 10), if (mSI M 1 14 1).1 1 14 = 0 then .null else .ref (g.2.1 12)] := by first | (simp [mSI, mSL, upd, vp_updL]; done) | rfl
def on_X10_init : Nat := 0xb13c00b52700b70610592500bb2a3900b52700b70610592500bb2a3600b52700b70810592500bb2a3300b52700b7900111592500bb2a2e00b52700b77510592500bb2a2a00b52700b71210592500bb2a2200b5032a1f00b5032a1c00b5032a1900b50a102a1600b5042a1300b5032a1000b5052a0d00b5042a0700b5052a0100b72a
theorem ob_X10_init : OKB cX10_init on_X10_init 130 := ⟨by decide +kernel, by decide +kernel⟩
theorem dX10_init_0 : dc cX10_init 0 1 (.aload_n 0) 1 := o_42 ob_X10_init rfl rfl rfl
theorem dX10_init_1 : dc cX10_init 1 4 (.invokespecial 1) 3 := o_183 ob_X10_init rfl rfl rfl rfl
theorem dX10_init_4 : dc cX10_init 4 5 (.aload_n 0) 1 := o_42 ob_X10_init rfl rfl rfl
theorem dX10_init_5 : dc cX10_init 5 6 (.iconst 2) 1 := o_5 ob_X10_init rfl rfl rfl
theorem dX10_init_6 : dc cX10_init 6 9 (.putfield 7) 3 := o_181 ob_X10_init rfl rfl rfl rfl
theorem dX10_init_9 : dc cX10_init 9 10 (.aload_n 0) 1 := o_42 ob_X10_init rfl rfl rfl
theorem dX10_init_10 : dc cX10_init 10 11 (.iconst 1) 1 := o_4 ob_X10_init rfl rfl rfl
theorem dX10_init_11 : dc cX10_init 11 14 (.putfield 13) 3 := o_181 ob_X10_init rfl rfl rfl rfl
theorem dX10_init_14 : dc cX10_init 14 15 (.aload_n 0) 1 := o_42 ob_X10_init rfl rfl rfl
theorem dX10_init_15 : dc cX10_init 15 16 (.iconst 2) 1 := o_5 ob_X10_init rfl rfl rfl
theorem dX10_init_16 : dc cX10_init 16 19 (.putfield 16) 3 := o_181 ob_X10_init rfl rfl rfl rfl
theorem dX10_init_19 : dc cX10_init 19 20 (.aload_n 0) 1 := o_42 ob_X10_init rfl rfl rfl
theorem dX10_init_20 : dc cX10_init 20 21 (.iconst 0) 1 := o_3 ob_X10_init rfl rfl rfl
theorem dX10_init_21 : dc cX10_init 21 24 (.putfield 19) 3 := o_181 ob_X10_init rfl rfl rfl rfl
theorem dX10_init_24 : dc cX10_init 24 25 (.aload_n 0) 1 := o_42 ob_X10_init rfl rfl rfl
theorem dX10_init_25 : dc cX10_init 25 26 (.iconst 1) 1 := o_4 ob_X10_init rfl rfl rfl
theorem dX10_init_26 : dc cX10_init 26 29 (.putfield 22) 3 := o_181 ob_X10_init rfl rfl rfl rfl
theorem dX10_init_29 : dc cX10_init 29 30 (.aload_n 0) 1 := o_42 ob_X10_init rfl rfl rfl
theorem dX10_init_30 : dc cX10_init 30 32 (.bipush 10) 2 := o_16 ob_X10_init rfl rfl rfl rfl
theorem dX10_init_32 : dc cX10_init 32 35 (.putfield 25) 3 := o_181 ob_X10_init rfl rfl rfl rfl
theorem dX10_init_35 : dc cX10_init 35 36 (.aload_n 0) 1 := o_42 ob_X10_init rfl rfl rfl
theorem dX10_init_36 : dc cX10_init 36 37 (.iconst 0) 1 := o_3 ob_X10_init rfl rfl rfl
theorem dX10_init_37 : dc cX10_init 37 40 (.putfield 28) 3 := o_181 ob_X10_init rfl rfl rfl rfl
theorem dX10_init_40 : dc cX10_init 40 41 (.aload_n 0) 1 := o_42 ob_X10_init rfl rfl rfl
theorem dX10_init_41 : dc cX10_init 41 42 (.iconst 0) 1 := o_3 ob_X10_init rfl rfl rfl
theorem dX10_init_42 : dc cX10_init 42 45 (.putfield 31) 3 := o_181 ob_X10_init rfl rfl rfl rfl
theorem dX10_init_45 : dc cX10_init 45 46 (.aload_n 0) 1 := o_42 ob_X10_init rfl rfl rfl
theorem dX10_init_46 : dc cX10_init 46 47 (.iconst 0) 1 := o_3 ob_X10_init rfl rfl rfl
theorem dX10_init_47 : dc cX10_init 47 50 (.putfield 34) 3 := o_181 ob_X10_init rfl rfl rfl rfl
theorem dX10_init_50 : dc cX10_init 50 51 (.aload_n 0) 1 := o_42 ob_X10_init rfl rfl rfl
theorem dX10_init_51 : dc cX10_init 51 54 (.new 37) 3 := o_187 ob_X10_init rfl rfl rfl rfl
theorem dX10_init_54 : dc cX10_init 54 55 .dup 1 := o_89 ob_X10_init rfl rfl rfl
theorem dX10_init_55 : dc cX10_init 55 57 (.bipush 18) 2 := o_16 ob_X10_init rfl rfl rfl rfl
theorem dX10_init_57 : dc cX10_init 57 60 (.invokespecial 39) 3 := o_183 ob_X10_init rfl rfl rfl rfl
theorem dX10_init_60 : dc cX10_init 60 63 (.putfield 42) 3 := o_181 ob_X10_init rfl rfl rfl rfl
theorem dX10_init_63 : dc cX10_init 63 64 (.aload_n 0) 1 := o_42 ob_X10_init rfl rfl rfl
theorem dX10_init_64 : dc cX10_init 64 67 (.new 37) 3 := o_187 ob_X10_init rfl rfl rfl rfl
theorem dX10_init_67 : dc cX10_init 67 68 .dup 1 := o_89 ob_X10_init rfl rfl rfl
theorem dX10_init_68 : dc cX10_init 68 70 (.bipush 117) 2 := o_16 ob_X10_init rfl rfl rfl rfl
theorem dX10_init_70 : dc cX10_init 70 73 (.invokespecial 39) 3 := o_183 ob_X10_init rfl rfl rfl rfl
theorem dX10_init_73 : dc cX10_init 73 76 (.putfield 46) 3 := o_181 ob_X10_init rfl rfl rfl rfl
theorem dX10_init_76 : dc cX10_init 76 77 (.aload_n 0) 1 := o_42 ob_X10_init rfl rfl rfl
theorem dX10_init_77 : dc cX10_init 77 80 (.new 37) 3 := o_187 ob_X10_init rfl rfl rfl rfl
theorem dX10_init_80 : dc cX10_init 80 81 .dup 1 := o_89 ob_X10_init rfl rfl rfl
theorem dX10_init_81 : dc cX10_init 81 84 (.sipush 400) 3 := o_17 ob_X10_init rfl rfl rfl rfl
theorem dX10_init_84 : dc cX10_init 84 87 (.invokespecial 39) 3 := o_183 ob_X10_init rfl rfl rfl rfl
theorem dX10_init_87 : dc cX10_init 87 90 (.putfield 51) 3 := o_181 ob_X10_init rfl rfl rfl rfl
theorem dX10_init_90 : dc cX10_init 90 91 (.aload_n 0) 1 := o_42 ob_X10_init rfl rfl rfl
theorem dX10_init_91 : dc cX10_init 91 94 (.new 37) 3 := o_187 ob_X10_init rfl rfl rfl rfl
theorem dX10_init_94 : dc cX10_init 94 95 .dup 1 := o_89 ob_X10_init rfl rfl rfl
theorem dX10_init_95 : dc cX10_init 95 97 (.bipush 8) 2 := o_16 ob_X10_init rfl rfl rfl rfl
theorem dX10_init_97 : dc cX10_init 97 100 (.invokespecial 39) 3 := o_183 ob_X10_init rfl rfl rfl rfl
theorem dX10_init_100 : dc cX10_init 100 103 (.putfield 54) 3 := o_181 ob_X10_init rfl rfl rfl rfl
theorem dX10_init_103 : dc cX10_init 103 104 (.aload_n 0) 1 := o_42 ob_X10_init rfl rfl rfl
theorem dX10_init_104 : dc cX10_init 104 107 (.new 37) 3 := o_187 ob_X10_init rfl rfl rfl rfl
theorem dX10_init_107 : dc cX10_init 107 108 .dup 1 := o_89 ob_X10_init rfl rfl rfl
theorem dX10_init_108 : dc cX10_init 108 110 (.bipush 6) 2 := o_16 ob_X10_init rfl rfl rfl rfl
theorem dX10_init_110 : dc cX10_init 110 113 (.invokespecial 39) 3 := o_183 ob_X10_init rfl rfl rfl rfl
theorem dX10_init_113 : dc cX10_init 113 116 (.putfield 57) 3 := o_181 ob_X10_init rfl rfl rfl rfl
theorem dX10_init_116 : dc cX10_init 116 117 (.aload_n 0) 1 := o_42 ob_X10_init rfl rfl rfl
theorem dX10_init_117 : dc cX10_init 117 120 (.new 37) 3 := o_187 ob_X10_init rfl rfl rfl rfl
theorem dX10_init_120 : dc cX10_init 120 121 .dup 1 := o_89 ob_X10_init rfl rfl rfl
theorem dX10_init_121 : dc cX10_init 121 123 (.bipush 6) 2 := o_16 ob_X10_init rfl rfl rfl rfl
theorem dX10_init_123 : dc cX10_init 123 126 (.invokespecial 39) 3 := o_183 ob_X10_init rfl rfl rfl rfl
theorem dX10_init_126 : dc cX10_init 126 129 (.putfield 60) 3 := o_181 ob_X10_init rfl rfl rfl rfl
theorem dX10_init_129 : dc cX10_init 129 130 .return_ 1 := o_177 ob_X10_init rfl rfl rfl
def FI_Well_1 (M : Mem) : Mem := (mSI ((FI_Row_12 ((mSI ((FI_Row_10 ((mSI ((FI_Row_8 ((mSI ((FI_Row_6 ((mSI ((FI_Row_4 ((mSI ((FI_Row_2 ((mSI ((mSI ((mSI ((mSI ((mSI ((mSI ((mSI ((mSI ((mSI M 1 0 2)) 1 1 1)) 1 2 2)) 1 3 0)) 1 4 1)) 1 5 10)) 1 6 0)) 1 7 0)) 1 8 0)))) 1 9 1)))) 1 10 1)))) 1 11 1)))) 1 12 1)))) 1 13 1)))) 1 14 1)
theorem FIk_Well_1 {M : Mem} {k : Nat} (h : k < 1) : (FI_Well_1 M).1 k = M.1 k := by
  unfold FI_Well_1
  rw [mSI_1ne (a := 1) (by omega), FIk_Row_12 (k := k) (by omega), mSI_1ne (a := 1) (by omega), FIk_Row_10 (k := k) (by omega), mSI_1ne (a := 1) (by omega), FIk_Row_8 (k := k) (by omega), mSI_1ne (a := 1) (by omega), FIk_Row_6 (k := k) (by omega), mSI_1ne (a := 1) (by omega), FIk_Row_4 (k := k) (by omega), mSI_1ne (a := 1) (by omega), FIk_Row_2 (k := k) (by omega), mSI_1ne (a := 1) (by omega), mSI_1ne (a := 1) (by omega), mSI_1ne (a := 1) (by omega), mSI_1ne (a := 1) (by omega), mSI_1ne (a := 1) (by omega), mSI_1ne (a := 1) (by omega), mSI_1ne (a := 1) (by omega), mSI_1ne (a := 1) (by omega), mSI_1ne (a := 1) (by omega)]
theorem FrI_Well_1 {M : Mem} (hz : Fr 2 M) : Fr 14 (FI_Well_1 M) := by
  have hz := hz.sI (k := 1) (j := 0) (v := 2) (Nat.le_of_ble_eq_true rfl)
  have hz := hz.sI (k := 1) (j := 1) (v := 1) (Nat.le_of_ble_eq_true rfl)
  have hz := hz.sI (k := 1) (j := 2) (v := 2) (Nat.le_of_ble_eq_true rfl)
  have hz := hz.sI (k := 1) (j := 3) (v := 0) (Nat.le_of_ble_eq_true rfl)
  have hz := hz.sI (k := 1) (j := 4) (v := 1) (Nat.le_of_ble_eq_true rfl)
  have hz := hz.sI (k := 1) (j := 5) (v := 10) (Nat.le_of_ble_eq_true rfl)
  have hz := hz.sI (k := 1) (j := 6) (v := 0) (Nat.le_of_ble_eq_true rfl)
  have hz := hz.sI (k := 1) (j := 7) (v := 0) (Nat.le_of_ble_eq_true rfl)
  have hz := hz.sI (k := 1) (j := 8) (v := 0) (Nat.le_of_ble_eq_true rfl)
  have hz := hz.mono (Nat.le_succ _)
  have hz := FrI_Row_2 hz
  have hz := hz.sI (k := 1) (j := 9) (v := 1) (Nat.le_of_ble_eq_true rfl)
  have hz := hz.mono (Nat.le_succ _)
  have hz := FrI_Row_4 hz
  have hz := hz.sI (k := 1) (j := 10) (v := 1) (Nat.le_of_ble_eq_true rfl)
  have hz := hz.mono (Nat.le_succ _)
  have hz := FrI_Row_6 hz
  have hz := hz.sI (k := 1) (j := 11) (v := 1) (Nat.le_of_ble_eq_true rfl)
  have hz := hz.mono (Nat.le_succ _)
  have hz := FrI_Row_8 hz
  have hz := hz.sI (k := 1) (j := 12) (v := 1) (Nat.le_of_ble_eq_true rfl)
  have hz := hz.mono (Nat.le_succ _)
  have hz := FrI_Row_10 hz
  have hz := hz.sI (k := 1) (j := 13) (v := 1) (Nat.le_of_ble_eq_true rfl)
  have hz := hz.mono (Nat.le_succ _)
  have hz := FrI_Row_12 hz
  have hz := hz.sI (k := 1) (j := 14) (v := 1) (Nat.le_of_ble_eq_true rfl)
  exact hz
set_option maxRecDepth 100000 in
set_option maxHeartbeats 4000000 in
theorem KI_Well_1 (l : Launch) (g : GB) (M : Mem) (hz : Fr 2 M) : CC l g yX10_init (.code yX10_init cX10_init 1 none :: wAll) { frames := 2, cells := 12, slots := 561, locals := 61 } [.ref (g.2.1 1)] 2 M 14 (FI_Well_1 M) := by
  refine CC.of [(0, .ref (g.2.1 1))] (by decide) (Nat.le_of_ble_eq_true rfl) rfl ?_
  intro p e s m args below meth c K hr hin
  refine GC_aload_n rfl 0 rfl K dX10_init_0 ?_
  refine GC_objInit K dX10_init_1 wd_41 wd_34 wd_35 (Nat.le_of_ble_eq_true rfl) (Nat.le_of_ble_eq_true rfl) ?_
  refine GC_aload_n rfl 0 rfl K dX10_init_4 ?_
  refine GC_iconst (v := 2) rfl K dX10_init_5 ?_
  refine GC_putI (ci := 10) (k := 0) (ty := .int) K rfl in_X10 tyX10 tyX10_ok nmX10 wd_56 rfl rfl (by decide +kernel) rfl rfl dX10_init_6 (Nat.le_of_ble_eq_true rfl) (Nat.le_of_ble_eq_true rfl) (shC_1 g _) (shC_1 g _) (Nat.le_of_ble_eq_true rfl) (Nat.le_of_ble_eq_true rfl) (sC_1_0 g _ _) ?_
  have hz := hz.sI (k := 1) (j := 0) (v := 2) (Nat.le_of_ble_eq_true rfl)
  refine GC_aload_n rfl 0 rfl K dX10_init_9 ?_
  refine GC_iconst (v := 1) rfl K dX10_init_10 ?_
  refine GC_putI (ci := 10) (k := 1) (ty := .int) K rfl in_X10 tyX10 tyX10_ok nmX10 wd_61 rfl rfl (by decide +kernel) rfl rfl dX10_init_11 (Nat.le_of_ble_eq_true rfl) (Nat.le_of_ble_eq_true rfl) (shC_1 g _) (shC_1 g _) (Nat.le_of_ble_eq_true rfl) (Nat.le_of_ble_eq_true rfl) (sC_1_1 g _ _) ?_
  have hz := hz.sI (k := 1) (j := 1) (v := 1) (Nat.le_of_ble_eq_true rfl)
  refine GC_aload_n rfl 0 rfl K dX10_init_14 ?_
  refine GC_iconst (v := 2) rfl K dX10_init_15 ?_
  refine GC_putI (ci := 10) (k := 2) (ty := .int) K rfl in_X10 tyX10 tyX10_ok nmX10 wd_67 rfl rfl (by decide +kernel) rfl rfl dX10_init_16 (Nat.le_of_ble_eq_true rfl) (Nat.le_of_ble_eq_true rfl) (shC_1 g _) (shC_1 g _) (Nat.le_of_ble_eq_true rfl) (Nat.le_of_ble_eq_true rfl) (sC_1_2 g _ _) ?_
  have hz := hz.sI (k := 1) (j := 2) (v := 2) (Nat.le_of_ble_eq_true rfl)
  refine GC_aload_n rfl 0 rfl K dX10_init_19 ?_
  refine GC_iconst (v := 0) rfl K dX10_init_20 ?_
  refine GC_putI (ci := 10) (k := 3) (ty := .int) K rfl in_X10 tyX10 tyX10_ok nmX10 wd_73 rfl rfl (by decide +kernel) rfl rfl dX10_init_21 (Nat.le_of_ble_eq_true rfl) (Nat.le_of_ble_eq_true rfl) (shC_1 g _) (shC_1 g _) (Nat.le_of_ble_eq_true rfl) (Nat.le_of_ble_eq_true rfl) (sC_1_3 g _ _) ?_
  have hz := hz.sI (k := 1) (j := 3) (v := 0) (Nat.le_of_ble_eq_true rfl)
  refine GC_aload_n rfl 0 rfl K dX10_init_24 ?_
  refine GC_iconst (v := 1) rfl K dX10_init_25 ?_
  refine GC_putI (ci := 10) (k := 4) (ty := .int) K rfl in_X10 tyX10 tyX10_ok nmX10 wd_77 rfl rfl (by decide +kernel) rfl rfl dX10_init_26 (Nat.le_of_ble_eq_true rfl) (Nat.le_of_ble_eq_true rfl) (shC_1 g _) (shC_1 g _) (Nat.le_of_ble_eq_true rfl) (Nat.le_of_ble_eq_true rfl) (sC_1_4 g _ _) ?_
  have hz := hz.sI (k := 1) (j := 4) (v := 1) (Nat.le_of_ble_eq_true rfl)
  refine GC_aload_n rfl 0 rfl K dX10_init_29 ?_
  refine GC_bipush (v := 10) rfl K dX10_init_30 ?_
  refine GC_putI (ci := 10) (k := 5) (ty := .int) K rfl in_X10 tyX10 tyX10_ok nmX10 wd_81 rfl rfl (by decide +kernel) rfl rfl dX10_init_32 (Nat.le_of_ble_eq_true rfl) (Nat.le_of_ble_eq_true rfl) (shC_1 g _) (shC_1 g _) (Nat.le_of_ble_eq_true rfl) (Nat.le_of_ble_eq_true rfl) (sC_1_5 g _ _) ?_
  have hz := hz.sI (k := 1) (j := 5) (v := 10) (Nat.le_of_ble_eq_true rfl)
  refine GC_aload_n rfl 0 rfl K dX10_init_35 ?_
  refine GC_iconst (v := 0) rfl K dX10_init_36 ?_
  refine GC_putI (ci := 10) (k := 6) (ty := .int) K rfl in_X10 tyX10 tyX10_ok nmX10 wd_84 rfl rfl (by decide +kernel) rfl rfl dX10_init_37 (Nat.le_of_ble_eq_true rfl) (Nat.le_of_ble_eq_true rfl) (shC_1 g _) (shC_1 g _) (Nat.le_of_ble_eq_true rfl) (Nat.le_of_ble_eq_true rfl) (sC_1_6 g _ _) ?_
  have hz := hz.sI (k := 1) (j := 6) (v := 0) (Nat.le_of_ble_eq_true rfl)
  refine GC_aload_n rfl 0 rfl K dX10_init_40 ?_
  refine GC_iconst (v := 0) rfl K dX10_init_41 ?_
  refine GC_putI (ci := 10) (k := 7) (ty := .int) K rfl in_X10 tyX10 tyX10_ok nmX10 wd_88 rfl rfl (by decide +kernel) rfl rfl dX10_init_42 (Nat.le_of_ble_eq_true rfl) (Nat.le_of_ble_eq_true rfl) (shC_1 g _) (shC_1 g _) (Nat.le_of_ble_eq_true rfl) (Nat.le_of_ble_eq_true rfl) (sC_1_7 g _ _) ?_
  have hz := hz.sI (k := 1) (j := 7) (v := 0) (Nat.le_of_ble_eq_true rfl)
  refine GC_aload_n rfl 0 rfl K dX10_init_45 ?_
  refine GC_iconst (v := 0) rfl K dX10_init_46 ?_
  refine GC_putI (ci := 10) (k := 8) (ty := .int) K rfl in_X10 tyX10 tyX10_ok nmX10 wd_91 rfl rfl (by decide +kernel) rfl rfl dX10_init_47 (Nat.le_of_ble_eq_true rfl) (Nat.le_of_ble_eq_true rfl) (shC_1 g _) (shC_1 g _) (Nat.le_of_ble_eq_true rfl) (Nat.le_of_ble_eq_true rfl) (sC_1_8 g _ _) ?_
  have hz := hz.sI (k := 1) (j := 8) (v := 0) (Nat.le_of_ble_eq_true rfl)
  refine GC_aload_n rfl 0 rfl K dX10_init_50 ?_
  refine GC_new (ci := 7) tyX7 tyX7_ok K rfl in_X7 wd_42 wd_43 wd_3 dX10_init_51 rfl (Nat.le_of_ble_eq_true rfl) (frC_2 g _ hz) (fun j hj => by revert j; decide +kernel) (by decide) ?_
  have hz := hz.mono (Nat.le_succ _)
  refine GC_dup rfl K dX10_init_54 ?_
  refine GC_bipush (v := 18) rfl K dX10_init_55 ?_
  refine GC_callI (y := yX7_init) [.int 18] [.ref (g.2.1 2), .ref (g.2.1 1)] K dX10_init_57 wd_44 wd_45 wd_3 wd_46 rfl ydc_X7_init (by decide) (by decide) rfl (Nat.le_of_ble_eq_true rfl) rfl rfl (Nat.le_of_ble_eq_true rfl) (KI_Row_2 l g _ hz) ?_
  have hz := FrI_Row_2 hz
  refine GC_putFR (ci := 10) (k := 9) (ty := (.object "KeptWell$Row")) K rfl in_X10 tyX10 tyX10_ok nmX10 wd_94 rfl rfl hin rfl (by decide +kernel) rfl rfl dX10_init_60 (Nat.le_of_ble_eq_true rfl) (Nat.le_of_ble_eq_true rfl) (shC_1 g _) (shC_1 g _) (Nat.le_of_ble_eq_true rfl) (Nat.le_of_ble_eq_true rfl) (sC_1_9 g _) ?_
  have hz := hz.sI (k := 1) (j := 9) (v := 1) (Nat.le_of_ble_eq_true rfl)
  refine GC_aload_n rfl 0 rfl K dX10_init_63 ?_
  refine GC_new (ci := 7) tyX7 tyX7_ok K rfl in_X7 wd_42 wd_43 wd_3 dX10_init_64 rfl (Nat.le_of_ble_eq_true rfl) (frC_4 g _ hz) (fun j hj => by revert j; decide +kernel) (by decide) ?_
  have hz := hz.mono (Nat.le_succ _)
  refine GC_dup rfl K dX10_init_67 ?_
  refine GC_bipush (v := 117) rfl K dX10_init_68 ?_
  refine GC_callI (y := yX7_init) [.int 117] [.ref (g.2.1 4), .ref (g.2.1 1)] K dX10_init_70 wd_44 wd_45 wd_3 wd_46 rfl ydc_X7_init (by decide) (by decide) rfl (Nat.le_of_ble_eq_true rfl) rfl rfl (Nat.le_of_ble_eq_true rfl) (KI_Row_4 l g _ hz) ?_
  have hz := FrI_Row_4 hz
  refine GC_putFR (ci := 10) (k := 10) (ty := (.object "KeptWell$Row")) K rfl in_X10 tyX10 tyX10_ok nmX10 wd_95 rfl rfl hin rfl (by decide +kernel) rfl rfl dX10_init_73 (Nat.le_of_ble_eq_true rfl) (Nat.le_of_ble_eq_true rfl) (shC_1 g _) (shC_1 g _) (Nat.le_of_ble_eq_true rfl) (Nat.le_of_ble_eq_true rfl) (sC_1_10 g _) ?_
  have hz := hz.sI (k := 1) (j := 10) (v := 1) (Nat.le_of_ble_eq_true rfl)
  refine GC_aload_n rfl 0 rfl K dX10_init_76 ?_
  refine GC_new (ci := 7) tyX7 tyX7_ok K rfl in_X7 wd_42 wd_43 wd_3 dX10_init_77 rfl (Nat.le_of_ble_eq_true rfl) (frC_6 g _ hz) (fun j hj => by revert j; decide +kernel) (by decide) ?_
  have hz := hz.mono (Nat.le_succ _)
  refine GC_dup rfl K dX10_init_80 ?_
  refine GC_sipush (v := 400) rfl K dX10_init_81 ?_
  refine GC_callI (y := yX7_init) [.int 400] [.ref (g.2.1 6), .ref (g.2.1 1)] K dX10_init_84 wd_44 wd_45 wd_3 wd_46 rfl ydc_X7_init (by decide) (by decide) rfl (Nat.le_of_ble_eq_true rfl) rfl rfl (Nat.le_of_ble_eq_true rfl) (KI_Row_6 l g _ hz) ?_
  have hz := FrI_Row_6 hz
  refine GC_putFR (ci := 10) (k := 11) (ty := (.object "KeptWell$Row")) K rfl in_X10 tyX10 tyX10_ok nmX10 wd_96 rfl rfl hin rfl (by decide +kernel) rfl rfl dX10_init_87 (Nat.le_of_ble_eq_true rfl) (Nat.le_of_ble_eq_true rfl) (shC_1 g _) (shC_1 g _) (Nat.le_of_ble_eq_true rfl) (Nat.le_of_ble_eq_true rfl) (sC_1_11 g _) ?_
  have hz := hz.sI (k := 1) (j := 11) (v := 1) (Nat.le_of_ble_eq_true rfl)
  refine GC_aload_n rfl 0 rfl K dX10_init_90 ?_
  refine GC_new (ci := 7) tyX7 tyX7_ok K rfl in_X7 wd_42 wd_43 wd_3 dX10_init_91 rfl (Nat.le_of_ble_eq_true rfl) (frC_8 g _ hz) (fun j hj => by revert j; decide +kernel) (by decide) ?_
  have hz := hz.mono (Nat.le_succ _)
  refine GC_dup rfl K dX10_init_94 ?_
  refine GC_bipush (v := 8) rfl K dX10_init_95 ?_
  refine GC_callI (y := yX7_init) [.int 8] [.ref (g.2.1 8), .ref (g.2.1 1)] K dX10_init_97 wd_44 wd_45 wd_3 wd_46 rfl ydc_X7_init (by decide) (by decide) rfl (Nat.le_of_ble_eq_true rfl) rfl rfl (Nat.le_of_ble_eq_true rfl) (KI_Row_8 l g _ hz) ?_
  have hz := FrI_Row_8 hz
  refine GC_putFR (ci := 10) (k := 12) (ty := (.object "KeptWell$Row")) K rfl in_X10 tyX10 tyX10_ok nmX10 wd_99 rfl rfl hin rfl (by decide +kernel) rfl rfl dX10_init_100 (Nat.le_of_ble_eq_true rfl) (Nat.le_of_ble_eq_true rfl) (shC_1 g _) (shC_1 g _) (Nat.le_of_ble_eq_true rfl) (Nat.le_of_ble_eq_true rfl) (sC_1_12 g _) ?_
  have hz := hz.sI (k := 1) (j := 12) (v := 1) (Nat.le_of_ble_eq_true rfl)
  refine GC_aload_n rfl 0 rfl K dX10_init_103 ?_
  refine GC_new (ci := 7) tyX7 tyX7_ok K rfl in_X7 wd_42 wd_43 wd_3 dX10_init_104 rfl (Nat.le_of_ble_eq_true rfl) (frC_10 g _ hz) (fun j hj => by revert j; decide +kernel) (by decide) ?_
  have hz := hz.mono (Nat.le_succ _)
  refine GC_dup rfl K dX10_init_107 ?_
  refine GC_bipush (v := 6) rfl K dX10_init_108 ?_
  refine GC_callI (y := yX7_init) [.int 6] [.ref (g.2.1 10), .ref (g.2.1 1)] K dX10_init_110 wd_44 wd_45 wd_3 wd_46 rfl ydc_X7_init (by decide) (by decide) rfl (Nat.le_of_ble_eq_true rfl) rfl rfl (Nat.le_of_ble_eq_true rfl) (KI_Row_10 l g _ hz) ?_
  have hz := FrI_Row_10 hz
  refine GC_putFR (ci := 10) (k := 13) (ty := (.object "KeptWell$Row")) K rfl in_X10 tyX10 tyX10_ok nmX10 wd_102 rfl rfl hin rfl (by decide +kernel) rfl rfl dX10_init_113 (Nat.le_of_ble_eq_true rfl) (Nat.le_of_ble_eq_true rfl) (shC_1 g _) (shC_1 g _) (Nat.le_of_ble_eq_true rfl) (Nat.le_of_ble_eq_true rfl) (sC_1_13 g _) ?_
  have hz := hz.sI (k := 1) (j := 13) (v := 1) (Nat.le_of_ble_eq_true rfl)
  refine GC_aload_n rfl 0 rfl K dX10_init_116 ?_
  refine GC_new (ci := 7) tyX7 tyX7_ok K rfl in_X7 wd_42 wd_43 wd_3 dX10_init_117 rfl (Nat.le_of_ble_eq_true rfl) (frC_12 g _ hz) (fun j hj => by revert j; decide +kernel) (by decide) ?_
  have hz := hz.mono (Nat.le_succ _)
  refine GC_dup rfl K dX10_init_120 ?_
  refine GC_bipush (v := 6) rfl K dX10_init_121 ?_
  refine GC_callI (y := yX7_init) [.int 6] [.ref (g.2.1 12), .ref (g.2.1 1)] K dX10_init_123 wd_44 wd_45 wd_3 wd_46 rfl ydc_X7_init (by decide) (by decide) rfl (Nat.le_of_ble_eq_true rfl) rfl rfl (Nat.le_of_ble_eq_true rfl) (KI_Row_12 l g _ hz) ?_
  have hz := FrI_Row_12 hz
  refine GC_putFR (ci := 10) (k := 14) (ty := (.object "KeptWell$Row")) K rfl in_X10 tyX10 tyX10_ok nmX10 wd_105 rfl rfl hin rfl (by decide +kernel) rfl rfl dX10_init_126 (Nat.le_of_ble_eq_true rfl) (Nat.le_of_ble_eq_true rfl) (shC_1 g _) (shC_1 g _) (Nat.le_of_ble_eq_true rfl) (Nat.le_of_ble_eq_true rfl) (sC_1_14 g _) ?_
  have hz := hz.sI (k := 1) (j := 14) (v := 1) (Nat.le_of_ble_eq_true rfl)
  exact GC_vret K hr dX10_init_129 (Nat.le_of_ble_eq_true rfl) (Nat.le_of_ble_eq_true rfl) ⟨rfl, rfl⟩
theorem ydc_X10_init : ydN yX10_init 0 := ⟨by decide, by decide, by decide +kernel⟩
theorem sC_0_0 (g : GB) (M : Mem) : ([if M.1 0 0 = 0 then .null else .ref (g.2.1 1), if M.1 0 1 = 0 then .null else .ref (g.2.1 14), .int (M.1 0 2), if M.1 0 3 = 0 then .null else .ref (g.2.1 27), .int (M.1 0 4), if M.1 0 5 = 0 then .null else .ref (g.2.1 34), if M.1 0 6 = 0 then .null else .ref (g.2.1 52), if M.1 0 7 = 0 then .null else .ref (g.2.1 68), if M.1 0 8 = 0 then .null else .ref (g.2.1 79), if M.1 0 9 = 0 then .null else .ref (g.2.1 80), if M.1 0 10 = 0 then .null else .ref (g.2.1 91), if M.1 0 11 = 0 then .null else .ref (g.2.1 93)] : List Value).set 0 (.ref (g.2.1 1)) = [if (mSI M 0 0 1).1 0 0 = 0 then .null else .ref (g.2.1 1), if (mSI M 0 0 1).1 0 1 = 0 then .null else .ref (g.2.1 14), .int ((mSI M 0 0 1).1 0 2), if (mSI M 0 0 1).1 0 3 = 0 then .null else .ref (g.2.1 27), .int ((mSI M 0 0 1).1 0 4), if (mSI M 0 0 1).1 0 5 = 0 then .null else .ref (g.2.1 34), if (mSI M 0 0 1).1 0 6 = 0 then .null else .ref (g.2.1 52), if (mSI M 0 0 1).1 0 7 = 0 then .null else .ref (g.2.1 68), if (mSI M 0 0 1).1 0 8 = 0 then .null else .ref (g.2.1 79), if (mSI M 0 0 1).1 0 9 = 0 then .null else .ref (g.2.1 80), if (mSI M 0 0 1).1 0 10 = 0 then .null else .ref (g.2.1 91), if (mSI M 0 0 1).1 0 11 = 0 then .null else .ref (g.2.1 93)] := by first | (simp [mSI, mSL, upd, vp_updL]; done) | rfl
theorem sC_14_0 (g : GB) (M : Mem) (v : Int32) : ([.int (M.1 14 0), .int (M.1 14 1), .int (M.1 14 2), .int (M.1 14 3), .int (M.1 14 4), .int (M.1 14 5), .int (M.1 14 6), .int (M.1 14 7), .int (M.1 14 8), if M.1 14 9 = 0 then .null else .ref (g.2.1 15), if M.1 14 10 = 0 then .null else .ref (g.2.1 17), if M.1 14 11 = 0 then .null else .ref (g.2.1 19), if M.1 14 12 = 0 then .null else .ref (g.2.1 21), if M.1 14 13 = 0 then .null else .ref (g.2.1 23), if M.1 14 14 = 0 then .null else .ref (g.2.1 25)] : List Value).set 0 (.int v) = [.int ((mSI M 14 0 v).1 14 0), .int ((mSI M 14 0 v).1 14 1), .int ((mSI M 14 0 v).1 14 2), .int ((mSI M 14 0 v).1 14 3), .int ((mSI M 14 0 v).1 14 4), .int ((mSI M 14 0 v).1 14 5), .int ((mSI M 14 0 v).1 14 6), .int ((mSI M 14 0 v).1 14 7), .int ((mSI M 14 0 v).1 14 8), if (mSI M 14 0 v).1 14 9 = 0 then .null else .ref (g.2.1 15), if (mSI M 14 0 v).1 14 10 = 0 then .null else .ref (g.2.1 17), if (mSI M 14 0 v).1 14 11 = 0 then .null else .ref (g.2.1 19), if (mSI M 14 0 v).1 14 12 = 0 then .null else .ref (g.2.1 21), if (mSI M 14 0 v).1 14 13 = 0 then .null else .ref (g.2.1 23), if (mSI M 14 0 v).1 14 14 = 0 then .null else .ref (g.2.1 25)] := by first | (simp [mSI, mSL, upd, vp_updL]; done) | rfl
theorem sC_14_1 (g : GB) (M : Mem) (v : Int32) : ([.int (M.1 14 0), .int (M.1 14 1), .int (M.1 14 2), .int (M.1 14 3), .int (M.1 14 4), .int (M.1 14 5), .int (M.1 14 6), .int (M.1 14 7), .int (M.1 14 8), if M.1 14 9 = 0 then .null else .ref (g.2.1 15), if M.1 14 10 = 0 then .null else .ref (g.2.1 17), if M.1 14 11 = 0 then .null else .ref (g.2.1 19), if M.1 14 12 = 0 then .null else .ref (g.2.1 21), if M.1 14 13 = 0 then .null else .ref (g.2.1 23), if M.1 14 14 = 0 then .null else .ref (g.2.1 25)] : List Value).set 1 (.int v) = [.int ((mSI M 14 1 v).1 14 0), .int ((mSI M 14 1 v).1 14 1), .int ((mSI M 14 1 v).1 14 2), .int ((mSI M 14 1 v).1 14 3), .int ((mSI M 14 1 v).1 14 4), .int ((mSI M 14 1 v).1 14 5), .int ((mSI M 14 1 v).1 14 6), .int ((mSI M 14 1 v).1 14 7), .int ((mSI M 14 1 v).1 14 8), if (mSI M 14 1 v).1 14 9 = 0 then .null else .ref (g.2.1 15), if (mSI M 14 1 v).1 14 10 = 0 then .null else .ref (g.2.1 17), if (mSI M 14 1 v).1 14 11 = 0 then .null else .ref (g.2.1 19), if (mSI M 14 1 v).1 14 12 = 0 then .null else .ref (g.2.1 21), if (mSI M 14 1 v).1 14 13 = 0 then .null else .ref (g.2.1 23), if (mSI M 14 1 v).1 14 14 = 0 then .null else .ref (g.2.1 25)] := by first | (simp [mSI, mSL, upd, vp_updL]; done) | rfl
theorem sC_14_2 (g : GB) (M : Mem) (v : Int32) : ([.int (M.1 14 0), .int (M.1 14 1), .int (M.1 14 2), .int (M.1 14 3), .int (M.1 14 4), .int (M.1 14 5), .int (M.1 14 6), .int (M.1 14 7), .int (M.1 14 8), if M.1 14 9 = 0 then .null else .ref (g.2.1 15), if M.1 14 10 = 0 then .null else .ref (g.2.1 17), if M.1 14 11 = 0 then .null else .ref (g.2.1 19), if M.1 14 12 = 0 then .null else .ref (g.2.1 21), if M.1 14 13 = 0 then .null else .ref (g.2.1 23), if M.1 14 14 = 0 then .null else .ref (g.2.1 25)] : List Value).set 2 (.int v) = [.int ((mSI M 14 2 v).1 14 0), .int ((mSI M 14 2 v).1 14 1), .int ((mSI M 14 2 v).1 14 2), .int ((mSI M 14 2 v).1 14 3), .int ((mSI M 14 2 v).1 14 4), .int ((mSI M 14 2 v).1 14 5), .int ((mSI M 14 2 v).1 14 6), .int ((mSI M 14 2 v).1 14 7), .int ((mSI M 14 2 v).1 14 8), if (mSI M 14 2 v).1 14 9 = 0 then .null else .ref (g.2.1 15), if (mSI M 14 2 v).1 14 10 = 0 then .null else .ref (g.2.1 17), if (mSI M 14 2 v).1 14 11 = 0 then .null else .ref (g.2.1 19), if (mSI M 14 2 v).1 14 12 = 0 then .null else .ref (g.2.1 21), if (mSI M 14 2 v).1 14 13 = 0 then .null else .ref (g.2.1 23), if (mSI M 14 2 v).1 14 14 = 0 then .null else .ref (g.2.1 25)] := by first | (simp [mSI, mSL, upd, vp_updL]; done) | rfl
theorem sC_14_3 (g : GB) (M : Mem) (v : Int32) : ([.int (M.1 14 0), .int (M.1 14 1), .int (M.1 14 2), .int (M.1 14 3), .int (M.1 14 4), .int (M.1 14 5), .int (M.1 14 6), .int (M.1 14 7), .int (M.1 14 8), if M.1 14 9 = 0 then .null else .ref (g.2.1 15), if M.1 14 10 = 0 then .null else .ref (g.2.1 17), if M.1 14 11 = 0 then .null else .ref (g.2.1 19), if M.1 14 12 = 0 then .null else .ref (g.2.1 21), if M.1 14 13 = 0 then .null else .ref (g.2.1 23), if M.1 14 14 = 0 then .null else .ref (g.2.1 25)] : List Value).set 3 (.int v) = [.int ((mSI M 14 3 v).1 14 0), .int ((mSI M 14 3 v).1 14 1), .int ((mSI M 14 3 v).1 14 2), .int ((mSI M 14 3 v).1 14 3), .int ((mSI M 14 3 v).1 14 4), .int ((mSI M 14 3 v).1 14 5), .int ((mSI M 14 3 v).1 14 6), .int ((mSI M 14 3 v).1 14 7), .int ((mSI M 14 3 v).1 14 8), if (mSI M 14 3 v).1 14 9 = 0 then .null else .ref (g.2.1 15), if (mSI M 14 3 v).1 14 10 = 0 then .null else .ref (g.2.1 17), if (mSI M 14 3 v).1 14 11 = 0 then .null else .ref (g.2.1 19), if (mSI M 14 3 v).1 14 12 = 0 then .null else .ref (g.2.1 21), if (mSI M 14 3 v).1 14 13 = 0 then .null else .ref (g.2.1 23), if (mSI M 14 3 v).1 14 14 = 0 then .null else .ref (g.2.1 25)] := by first | (simp [mSI, mSL, upd, vp_updL]; done) | rfl
theorem sC_14_4 (g : GB) (M : Mem) (v : Int32) : ([.int (M.1 14 0), .int (M.1 14 1), .int (M.1 14 2), .int (M.1 14 3), .int (M.1 14 4), .int (M.1 14 5), .int (M.1 14 6), .int (M.1 14 7), .int (M.1 14 8), if M.1 14 9 = 0 then .null else .ref (g.2.1 15), if M.1 14 10 = 0 then .null else .ref (g.2.1 17), if M.1 14 11 = 0 then .null else .ref (g.2.1 19), if M.1 14 12 = 0 then .null else .ref (g.2.1 21), if M.1 14 13 = 0 then .null else .ref (g.2.1 23), if M.1 14 14 = 0 then .null else .ref (g.2.1 25)] : List Value).set 4 (.int v) = [.int ((mSI M 14 4 v).1 14 0), .int ((mSI M 14 4 v).1 14 1), .int ((mSI M 14 4 v).1 14 2), .int ((mSI M 14 4 v).1 14 3), .int ((mSI M 14 4 v).1 14 4), .int ((mSI M 14 4 v).1 14 5), .int ((mSI M 14 4 v).1 14 6), .int ((mSI M 14 4 v).1 14 7), .int ((mSI M 14 4 v).1 14 8), if (mSI M 14 4 v).1 14 9 = 0 then .null else .ref (g.2.1 15), if (mSI M 14 4 v).1 14 10 = 0 then .null else .ref (g.2.1 17), if (mSI M 14 4 v).1 14 11 = 0 then .null else .ref (g.2.1 19), if (mSI M 14 4 v).1 14 12 = 0 then .null else .ref (g.2.1 21), if (mSI M 14 4 v).1 14 13 = 0 then .null else .ref (g.2.1 23), if (mSI M 14 4 v).1 14 14 = 0 then .null else .ref (g.2.1 25)] := by first | (simp [mSI, mSL, upd, vp_updL]; done) | rfl
theorem sC_14_5 (g : GB) (M : Mem) (v : Int32) : ([.int (M.1 14 0), .int (M.1 14 1), .int (M.1 14 2), .int (M.1 14 3), .int (M.1 14 4), .int (M.1 14 5), .int (M.1 14 6), .int (M.1 14 7), .int (M.1 14 8), if M.1 14 9 = 0 then .null else .ref (g.2.1 15), if M.1 14 10 = 0 then .null else .ref (g.2.1 17), if M.1 14 11 = 0 then .null else .ref (g.2.1 19), if M.1 14 12 = 0 then .null else .ref (g.2.1 21), if M.1 14 13 = 0 then .null else .ref (g.2.1 23), if M.1 14 14 = 0 then .null else .ref (g.2.1 25)] : List Value).set 5 (.int v) = [.int ((mSI M 14 5 v).1 14 0), .int ((mSI M 14 5 v).1 14 1), .int ((mSI M 14 5 v).1 14 2), .int ((mSI M 14 5 v).1 14 3), .int ((mSI M 14 5 v).1 14 4), .int ((mSI M 14 5 v).1 14 5), .int ((mSI M 14 5 v).1 14 6), .int ((mSI M 14 5 v).1 14 7), .int ((mSI M 14 5 v).1 14 8), if (mSI M 14 5 v).1 14 9 = 0 then .null else .ref (g.2.1 15), if (mSI M 14 5 v).1 14 10 = 0 then .null else .ref (g.2.1 17), if (mSI M 14 5 v).1 14 11 = 0 then .null else .ref (g.2.1 19), if (mSI M 14 5 v).1 14 12 = 0 then .null else .ref (g.2.1 21), if (mSI M 14 5 v).1 14 13 = 0 then .null else .ref (g.2.1 23), if (mSI M 14 5 v).1 14 14 = 0 then .null else .ref (g.2.1 25)] := by first | (simp [mSI, mSL, upd, vp_updL]; done) | rfl
theorem sC_14_6 (g : GB) (M : Mem) (v : Int32) : ([.int (M.1 14 0), .int (M.1 14 1), .int (M.1 14 2), .int (M.1 14 3), .int (M.1 14 4), .int (M.1 14 5), .int (M.1 14 6), .int (M.1 14 7), .int (M.1 14 8), if M.1 14 9 = 0 then .null else .ref (g.2.1 15), if M.1 14 10 = 0 then .null else .ref (g.2.1 17), if M.1 14 11 = 0 then .null else .ref (g.2.1 19), if M.1 14 12 = 0 then .null else .ref (g.2.1 21), if M.1 14 13 = 0 then .null else .ref (g.2.1 23), if M.1 14 14 = 0 then .null else .ref (g.2.1 25)] : List Value).set 6 (.int v) = [.int ((mSI M 14 6 v).1 14 0), .int ((mSI M 14 6 v).1 14 1), .int ((mSI M 14 6 v).1 14 2), .int ((mSI M 14 6 v).1 14 3), .int ((mSI M 14 6 v).1 14 4), .int ((mSI M 14 6 v).1 14 5), .int ((mSI M 14 6 v).1 14 6), .int ((mSI M 14 6 v).1 14 7), .int ((mSI M 14 6 v).1 14 8), if (mSI M 14 6 v).1 14 9 = 0 then .null else .ref (g.2.1 15), if (mSI M 14 6 v).1 14 10 = 0 then .null else .ref (g.2.1 17), if (mSI M 14 6 v).1 14 11 = 0 then .null else .ref (g.2.1 19), if (mSI M 14 6 v).1 14 12 = 0 then .null else .ref (g.2.1 21), if (mSI M 14 6 v).1 14 13 = 0 then .null else .ref (g.2.1 23), if (mSI M 14 6 v).1 14 14 = 0 then .null else .ref (g.2.1 25)] := by first | (simp [mSI, mSL, upd, vp_updL]; done) | rfl
theorem sC_14_7 (g : GB) (M : Mem) (v : Int32) : ([.int (M.1 14 0), .int (M.1 14 1), .int (M.1 14 2), .int (M.1 14 3), .int (M.1 14 4), .int (M.1 14 5), .int (M.1 14 6), .int (M.1 14 7), .int (M.1 14 8), if M.1 14 9 = 0 then .null else .ref (g.2.1 15), if M.1 14 10 = 0 then .null else .ref (g.2.1 17), if M.1 14 11 = 0 then .null else .ref (g.2.1 19), if M.1 14 12 = 0 then .null else .ref (g.2.1 21), if M.1 14 13 = 0 then .null else .ref (g.2.1 23), if M.1 14 14 = 0 then .null else .ref (g.2.1 25)] : List Value).set 7 (.int v) = [.int ((mSI M 14 7 v).1 14 0), .int ((mSI M 14 7 v).1 14 1), .int ((mSI M 14 7 v).1 14 2), .int ((mSI M 14 7 v).1 14 3), .int ((mSI M 14 7 v).1 14 4), .int ((mSI M 14 7 v).1 14 5), .int ((mSI M 14 7 v).1 14 6), .int ((mSI M 14 7 v).1 14 7), .int ((mSI M 14 7 v).1 14 8), if (mSI M 14 7 v).1 14 9 = 0 then .null else .ref (g.2.1 15), if (mSI M 14 7 v).1 14 10 = 0 then .null else .ref (g.2.1 17), if (mSI M 14 7 v).1 14 11 = 0 then .null else .ref (g.2.1 19), if (mSI M 14 7 v).1 14 12 = 0 then .null else .ref (g.2.1 21), if (mSI M 14 7 v).1 14 13 = 0 then .null else .ref (g.2.1 23), if (mSI M 14 7 v).1 14 14 = 0 then .null else .ref (g.2.1 25)] := by first | (simp [mSI, mSL, upd, vp_updL]; done) | rfl
theorem sC_14_8 (g : GB) (M : Mem) (v : Int32) : ([.int (M.1 14 0), .int (M.1 14 1), .int (M.1 14 2), .int (M.1 14 3), .int (M.1 14 4), .int (M.1 14 5), .int (M.1 14 6), .int (M.1 14 7), .int (M.1 14 8), if M.1 14 9 = 0 then .null else .ref (g.2.1 15), if M.1 14 10 = 0 then .null else .ref (g.2.1 17), if M.1 14 11 = 0 then .null else .ref (g.2.1 19), if M.1 14 12 = 0 then .null else .ref (g.2.1 21), if M.1 14 13 = 0 then .null else .ref (g.2.1 23), if M.1 14 14 = 0 then .null else .ref (g.2.1 25)] : List Value).set 8 (.int v) = [.int ((mSI M 14 8 v).1 14 0), .int ((mSI M 14 8 v).1 14 1), .int ((mSI M 14 8 v).1 14 2), .int ((mSI M 14 8 v).1 14 3), .int ((mSI M 14 8 v).1 14 4), .int ((mSI M 14 8 v).1 14 5), .int ((mSI M 14 8 v).1 14 6), .int ((mSI M 14 8 v).1 14 7), .int ((mSI M 14 8 v).1 14 8), if (mSI M 14 8 v).1 14 9 = 0 then .null else .ref (g.2.1 15), if (mSI M 14 8 v).1 14 10 = 0 then .null else .ref (g.2.1 17), if (mSI M 14 8 v).1 14 11 = 0 then .null else .ref (g.2.1 19), if (mSI M 14 8 v).1 14 12 = 0 then .null else .ref (g.2.1 21), if (mSI M 14 8 v).1 14 13 = 0 then .null else .ref (g.2.1 23), if (mSI M 14 8 v).1 14 14 = 0 then .null else .ref (g.2.1 25)] := by first | (simp [mSI, mSL, upd, vp_updL]; done) | rfl
theorem sC_15_0 (g : GB) (M : Mem) : ([if M.1 15 0 = 0 then .null else .ref (g.2.1 16)] : List Value).set 0 (.ref (g.2.1 16)) = [if (mSI M 15 0 1).1 15 0 = 0 then .null else .ref (g.2.1 16)] := by first | (simp [mSI, mSL, upd, vp_updL]; done) | rfl
def FI_Row_15 (M : Mem) : Mem := (mSI M 15 0 1)
theorem FIk_Row_15 {M : Mem} {k : Nat} (h : k < 15) : (FI_Row_15 M).1 k = M.1 k := by
  unfold FI_Row_15
  rw [mSI_1ne (a := 15) (by omega)]
theorem FrI_Row_15 {M : Mem} (hz : Fr 16 M) : Fr 17 (FI_Row_15 M) := by
  have hz := hz.mono (Nat.le_succ _)
  have hz := hz.sI (k := 15) (j := 0) (v := 1) (Nat.le_of_ble_eq_true rfl)
  exact hz
set_option maxRecDepth 100000 in
set_option maxHeartbeats 4000000 in
theorem KI_Row_15 (l : Launch) (g : GB) (M : Mem) (hz : Fr 16 M) : CC l g yX7_init (.code yX7_init cX7_init 2 none :: wAll) { frames := 1, cells := 1, slots := 18, locals := 40 } [.ref (g.2.1 15), .int 18] 16 M 17 (FI_Row_15 M) := by
  refine CC.of [(0, .ref (g.2.1 15)), (1, .int 18)] (by decide) (Nat.le_of_ble_eq_true rfl) rfl ?_
  intro p e s m args below meth c K hr hin
  refine GC_aload_n rfl 0 rfl K dX7_init_0 ?_
  refine GC_objInit K dX7_init_1 wd_47 wd_34 wd_35 (Nat.le_of_ble_eq_true rfl) (Nat.le_of_ble_eq_true rfl) ?_
  refine GC_aload_n rfl 0 rfl K dX7_init_4 ?_
  refine GC_iload_n rfl 1 rfl K dX7_init_5 ?_
  refine GC_iconst (v := 0) rfl K dX7_init_6 ?_
  refine GC_max (v := 18) (by decide) K dX7_init_7 wd_48 wd_49 wd_4 wd_50 (Nat.le_of_ble_eq_true rfl) (Nat.le_of_ble_eq_true rfl) ⟨Nat.le_of_ble_eq_true rfl, Nat.le_of_ble_eq_true rfl⟩ ?_
  refine GC_newa_long (N := 18) K dX7_init_10 wd_55 (by decide) (by decide) (by decide) rfl (Nat.le_of_ble_eq_true rfl) (frC_16 g _ hz) (by decide) ?_
  have hz := hz.mono (Nat.le_succ _)
  refine GC_putFR (ci := 7) (k := 0) (ty := (.array .long)) K rfl in_X7 tyX7 tyX7_ok nmX7 wd_51 rfl rfl hin rfl (by decide +kernel) rfl rfl dX7_init_12 (Nat.le_of_ble_eq_true rfl) (Nat.le_of_ble_eq_true rfl) (shC_15 g _) (shC_15 g _) (Nat.le_of_ble_eq_true rfl) (Nat.le_of_ble_eq_true rfl) (sC_15_0 g _) ?_
  have hz := hz.sI (k := 15) (j := 0) (v := 1) (Nat.le_of_ble_eq_true rfl)
  exact GC_vret K hr dX7_init_15 (Nat.le_of_ble_eq_true rfl) (Nat.le_of_ble_eq_true rfl) ⟨rfl, rfl⟩
theorem sC_14_9 (g : GB) (M : Mem) : ([.int (M.1 14 0), .int (M.1 14 1), .int (M.1 14 2), .int (M.1 14 3), .int (M.1 14 4), .int (M.1 14 5), .int (M.1 14 6), .int (M.1 14 7), .int (M.1 14 8), if M.1 14 9 = 0 then .null else .ref (g.2.1 15), if M.1 14 10 = 0 then .null else .ref (g.2.1 17), if M.1 14 11 = 0 then .null else .ref (g.2.1 19), if M.1 14 12 = 0 then .null else .ref (g.2.1 21), if M.1 14 13 = 0 then .null else .ref (g.2.1 23), if M.1 14 14 = 0 then .null else .ref (g.2.1 25)] : List Value).set 9 (.ref (g.2.1 15)) = [.int ((mSI M 14 9 1).1 14 0), .int ((mSI M 14 9 1).1 14 1), .int ((mSI M 14 9 1).1 14 2), .int ((mSI M 14 9 1).1 14 3), .int ((mSI M 14 9 1).1 14 4), .int ((mSI M 14 9 1).1 14 5), .int ((mSI M 14 9 1).1 14 6), .int ((mSI M 14 9 1).1 14 7), .int ((mSI M 14 9 1).1 14 8), if (mSI M 14 9 1).1 14 9 = 0 then .null else .ref (g.2.1 15), if (mSI M 14 9 1).1 14 10 = 0 then .null else .ref (g.2.1 17), if (mSI M 14 9 1).1 14 11 = 0 then .null else .ref (g.2.1 19), if (mSI M 14 9 1).1 14 12 = 0 then .null else .ref (g.2.1 21), if (mSI M 14 9 1).1 14 13 = 0 then .null else .ref (g.2.1 23), if (mSI M 14 9 1).1 14 14 = 0 then .null else .ref (g.2.1 25)] := by first | (simp [mSI, mSL, upd, vp_updL]; done) | rfl
theorem sC_17_0 (g : GB) (M : Mem) : ([if M.1 17 0 = 0 then .null else .ref (g.2.1 18)] : List Value).set 0 (.ref (g.2.1 18)) = [if (mSI M 17 0 1).1 17 0 = 0 then .null else .ref (g.2.1 18)] := by first | (simp [mSI, mSL, upd, vp_updL]; done) | rfl
def FI_Row_17 (M : Mem) : Mem := (mSI M 17 0 1)
theorem FIk_Row_17 {M : Mem} {k : Nat} (h : k < 17) : (FI_Row_17 M).1 k = M.1 k := by
  unfold FI_Row_17
  rw [mSI_1ne (a := 17) (by omega)]
theorem FrI_Row_17 {M : Mem} (hz : Fr 18 M) : Fr 19 (FI_Row_17 M) := by
  have hz := hz.mono (Nat.le_succ _)
  have hz := hz.sI (k := 17) (j := 0) (v := 1) (Nat.le_of_ble_eq_true rfl)
  exact hz
set_option maxRecDepth 100000 in
set_option maxHeartbeats 4000000 in
theorem KI_Row_17 (l : Launch) (g : GB) (M : Mem) (hz : Fr 18 M) : CC l g yX7_init (.code yX7_init cX7_init 2 none :: wAll) { frames := 1, cells := 1, slots := 117, locals := 40 } [.ref (g.2.1 17), .int 117] 18 M 19 (FI_Row_17 M) := by
  refine CC.of [(0, .ref (g.2.1 17)), (1, .int 117)] (by decide) (Nat.le_of_ble_eq_true rfl) rfl ?_
  intro p e s m args below meth c K hr hin
  refine GC_aload_n rfl 0 rfl K dX7_init_0 ?_
  refine GC_objInit K dX7_init_1 wd_47 wd_34 wd_35 (Nat.le_of_ble_eq_true rfl) (Nat.le_of_ble_eq_true rfl) ?_
  refine GC_aload_n rfl 0 rfl K dX7_init_4 ?_
  refine GC_iload_n rfl 1 rfl K dX7_init_5 ?_
  refine GC_iconst (v := 0) rfl K dX7_init_6 ?_
  refine GC_max (v := 117) (by decide) K dX7_init_7 wd_48 wd_49 wd_4 wd_50 (Nat.le_of_ble_eq_true rfl) (Nat.le_of_ble_eq_true rfl) ⟨Nat.le_of_ble_eq_true rfl, Nat.le_of_ble_eq_true rfl⟩ ?_
  refine GC_newa_long (N := 117) K dX7_init_10 wd_55 (by decide) (by decide) (by decide) rfl (Nat.le_of_ble_eq_true rfl) (frC_18 g _ hz) (by decide) ?_
  have hz := hz.mono (Nat.le_succ _)
  refine GC_putFR (ci := 7) (k := 0) (ty := (.array .long)) K rfl in_X7 tyX7 tyX7_ok nmX7 wd_51 rfl rfl hin rfl (by decide +kernel) rfl rfl dX7_init_12 (Nat.le_of_ble_eq_true rfl) (Nat.le_of_ble_eq_true rfl) (shC_17 g _) (shC_17 g _) (Nat.le_of_ble_eq_true rfl) (Nat.le_of_ble_eq_true rfl) (sC_17_0 g _) ?_
  have hz := hz.sI (k := 17) (j := 0) (v := 1) (Nat.le_of_ble_eq_true rfl)
  exact GC_vret K hr dX7_init_15 (Nat.le_of_ble_eq_true rfl) (Nat.le_of_ble_eq_true rfl) ⟨rfl, rfl⟩
theorem sC_14_10 (g : GB) (M : Mem) : ([.int (M.1 14 0), .int (M.1 14 1), .int (M.1 14 2), .int (M.1 14 3), .int (M.1 14 4), .int (M.1 14 5), .int (M.1 14 6), .int (M.1 14 7), .int (M.1 14 8), if M.1 14 9 = 0 then .null else .ref (g.2.1 15), if M.1 14 10 = 0 then .null else .ref (g.2.1 17), if M.1 14 11 = 0 then .null else .ref (g.2.1 19), if M.1 14 12 = 0 then .null else .ref (g.2.1 21), if M.1 14 13 = 0 then .null else .ref (g.2.1 23), if M.1 14 14 = 0 then .null else .ref (g.2.1 25)] : List Value).set 10 (.ref (g.2.1 17)) = [.int ((mSI M 14 10 1).1 14 0), .int ((mSI M 14 10 1).1 14 1), .int ((mSI M 14 10 1).1 14 2), .int ((mSI M 14 10 1).1 14 3), .int ((mSI M 14 10 1).1 14 4), .int ((mSI M 14 10 1).1 14 5), .int ((mSI M 14 10 1).1 14 6), .int ((mSI M 14 10 1).1 14 7), .int ((mSI M 14 10 1).1 14 8), if (mSI M 14 10 1).1 14 9 = 0 then .null else .ref (g.2.1 15), if (mSI M 14 10 1).1 14 10 = 0 then .null else .ref (g.2.1 17), if (mSI M 14 10 1).1 14 11 = 0 then .null else .ref (g.2.1 19), if (mSI M 14 10 1).1 14 12 = 0 then .null else .ref (g.2.1 21), if (mSI M 14 10 1).1 14 13 = 0 then .null else .ref (g.2.1 23), if (mSI M 14 10 1).1 14 14 = 0 then .null else .ref (g.2.1 25)] := by first | (simp [mSI, mSL, upd, vp_updL]; done) | rfl
theorem sC_19_0 (g : GB) (M : Mem) : ([if M.1 19 0 = 0 then .null else .ref (g.2.1 20)] : List Value).set 0 (.ref (g.2.1 20)) = [if (mSI M 19 0 1).1 19 0 = 0 then .null else .ref (g.2.1 20)] := by first | (simp [mSI, mSL, upd, vp_updL]; done) | rfl
def FI_Row_19 (M : Mem) : Mem := (mSI M 19 0 1)
theorem FIk_Row_19 {M : Mem} {k : Nat} (h : k < 19) : (FI_Row_19 M).1 k = M.1 k := by
  unfold FI_Row_19
  rw [mSI_1ne (a := 19) (by omega)]
theorem FrI_Row_19 {M : Mem} (hz : Fr 20 M) : Fr 21 (FI_Row_19 M) := by
  have hz := hz.mono (Nat.le_succ _)
  have hz := hz.sI (k := 19) (j := 0) (v := 1) (Nat.le_of_ble_eq_true rfl)
  exact hz
set_option maxRecDepth 100000 in
set_option maxHeartbeats 4000000 in
theorem KI_Row_19 (l : Launch) (g : GB) (M : Mem) (hz : Fr 20 M) : CC l g yX7_init (.code yX7_init cX7_init 2 none :: wAll) { frames := 1, cells := 1, slots := 400, locals := 40 } [.ref (g.2.1 19), .int 400] 20 M 21 (FI_Row_19 M) := by
  refine CC.of [(0, .ref (g.2.1 19)), (1, .int 400)] (by decide) (Nat.le_of_ble_eq_true rfl) rfl ?_
  intro p e s m args below meth c K hr hin
  refine GC_aload_n rfl 0 rfl K dX7_init_0 ?_
  refine GC_objInit K dX7_init_1 wd_47 wd_34 wd_35 (Nat.le_of_ble_eq_true rfl) (Nat.le_of_ble_eq_true rfl) ?_
  refine GC_aload_n rfl 0 rfl K dX7_init_4 ?_
  refine GC_iload_n rfl 1 rfl K dX7_init_5 ?_
  refine GC_iconst (v := 0) rfl K dX7_init_6 ?_
  refine GC_max (v := 400) (by decide) K dX7_init_7 wd_48 wd_49 wd_4 wd_50 (Nat.le_of_ble_eq_true rfl) (Nat.le_of_ble_eq_true rfl) ⟨Nat.le_of_ble_eq_true rfl, Nat.le_of_ble_eq_true rfl⟩ ?_
  refine GC_newa_long (N := 400) K dX7_init_10 wd_55 (by decide) (by decide) (by decide) rfl (Nat.le_of_ble_eq_true rfl) (frC_20 g _ hz) (by decide) ?_
  have hz := hz.mono (Nat.le_succ _)
  refine GC_putFR (ci := 7) (k := 0) (ty := (.array .long)) K rfl in_X7 tyX7 tyX7_ok nmX7 wd_51 rfl rfl hin rfl (by decide +kernel) rfl rfl dX7_init_12 (Nat.le_of_ble_eq_true rfl) (Nat.le_of_ble_eq_true rfl) (shC_19 g _) (shC_19 g _) (Nat.le_of_ble_eq_true rfl) (Nat.le_of_ble_eq_true rfl) (sC_19_0 g _) ?_
  have hz := hz.sI (k := 19) (j := 0) (v := 1) (Nat.le_of_ble_eq_true rfl)
  exact GC_vret K hr dX7_init_15 (Nat.le_of_ble_eq_true rfl) (Nat.le_of_ble_eq_true rfl) ⟨rfl, rfl⟩
theorem sC_14_11 (g : GB) (M : Mem) : ([.int (M.1 14 0), .int (M.1 14 1), .int (M.1 14 2), .int (M.1 14 3), .int (M.1 14 4), .int (M.1 14 5), .int (M.1 14 6), .int (M.1 14 7), .int (M.1 14 8), if M.1 14 9 = 0 then .null else .ref (g.2.1 15), if M.1 14 10 = 0 then .null else .ref (g.2.1 17), if M.1 14 11 = 0 then .null else .ref (g.2.1 19), if M.1 14 12 = 0 then .null else .ref (g.2.1 21), if M.1 14 13 = 0 then .null else .ref (g.2.1 23), if M.1 14 14 = 0 then .null else .ref (g.2.1 25)] : List Value).set 11 (.ref (g.2.1 19)) = [.int ((mSI M 14 11 1).1 14 0), .int ((mSI M 14 11 1).1 14 1), .int ((mSI M 14 11 1).1 14 2), .int ((mSI M 14 11 1).1 14 3), .int ((mSI M 14 11 1).1 14 4), .int ((mSI M 14 11 1).1 14 5), .int ((mSI M 14 11 1).1 14 6), .int ((mSI M 14 11 1).1 14 7), .int ((mSI M 14 11 1).1 14 8), if (mSI M 14 11 1).1 14 9 = 0 then .null else .ref (g.2.1 15), if (mSI M 14 11 1).1 14 10 = 0 then .null else .ref (g.2.1 17), if (mSI M 14 11 1).1 14 11 = 0 then .null else .ref (g.2.1 19), if (mSI M 14 11 1).1 14 12 = 0 then .null else .ref (g.2.1 21), if (mSI M 14 11 1).1 14 13 = 0 then .null else .ref (g.2.1 23), if (mSI M 14 11 1).1 14 14 = 0 then .null else .ref (g.2.1 25)] := by first | (simp [mSI, mSL, upd, vp_updL]; done) | rfl
theorem sC_21_0 (g : GB) (M : Mem) : ([if M.1 21 0 = 0 then .null else .ref (g.2.1 22)] : List Value).set 0 (.ref (g.2.1 22)) = [if (mSI M 21 0 1).1 21 0 = 0 then .null else .ref (g.2.1 22)] := by first | (simp [mSI, mSL, upd, vp_updL]; done) | rfl
def FI_Row_21 (M : Mem) : Mem := (mSI M 21 0 1)
theorem FIk_Row_21 {M : Mem} {k : Nat} (h : k < 21) : (FI_Row_21 M).1 k = M.1 k := by
  unfold FI_Row_21
  rw [mSI_1ne (a := 21) (by omega)]
theorem FrI_Row_21 {M : Mem} (hz : Fr 22 M) : Fr 23 (FI_Row_21 M) := by
  have hz := hz.mono (Nat.le_succ _)
  have hz := hz.sI (k := 21) (j := 0) (v := 1) (Nat.le_of_ble_eq_true rfl)
  exact hz
set_option maxRecDepth 100000 in
set_option maxHeartbeats 4000000 in
theorem KI_Row_21 (l : Launch) (g : GB) (M : Mem) (hz : Fr 22 M) : CC l g yX7_init (.code yX7_init cX7_init 2 none :: wAll) { frames := 1, cells := 1, slots := 8, locals := 40 } [.ref (g.2.1 21), .int 8] 22 M 23 (FI_Row_21 M) := by
  refine CC.of [(0, .ref (g.2.1 21)), (1, .int 8)] (by decide) (Nat.le_of_ble_eq_true rfl) rfl ?_
  intro p e s m args below meth c K hr hin
  refine GC_aload_n rfl 0 rfl K dX7_init_0 ?_
  refine GC_objInit K dX7_init_1 wd_47 wd_34 wd_35 (Nat.le_of_ble_eq_true rfl) (Nat.le_of_ble_eq_true rfl) ?_
  refine GC_aload_n rfl 0 rfl K dX7_init_4 ?_
  refine GC_iload_n rfl 1 rfl K dX7_init_5 ?_
  refine GC_iconst (v := 0) rfl K dX7_init_6 ?_
  refine GC_max (v := 8) (by decide) K dX7_init_7 wd_48 wd_49 wd_4 wd_50 (Nat.le_of_ble_eq_true rfl) (Nat.le_of_ble_eq_true rfl) ⟨Nat.le_of_ble_eq_true rfl, Nat.le_of_ble_eq_true rfl⟩ ?_
  refine GC_newa_long (N := 8) K dX7_init_10 wd_55 (by decide) (by decide) (by decide) rfl (Nat.le_of_ble_eq_true rfl) (frC_22 g _ hz) (by decide) ?_
  have hz := hz.mono (Nat.le_succ _)
  refine GC_putFR (ci := 7) (k := 0) (ty := (.array .long)) K rfl in_X7 tyX7 tyX7_ok nmX7 wd_51 rfl rfl hin rfl (by decide +kernel) rfl rfl dX7_init_12 (Nat.le_of_ble_eq_true rfl) (Nat.le_of_ble_eq_true rfl) (shC_21 g _) (shC_21 g _) (Nat.le_of_ble_eq_true rfl) (Nat.le_of_ble_eq_true rfl) (sC_21_0 g _) ?_
  have hz := hz.sI (k := 21) (j := 0) (v := 1) (Nat.le_of_ble_eq_true rfl)
  exact GC_vret K hr dX7_init_15 (Nat.le_of_ble_eq_true rfl) (Nat.le_of_ble_eq_true rfl) ⟨rfl, rfl⟩
theorem sC_14_12 (g : GB) (M : Mem) : ([.int (M.1 14 0), .int (M.1 14 1), .int (M.1 14 2), .int (M.1 14 3), .int (M.1 14 4), .int (M.1 14 5), .int (M.1 14 6), .int (M.1 14 7), .int (M.1 14 8), if M.1 14 9 = 0 then .null else .ref (g.2.1 15), if M.1 14 10 = 0 then .null else .ref (g.2.1 17), if M.1 14 11 = 0 then .null else .ref (g.2.1 19), if M.1 14 12 = 0 then .null else .ref (g.2.1 21), if M.1 14 13 = 0 then .null else .ref (g.2.1 23), if M.1 14 14 = 0 then .null else .ref (g.2.1 25)] : List Value).set 12 (.ref (g.2.1 21)) = [.int ((mSI M 14 12 1).1 14 0), .int ((mSI M 14 12 1).1 14 1), .int ((mSI M 14 12 1).1 14 2), .int ((mSI M 14 12 1).1 14 3), .int ((mSI M 14 12 1).1 14 4), .int ((mSI M 14 12 1).1 14 5), .int ((mSI M 14 12 1).1 14 6), .int ((mSI M 14 12 1).1 14 7), .int ((mSI M 14 12 1).1 14 8), if (mSI M 14 12 1).1 14 9 = 0 then .null else .ref (g.2.1 15), if (mSI M 14 12 1).1 14 10 = 0 then .null else .ref (g.2.1 17), if (mSI M 14 12 1).1 14 11 = 0 then .null else .ref (g.2.1 19), if (mSI M 14 12 1).1 14 12 = 0 then .null else .ref (g.2.1 21), if (mSI M 14 12 1).1 14 13 = 0 then .null else .ref (g.2.1 23), if (mSI M 14 12 1).1 14 14 = 0 then .null else .ref (g.2.1 25)] := by first | (simp [mSI, mSL, upd, vp_updL]; done) | rfl
theorem sC_23_0 (g : GB) (M : Mem) : ([if M.1 23 0 = 0 then .null else .ref (g.2.1 24)] : List Value).set 0 (.ref (g.2.1 24)) = [if (mSI M 23 0 1).1 23 0 = 0 then .null else .ref (g.2.1 24)] := by first | (simp [mSI, mSL, upd, vp_updL]; done) | rfl
def FI_Row_23 (M : Mem) : Mem := (mSI M 23 0 1)
theorem FIk_Row_23 {M : Mem} {k : Nat} (h : k < 23) : (FI_Row_23 M).1 k = M.1 k := by
  unfold FI_Row_23
  rw [mSI_1ne (a := 23) (by omega)]
theorem FrI_Row_23 {M : Mem} (hz : Fr 24 M) : Fr 25 (FI_Row_23 M) := by
  have hz := hz.mono (Nat.le_succ _)
  have hz := hz.sI (k := 23) (j := 0) (v := 1) (Nat.le_of_ble_eq_true rfl)
  exact hz
set_option maxRecDepth 100000 in
set_option maxHeartbeats 4000000 in
theorem KI_Row_23 (l : Launch) (g : GB) (M : Mem) (hz : Fr 24 M) : CC l g yX7_init (.code yX7_init cX7_init 2 none :: wAll) { frames := 1, cells := 1, slots := 6, locals := 40 } [.ref (g.2.1 23), .int 6] 24 M 25 (FI_Row_23 M) := by
  refine CC.of [(0, .ref (g.2.1 23)), (1, .int 6)] (by decide) (Nat.le_of_ble_eq_true rfl) rfl ?_
  intro p e s m args below meth c K hr hin
  refine GC_aload_n rfl 0 rfl K dX7_init_0 ?_
  refine GC_objInit K dX7_init_1 wd_47 wd_34 wd_35 (Nat.le_of_ble_eq_true rfl) (Nat.le_of_ble_eq_true rfl) ?_
  refine GC_aload_n rfl 0 rfl K dX7_init_4 ?_
  refine GC_iload_n rfl 1 rfl K dX7_init_5 ?_
  refine GC_iconst (v := 0) rfl K dX7_init_6 ?_
  refine GC_max (v := 6) (by decide) K dX7_init_7 wd_48 wd_49 wd_4 wd_50 (Nat.le_of_ble_eq_true rfl) (Nat.le_of_ble_eq_true rfl) ⟨Nat.le_of_ble_eq_true rfl, Nat.le_of_ble_eq_true rfl⟩ ?_
  refine GC_newa_long (N := 6) K dX7_init_10 wd_55 (by decide) (by decide) (by decide) rfl (Nat.le_of_ble_eq_true rfl) (frC_24 g _ hz) (by decide) ?_
  have hz := hz.mono (Nat.le_succ _)
  refine GC_putFR (ci := 7) (k := 0) (ty := (.array .long)) K rfl in_X7 tyX7 tyX7_ok nmX7 wd_51 rfl rfl hin rfl (by decide +kernel) rfl rfl dX7_init_12 (Nat.le_of_ble_eq_true rfl) (Nat.le_of_ble_eq_true rfl) (shC_23 g _) (shC_23 g _) (Nat.le_of_ble_eq_true rfl) (Nat.le_of_ble_eq_true rfl) (sC_23_0 g _) ?_
  have hz := hz.sI (k := 23) (j := 0) (v := 1) (Nat.le_of_ble_eq_true rfl)
  exact GC_vret K hr dX7_init_15 (Nat.le_of_ble_eq_true rfl) (Nat.le_of_ble_eq_true rfl) ⟨rfl, rfl⟩
theorem sC_14_13 (g : GB) (M : Mem) : ([.int (M.1 14 0), .int (M.1 14 1), .int (M.1 14 2), .int (M.1 14 3), .int (M.1 14 4), .int (M.1 14 5), .int (M.1 14 6), .int (M.1 14 7), .int (M.1 14 8), if M.1 14 9 = 0 then .null else .ref (g.2.1 15), if M.1 14 10 = 0 then .null else .ref (g.2.1 17), if M.1 14 11 = 0 then .null else .ref (g.2.1 19), if M.1 14 12 = 0 then .null else .ref (g.2.1 21), if M.1 14 13 = 0 then .null else .ref (g.2.1 23), if M.1 14 14 = 0 then .null else .ref (g.2.1 25)] : List Value).set 13 (.ref (g.2.1 23)) = [.int ((mSI M 14 13 1).1 14 0), .int ((mSI M 14 13 1).1 14 1), .int ((mSI M 14 13 1).1 14 2), .int ((mSI M 14 13 1).1 14 3), .int ((mSI M 14 13 1).1 14 4), .int ((mSI M 14 13 1).1 14 5), .int ((mSI M 14 13 1).1 14 6), .int ((mSI M 14 13 1).1 14 7), .int ((mSI M 14 13 1).1 14 8), if (mSI M 14 13 1).1 14 9 = 0 then .null else .ref (g.2.1 15), if (mSI M 14 13 1).1 14 10 = 0 then .null else .ref (g.2.1 17), if (mSI M 14 13 1).1 14 11 = 0 then .null else .ref (g.2.1 19), if (mSI M 14 13 1).1 14 12 = 0 then .null else .ref (g.2.1 21), if (mSI M 14 13 1).1 14 13 = 0 then .null else .ref (g.2.1 23), if (mSI M 14 13 1).1 14 14 = 0 then .null else .ref (g.2.1 25)] := by first | (simp [mSI, mSL, upd, vp_updL]; done) | rfl
theorem sC_25_0 (g : GB) (M : Mem) : ([if M.1 25 0 = 0 then .null else .ref (g.2.1 26)] : List Value).set 0 (.ref (g.2.1 26)) = [if (mSI M 25 0 1).1 25 0 = 0 then .null else .ref (g.2.1 26)] := by first | (simp [mSI, mSL, upd, vp_updL]; done) | rfl
def FI_Row_25 (M : Mem) : Mem := (mSI M 25 0 1)
theorem FIk_Row_25 {M : Mem} {k : Nat} (h : k < 25) : (FI_Row_25 M).1 k = M.1 k := by
  unfold FI_Row_25
  rw [mSI_1ne (a := 25) (by omega)]
theorem FrI_Row_25 {M : Mem} (hz : Fr 26 M) : Fr 27 (FI_Row_25 M) := by
  have hz := hz.mono (Nat.le_succ _)
  have hz := hz.sI (k := 25) (j := 0) (v := 1) (Nat.le_of_ble_eq_true rfl)
  exact hz
set_option maxRecDepth 100000 in
set_option maxHeartbeats 4000000 in
theorem KI_Row_25 (l : Launch) (g : GB) (M : Mem) (hz : Fr 26 M) : CC l g yX7_init (.code yX7_init cX7_init 2 none :: wAll) { frames := 1, cells := 1, slots := 6, locals := 40 } [.ref (g.2.1 25), .int 6] 26 M 27 (FI_Row_25 M) := by
  refine CC.of [(0, .ref (g.2.1 25)), (1, .int 6)] (by decide) (Nat.le_of_ble_eq_true rfl) rfl ?_
  intro p e s m args below meth c K hr hin
  refine GC_aload_n rfl 0 rfl K dX7_init_0 ?_
  refine GC_objInit K dX7_init_1 wd_47 wd_34 wd_35 (Nat.le_of_ble_eq_true rfl) (Nat.le_of_ble_eq_true rfl) ?_
  refine GC_aload_n rfl 0 rfl K dX7_init_4 ?_
  refine GC_iload_n rfl 1 rfl K dX7_init_5 ?_
  refine GC_iconst (v := 0) rfl K dX7_init_6 ?_
  refine GC_max (v := 6) (by decide) K dX7_init_7 wd_48 wd_49 wd_4 wd_50 (Nat.le_of_ble_eq_true rfl) (Nat.le_of_ble_eq_true rfl) ⟨Nat.le_of_ble_eq_true rfl, Nat.le_of_ble_eq_true rfl⟩ ?_
  refine GC_newa_long (N := 6) K dX7_init_10 wd_55 (by decide) (by decide) (by decide) rfl (Nat.le_of_ble_eq_true rfl) (frC_26 g _ hz) (by decide) ?_
  have hz := hz.mono (Nat.le_succ _)
  refine GC_putFR (ci := 7) (k := 0) (ty := (.array .long)) K rfl in_X7 tyX7 tyX7_ok nmX7 wd_51 rfl rfl hin rfl (by decide +kernel) rfl rfl dX7_init_12 (Nat.le_of_ble_eq_true rfl) (Nat.le_of_ble_eq_true rfl) (shC_25 g _) (shC_25 g _) (Nat.le_of_ble_eq_true rfl) (Nat.le_of_ble_eq_true rfl) (sC_25_0 g _) ?_
  have hz := hz.sI (k := 25) (j := 0) (v := 1) (Nat.le_of_ble_eq_true rfl)
  exact GC_vret K hr dX7_init_15 (Nat.le_of_ble_eq_true rfl) (Nat.le_of_ble_eq_true rfl) ⟨rfl, rfl⟩
theorem sC_14_14 (g : GB) (M : Mem) : ([.int (M.1 14 0), .int (M.1 14 1), .int (M.1 14 2), .int (M.1 14 3), .int (M.1 14 4), .int (M.1 14 5), .int (M.1 14 6), .int (M.1 14 7), .int (M.1 14 8), if M.1 14 9 = 0 then .null else .ref (g.2.1 15), if M.1 14 10 = 0 then .null else .ref (g.2.1 17), if M.1 14 11 = 0 then .null else .ref (g.2.1 19), if M.1 14 12 = 0 then .null else .ref (g.2.1 21), if M.1 14 13 = 0 then .null else .ref (g.2.1 23), if M.1 14 14 = 0 then .null else .ref (g.2.1 25)] : List Value).set 14 (.ref (g.2.1 25)) = [.int ((mSI M 14 14 1).1 14 0), .int ((mSI M 14 14 1).1 14 1), .int ((mSI M 14 14 1).1 14 2), .int ((mSI M 14 14 1).1 14 3), .int ((mSI M 14 14 1).1 14 4), .int ((mSI M 14 14 1).1 14 5), .int ((mSI M 14 14 1).1 14 6), .int ((mSI M 14 14 1).1 14 7), .int ((mSI M 14 14 1).1 14 8), if (mSI M 14 14 1).1 14 9 = 0 then .null else .ref (g.2.1 15), if (mSI M 14 14 1).1 14 10 = 0 then .null else .ref (g.2.1 17), if (mSI M 14 14 1).1 14 11 = 0 then .null else .ref (g.2.1 19), if (mSI M 14 14 1).1 14 12 = 0 then .null else .ref (g.2.1 21), if (mSI M 14 14 1).1 14 13 = 0 then .null else .ref (g.2.1 23), if (mSI M 14 14 1).1 14 14 = 0 then .null else .ref (g.2.1 25)] := by first | (simp [mSI, mSL, upd, vp_updL]; done) | rfl
def FI_Well_14 (M : Mem) : Mem := (mSI ((FI_Row_25 ((mSI ((FI_Row_23 ((mSI ((FI_Row_21 ((mSI ((FI_Row_19 ((mSI ((FI_Row_17 ((mSI ((FI_Row_15 ((mSI ((mSI ((mSI ((mSI ((mSI ((mSI ((mSI ((mSI ((mSI M 14 0 2)) 14 1 1)) 14 2 2)) 14 3 0)) 14 4 1)) 14 5 10)) 14 6 0)) 14 7 0)) 14 8 0)))) 14 9 1)))) 14 10 1)))) 14 11 1)))) 14 12 1)))) 14 13 1)))) 14 14 1)
theorem FIk_Well_14 {M : Mem} {k : Nat} (h : k < 14) : (FI_Well_14 M).1 k = M.1 k := by
  unfold FI_Well_14
  rw [mSI_1ne (a := 14) (by omega), FIk_Row_25 (k := k) (by omega), mSI_1ne (a := 14) (by omega), FIk_Row_23 (k := k) (by omega), mSI_1ne (a := 14) (by omega), FIk_Row_21 (k := k) (by omega), mSI_1ne (a := 14) (by omega), FIk_Row_19 (k := k) (by omega), mSI_1ne (a := 14) (by omega), FIk_Row_17 (k := k) (by omega), mSI_1ne (a := 14) (by omega), FIk_Row_15 (k := k) (by omega), mSI_1ne (a := 14) (by omega), mSI_1ne (a := 14) (by omega), mSI_1ne (a := 14) (by omega), mSI_1ne (a := 14) (by omega), mSI_1ne (a := 14) (by omega), mSI_1ne (a := 14) (by omega), mSI_1ne (a := 14) (by omega), mSI_1ne (a := 14) (by omega), mSI_1ne (a := 14) (by omega)]
theorem FrI_Well_14 {M : Mem} (hz : Fr 15 M) : Fr 27 (FI_Well_14 M) := by
  have hz := hz.sI (k := 14) (j := 0) (v := 2) (Nat.le_of_ble_eq_true rfl)
  have hz := hz.sI (k := 14) (j := 1) (v := 1) (Nat.le_of_ble_eq_true rfl)
  have hz := hz.sI (k := 14) (j := 2) (v := 2) (Nat.le_of_ble_eq_true rfl)
  have hz := hz.sI (k := 14) (j := 3) (v := 0) (Nat.le_of_ble_eq_true rfl)
  have hz := hz.sI (k := 14) (j := 4) (v := 1) (Nat.le_of_ble_eq_true rfl)
  have hz := hz.sI (k := 14) (j := 5) (v := 10) (Nat.le_of_ble_eq_true rfl)
  have hz := hz.sI (k := 14) (j := 6) (v := 0) (Nat.le_of_ble_eq_true rfl)
  have hz := hz.sI (k := 14) (j := 7) (v := 0) (Nat.le_of_ble_eq_true rfl)
  have hz := hz.sI (k := 14) (j := 8) (v := 0) (Nat.le_of_ble_eq_true rfl)
  have hz := hz.mono (Nat.le_succ _)
  have hz := FrI_Row_15 hz
  have hz := hz.sI (k := 14) (j := 9) (v := 1) (Nat.le_of_ble_eq_true rfl)
  have hz := hz.mono (Nat.le_succ _)
  have hz := FrI_Row_17 hz
  have hz := hz.sI (k := 14) (j := 10) (v := 1) (Nat.le_of_ble_eq_true rfl)
  have hz := hz.mono (Nat.le_succ _)
  have hz := FrI_Row_19 hz
  have hz := hz.sI (k := 14) (j := 11) (v := 1) (Nat.le_of_ble_eq_true rfl)
  have hz := hz.mono (Nat.le_succ _)
  have hz := FrI_Row_21 hz
  have hz := hz.sI (k := 14) (j := 12) (v := 1) (Nat.le_of_ble_eq_true rfl)
  have hz := hz.mono (Nat.le_succ _)
  have hz := FrI_Row_23 hz
  have hz := hz.sI (k := 14) (j := 13) (v := 1) (Nat.le_of_ble_eq_true rfl)
  have hz := hz.mono (Nat.le_succ _)
  have hz := FrI_Row_25 hz
  have hz := hz.sI (k := 14) (j := 14) (v := 1) (Nat.le_of_ble_eq_true rfl)
  exact hz
set_option maxRecDepth 100000 in
set_option maxHeartbeats 4000000 in
theorem KI_Well_14 (l : Launch) (g : GB) (M : Mem) (hz : Fr 15 M) : CC l g yX10_init (.code yX10_init cX10_init 1 none :: wAll) { frames := 2, cells := 12, slots := 561, locals := 61 } [.ref (g.2.1 14)] 15 M 27 (FI_Well_14 M) := by
  refine CC.of [(0, .ref (g.2.1 14))] (by decide) (Nat.le_of_ble_eq_true rfl) rfl ?_
  intro p e s m args below meth c K hr hin
  refine GC_aload_n rfl 0 rfl K dX10_init_0 ?_
  refine GC_objInit K dX10_init_1 wd_41 wd_34 wd_35 (Nat.le_of_ble_eq_true rfl) (Nat.le_of_ble_eq_true rfl) ?_
  refine GC_aload_n rfl 0 rfl K dX10_init_4 ?_
  refine GC_iconst (v := 2) rfl K dX10_init_5 ?_
  refine GC_putI (ci := 10) (k := 0) (ty := .int) K rfl in_X10 tyX10 tyX10_ok nmX10 wd_56 rfl rfl (by decide +kernel) rfl rfl dX10_init_6 (Nat.le_of_ble_eq_true rfl) (Nat.le_of_ble_eq_true rfl) (shC_14 g _) (shC_14 g _) (Nat.le_of_ble_eq_true rfl) (Nat.le_of_ble_eq_true rfl) (sC_14_0 g _ _) ?_
  have hz := hz.sI (k := 14) (j := 0) (v := 2) (Nat.le_of_ble_eq_true rfl)
  refine GC_aload_n rfl 0 rfl K dX10_init_9 ?_
  refine GC_iconst (v := 1) rfl K dX10_init_10 ?_
  refine GC_putI (ci := 10) (k := 1) (ty := .int) K rfl in_X10 tyX10 tyX10_ok nmX10 wd_61 rfl rfl (by decide +kernel) rfl rfl dX10_init_11 (Nat.le_of_ble_eq_true rfl) (Nat.le_of_ble_eq_true rfl) (shC_14 g _) (shC_14 g _) (Nat.le_of_ble_eq_true rfl) (Nat.le_of_ble_eq_true rfl) (sC_14_1 g _ _) ?_
  have hz := hz.sI (k := 14) (j := 1) (v := 1) (Nat.le_of_ble_eq_true rfl)
  refine GC_aload_n rfl 0 rfl K dX10_init_14 ?_
  refine GC_iconst (v := 2) rfl K dX10_init_15 ?_
  refine GC_putI (ci := 10) (k := 2) (ty := .int) K rfl in_X10 tyX10 tyX10_ok nmX10 wd_67 rfl rfl (by decide +kernel) rfl rfl dX10_init_16 (Nat.le_of_ble_eq_true rfl) (Nat.le_of_ble_eq_true rfl) (shC_14 g _) (shC_14 g _) (Nat.le_of_ble_eq_true rfl) (Nat.le_of_ble_eq_true rfl) (sC_14_2 g _ _) ?_
  have hz := hz.sI (k := 14) (j := 2) (v := 2) (Nat.le_of_ble_eq_true rfl)
  refine GC_aload_n rfl 0 rfl K dX10_init_19 ?_
  refine GC_iconst (v := 0) rfl K dX10_init_20 ?_
  refine GC_putI (ci := 10) (k := 3) (ty := .int) K rfl in_X10 tyX10 tyX10_ok nmX10 wd_73 rfl rfl (by decide +kernel) rfl rfl dX10_init_21 (Nat.le_of_ble_eq_true rfl) (Nat.le_of_ble_eq_true rfl) (shC_14 g _) (shC_14 g _) (Nat.le_of_ble_eq_true rfl) (Nat.le_of_ble_eq_true rfl) (sC_14_3 g _ _) ?_
  have hz := hz.sI (k := 14) (j := 3) (v := 0) (Nat.le_of_ble_eq_true rfl)
  refine GC_aload_n rfl 0 rfl K dX10_init_24 ?_
  refine GC_iconst (v := 1) rfl K dX10_init_25 ?_
  refine GC_putI (ci := 10) (k := 4) (ty := .int) K rfl in_X10 tyX10 tyX10_ok nmX10 wd_77 rfl rfl (by decide +kernel) rfl rfl dX10_init_26 (Nat.le_of_ble_eq_true rfl) (Nat.le_of_ble_eq_true rfl) (shC_14 g _) (shC_14 g _) (Nat.le_of_ble_eq_true rfl) (Nat.le_of_ble_eq_true rfl) (sC_14_4 g _ _) ?_
  have hz := hz.sI (k := 14) (j := 4) (v := 1) (Nat.le_of_ble_eq_true rfl)
  refine GC_aload_n rfl 0 rfl K dX10_init_29 ?_
  refine GC_bipush (v := 10) rfl K dX10_init_30 ?_
  refine GC_putI (ci := 10) (k := 5) (ty := .int) K rfl in_X10 tyX10 tyX10_ok nmX10 wd_81 rfl rfl (by decide +kernel) rfl rfl dX10_init_32 (Nat.le_of_ble_eq_true rfl) (Nat.le_of_ble_eq_true rfl) (shC_14 g _) (shC_14 g _) (Nat.le_of_ble_eq_true rfl) (Nat.le_of_ble_eq_true rfl) (sC_14_5 g _ _) ?_
  have hz := hz.sI (k := 14) (j := 5) (v := 10) (Nat.le_of_ble_eq_true rfl)
  refine GC_aload_n rfl 0 rfl K dX10_init_35 ?_
  refine GC_iconst (v := 0) rfl K dX10_init_36 ?_
  refine GC_putI (ci := 10) (k := 6) (ty := .int) K rfl in_X10 tyX10 tyX10_ok nmX10 wd_84 rfl rfl (by decide +kernel) rfl rfl dX10_init_37 (Nat.le_of_ble_eq_true rfl) (Nat.le_of_ble_eq_true rfl) (shC_14 g _) (shC_14 g _) (Nat.le_of_ble_eq_true rfl) (Nat.le_of_ble_eq_true rfl) (sC_14_6 g _ _) ?_
  have hz := hz.sI (k := 14) (j := 6) (v := 0) (Nat.le_of_ble_eq_true rfl)
  refine GC_aload_n rfl 0 rfl K dX10_init_40 ?_
  refine GC_iconst (v := 0) rfl K dX10_init_41 ?_
  refine GC_putI (ci := 10) (k := 7) (ty := .int) K rfl in_X10 tyX10 tyX10_ok nmX10 wd_88 rfl rfl (by decide +kernel) rfl rfl dX10_init_42 (Nat.le_of_ble_eq_true rfl) (Nat.le_of_ble_eq_true rfl) (shC_14 g _) (shC_14 g _) (Nat.le_of_ble_eq_true rfl) (Nat.le_of_ble_eq_true rfl) (sC_14_7 g _ _) ?_
  have hz := hz.sI (k := 14) (j := 7) (v := 0) (Nat.le_of_ble_eq_true rfl)
  refine GC_aload_n rfl 0 rfl K dX10_init_45 ?_
  refine GC_iconst (v := 0) rfl K dX10_init_46 ?_
  refine GC_putI (ci := 10) (k := 8) (ty := .int) K rfl in_X10 tyX10 tyX10_ok nmX10 wd_91 rfl rfl (by decide +kernel) rfl rfl dX10_init_47 (Nat.le_of_ble_eq_true rfl) (Nat.le_of_ble_eq_true rfl) (shC_14 g _) (shC_14 g _) (Nat.le_of_ble_eq_true rfl) (Nat.le_of_ble_eq_true rfl) (sC_14_8 g _ _) ?_
  have hz := hz.sI (k := 14) (j := 8) (v := 0) (Nat.le_of_ble_eq_true rfl)
  refine GC_aload_n rfl 0 rfl K dX10_init_50 ?_
  refine GC_new (ci := 7) tyX7 tyX7_ok K rfl in_X7 wd_42 wd_43 wd_3 dX10_init_51 rfl (Nat.le_of_ble_eq_true rfl) (frC_15 g _ hz) (fun j hj => by revert j; decide +kernel) (by decide) ?_
  have hz := hz.mono (Nat.le_succ _)
  refine GC_dup rfl K dX10_init_54 ?_
  refine GC_bipush (v := 18) rfl K dX10_init_55 ?_
  refine GC_callI (y := yX7_init) [.int 18] [.ref (g.2.1 15), .ref (g.2.1 14)] K dX10_init_57 wd_44 wd_45 wd_3 wd_46 rfl ydc_X7_init (by decide) (by decide) rfl (Nat.le_of_ble_eq_true rfl) rfl rfl (Nat.le_of_ble_eq_true rfl) (KI_Row_15 l g _ hz) ?_
  have hz := FrI_Row_15 hz
  refine GC_putFR (ci := 10) (k := 9) (ty := (.object "KeptWell$Row")) K rfl in_X10 tyX10 tyX10_ok nmX10 wd_94 rfl rfl hin rfl (by decide +kernel) rfl rfl dX10_init_60 (Nat.le_of_ble_eq_true rfl) (Nat.le_of_ble_eq_true rfl) (shC_14 g _) (shC_14 g _) (Nat.le_of_ble_eq_true rfl) (Nat.le_of_ble_eq_true rfl) (sC_14_9 g _) ?_
  have hz := hz.sI (k := 14) (j := 9) (v := 1) (Nat.le_of_ble_eq_true rfl)
  refine GC_aload_n rfl 0 rfl K dX10_init_63 ?_
  refine GC_new (ci := 7) tyX7 tyX7_ok K rfl in_X7 wd_42 wd_43 wd_3 dX10_init_64 rfl (Nat.le_of_ble_eq_true rfl) (frC_17 g _ hz) (fun j hj => by revert j; decide +kernel) (by decide) ?_
  have hz := hz.mono (Nat.le_succ _)
  refine GC_dup rfl K dX10_init_67 ?_
  refine GC_bipush (v := 117) rfl K dX10_init_68 ?_
  refine GC_callI (y := yX7_init) [.int 117] [.ref (g.2.1 17), .ref (g.2.1 14)] K dX10_init_70 wd_44 wd_45 wd_3 wd_46 rfl ydc_X7_init (by decide) (by decide) rfl (Nat.le_of_ble_eq_true rfl) rfl rfl (Nat.le_of_ble_eq_true rfl) (KI_Row_17 l g _ hz) ?_
  have hz := FrI_Row_17 hz
  refine GC_putFR (ci := 10) (k := 10) (ty := (.object "KeptWell$Row")) K rfl in_X10 tyX10 tyX10_ok nmX10 wd_95 rfl rfl hin rfl (by decide +kernel) rfl rfl dX10_init_73 (Nat.le_of_ble_eq_true rfl) (Nat.le_of_ble_eq_true rfl) (shC_14 g _) (shC_14 g _) (Nat.le_of_ble_eq_true rfl) (Nat.le_of_ble_eq_true rfl) (sC_14_10 g _) ?_
  have hz := hz.sI (k := 14) (j := 10) (v := 1) (Nat.le_of_ble_eq_true rfl)
  refine GC_aload_n rfl 0 rfl K dX10_init_76 ?_
  refine GC_new (ci := 7) tyX7 tyX7_ok K rfl in_X7 wd_42 wd_43 wd_3 dX10_init_77 rfl (Nat.le_of_ble_eq_true rfl) (frC_19 g _ hz) (fun j hj => by revert j; decide +kernel) (by decide) ?_
  have hz := hz.mono (Nat.le_succ _)
  refine GC_dup rfl K dX10_init_80 ?_
  refine GC_sipush (v := 400) rfl K dX10_init_81 ?_
  refine GC_callI (y := yX7_init) [.int 400] [.ref (g.2.1 19), .ref (g.2.1 14)] K dX10_init_84 wd_44 wd_45 wd_3 wd_46 rfl ydc_X7_init (by decide) (by decide) rfl (Nat.le_of_ble_eq_true rfl) rfl rfl (Nat.le_of_ble_eq_true rfl) (KI_Row_19 l g _ hz) ?_
  have hz := FrI_Row_19 hz
  refine GC_putFR (ci := 10) (k := 11) (ty := (.object "KeptWell$Row")) K rfl in_X10 tyX10 tyX10_ok nmX10 wd_96 rfl rfl hin rfl (by decide +kernel) rfl rfl dX10_init_87 (Nat.le_of_ble_eq_true rfl) (Nat.le_of_ble_eq_true rfl) (shC_14 g _) (shC_14 g _) (Nat.le_of_ble_eq_true rfl) (Nat.le_of_ble_eq_true rfl) (sC_14_11 g _) ?_
  have hz := hz.sI (k := 14) (j := 11) (v := 1) (Nat.le_of_ble_eq_true rfl)
  refine GC_aload_n rfl 0 rfl K dX10_init_90 ?_
  refine GC_new (ci := 7) tyX7 tyX7_ok K rfl in_X7 wd_42 wd_43 wd_3 dX10_init_91 rfl (Nat.le_of_ble_eq_true rfl) (frC_21 g _ hz) (fun j hj => by revert j; decide +kernel) (by decide) ?_
  have hz := hz.mono (Nat.le_succ _)
  refine GC_dup rfl K dX10_init_94 ?_
  refine GC_bipush (v := 8) rfl K dX10_init_95 ?_
  refine GC_callI (y := yX7_init) [.int 8] [.ref (g.2.1 21), .ref (g.2.1 14)] K dX10_init_97 wd_44 wd_45 wd_3 wd_46 rfl ydc_X7_init (by decide) (by decide) rfl (Nat.le_of_ble_eq_true rfl) rfl rfl (Nat.le_of_ble_eq_true rfl) (KI_Row_21 l g _ hz) ?_
  have hz := FrI_Row_21 hz
  refine GC_putFR (ci := 10) (k := 12) (ty := (.object "KeptWell$Row")) K rfl in_X10 tyX10 tyX10_ok nmX10 wd_99 rfl rfl hin rfl (by decide +kernel) rfl rfl dX10_init_100 (Nat.le_of_ble_eq_true rfl) (Nat.le_of_ble_eq_true rfl) (shC_14 g _) (shC_14 g _) (Nat.le_of_ble_eq_true rfl) (Nat.le_of_ble_eq_true rfl) (sC_14_12 g _) ?_
  have hz := hz.sI (k := 14) (j := 12) (v := 1) (Nat.le_of_ble_eq_true rfl)
  refine GC_aload_n rfl 0 rfl K dX10_init_103 ?_
  refine GC_new (ci := 7) tyX7 tyX7_ok K rfl in_X7 wd_42 wd_43 wd_3 dX10_init_104 rfl (Nat.le_of_ble_eq_true rfl) (frC_23 g _ hz) (fun j hj => by revert j; decide +kernel) (by decide) ?_
  have hz := hz.mono (Nat.le_succ _)
  refine GC_dup rfl K dX10_init_107 ?_
  refine GC_bipush (v := 6) rfl K dX10_init_108 ?_
  refine GC_callI (y := yX7_init) [.int 6] [.ref (g.2.1 23), .ref (g.2.1 14)] K dX10_init_110 wd_44 wd_45 wd_3 wd_46 rfl ydc_X7_init (by decide) (by decide) rfl (Nat.le_of_ble_eq_true rfl) rfl rfl (Nat.le_of_ble_eq_true rfl) (KI_Row_23 l g _ hz) ?_
  have hz := FrI_Row_23 hz
  refine GC_putFR (ci := 10) (k := 13) (ty := (.object "KeptWell$Row")) K rfl in_X10 tyX10 tyX10_ok nmX10 wd_102 rfl rfl hin rfl (by decide +kernel) rfl rfl dX10_init_113 (Nat.le_of_ble_eq_true rfl) (Nat.le_of_ble_eq_true rfl) (shC_14 g _) (shC_14 g _) (Nat.le_of_ble_eq_true rfl) (Nat.le_of_ble_eq_true rfl) (sC_14_13 g _) ?_
  have hz := hz.sI (k := 14) (j := 13) (v := 1) (Nat.le_of_ble_eq_true rfl)
  refine GC_aload_n rfl 0 rfl K dX10_init_116 ?_
  refine GC_new (ci := 7) tyX7 tyX7_ok K rfl in_X7 wd_42 wd_43 wd_3 dX10_init_117 rfl (Nat.le_of_ble_eq_true rfl) (frC_25 g _ hz) (fun j hj => by revert j; decide +kernel) (by decide) ?_
  have hz := hz.mono (Nat.le_succ _)
  refine GC_dup rfl K dX10_init_120 ?_
  refine GC_bipush (v := 6) rfl K dX10_init_121 ?_
  refine GC_callI (y := yX7_init) [.int 6] [.ref (g.2.1 25), .ref (g.2.1 14)] K dX10_init_123 wd_44 wd_45 wd_3 wd_46 rfl ydc_X7_init (by decide) (by decide) rfl (Nat.le_of_ble_eq_true rfl) rfl rfl (Nat.le_of_ble_eq_true rfl) (KI_Row_25 l g _ hz) ?_
  have hz := FrI_Row_25 hz
  refine GC_putFR (ci := 10) (k := 14) (ty := (.object "KeptWell$Row")) K rfl in_X10 tyX10 tyX10_ok nmX10 wd_105 rfl rfl hin rfl (by decide +kernel) rfl rfl dX10_init_126 (Nat.le_of_ble_eq_true rfl) (Nat.le_of_ble_eq_true rfl) (shC_14 g _) (shC_14 g _) (Nat.le_of_ble_eq_true rfl) (Nat.le_of_ble_eq_true rfl) (sC_14_14 g _) ?_
  have hz := hz.sI (k := 14) (j := 14) (v := 1) (Nat.le_of_ble_eq_true rfl)
  exact GC_vret K hr dX10_init_129 (Nat.le_of_ble_eq_true rfl) (Nat.le_of_ble_eq_true rfl) ⟨rfl, rfl⟩
theorem sC_0_1 (g : GB) (M : Mem) : ([if M.1 0 0 = 0 then .null else .ref (g.2.1 1), if M.1 0 1 = 0 then .null else .ref (g.2.1 14), .int (M.1 0 2), if M.1 0 3 = 0 then .null else .ref (g.2.1 27), .int (M.1 0 4), if M.1 0 5 = 0 then .null else .ref (g.2.1 34), if M.1 0 6 = 0 then .null else .ref (g.2.1 52), if M.1 0 7 = 0 then .null else .ref (g.2.1 68), if M.1 0 8 = 0 then .null else .ref (g.2.1 79), if M.1 0 9 = 0 then .null else .ref (g.2.1 80), if M.1 0 10 = 0 then .null else .ref (g.2.1 91), if M.1 0 11 = 0 then .null else .ref (g.2.1 93)] : List Value).set 1 (.ref (g.2.1 14)) = [if (mSI M 0 1 1).1 0 0 = 0 then .null else .ref (g.2.1 1), if (mSI M 0 1 1).1 0 1 = 0 then .null else .ref (g.2.1 14), .int ((mSI M 0 1 1).1 0 2), if (mSI M 0 1 1).1 0 3 = 0 then .null else .ref (g.2.1 27), .int ((mSI M 0 1 1).1 0 4), if (mSI M 0 1 1).1 0 5 = 0 then .null else .ref (g.2.1 34), if (mSI M 0 1 1).1 0 6 = 0 then .null else .ref (g.2.1 52), if (mSI M 0 1 1).1 0 7 = 0 then .null else .ref (g.2.1 68), if (mSI M 0 1 1).1 0 8 = 0 then .null else .ref (g.2.1 79), if (mSI M 0 1 1).1 0 9 = 0 then .null else .ref (g.2.1 80), if (mSI M 0 1 1).1 0 10 = 0 then .null else .ref (g.2.1 91), if (mSI M 0 1 1).1 0 11 = 0 then .null else .ref (g.2.1 93)] := by first | (simp [mSI, mSL, upd, vp_updL]; done) | rfl
theorem sC_0_2 (g : GB) (M : Mem) (v : Int32) : ([if M.1 0 0 = 0 then .null else .ref (g.2.1 1), if M.1 0 1 = 0 then .null else .ref (g.2.1 14), .int (M.1 0 2), if M.1 0 3 = 0 then .null else .ref (g.2.1 27), .int (M.1 0 4), if M.1 0 5 = 0 then .null else .ref (g.2.1 34), if M.1 0 6 = 0 then .null else .ref (g.2.1 52), if M.1 0 7 = 0 then .null else .ref (g.2.1 68), if M.1 0 8 = 0 then .null else .ref (g.2.1 79), if M.1 0 9 = 0 then .null else .ref (g.2.1 80), if M.1 0 10 = 0 then .null else .ref (g.2.1 91), if M.1 0 11 = 0 then .null else .ref (g.2.1 93)] : List Value).set 2 (.int v) = [if (mSI M 0 2 v).1 0 0 = 0 then .null else .ref (g.2.1 1), if (mSI M 0 2 v).1 0 1 = 0 then .null else .ref (g.2.1 14), .int ((mSI M 0 2 v).1 0 2), if (mSI M 0 2 v).1 0 3 = 0 then .null else .ref (g.2.1 27), .int ((mSI M 0 2 v).1 0 4), if (mSI M 0 2 v).1 0 5 = 0 then .null else .ref (g.2.1 34), if (mSI M 0 2 v).1 0 6 = 0 then .null else .ref (g.2.1 52), if (mSI M 0 2 v).1 0 7 = 0 then .null else .ref (g.2.1 68), if (mSI M 0 2 v).1 0 8 = 0 then .null else .ref (g.2.1 79), if (mSI M 0 2 v).1 0 9 = 0 then .null else .ref (g.2.1 80), if (mSI M 0 2 v).1 0 10 = 0 then .null else .ref (g.2.1 91), if (mSI M 0 2 v).1 0 11 = 0 then .null else .ref (g.2.1 93)] := by first | (simp [mSI, mSL, upd, vp_updL]; done) | rfl
theorem sC_28_0 (g : GB) (M : Mem) : ([if M.1 28 0 = 0 then .null else .ref (g.2.1 29)] : List Value).set 0 (.ref (g.2.1 29)) = [if (mSI M 28 0 1).1 28 0 = 0 then .null else .ref (g.2.1 29)] := by first | (simp [mSI, mSL, upd, vp_updL]; done) | rfl
def FI_Row_28 (M : Mem) : Mem := (mSI M 28 0 1)
theorem FIk_Row_28 {M : Mem} {k : Nat} (h : k < 28) : (FI_Row_28 M).1 k = M.1 k := by
  unfold FI_Row_28
  rw [mSI_1ne (a := 28) (by omega)]
theorem FrI_Row_28 {M : Mem} (hz : Fr 29 M) : Fr 30 (FI_Row_28 M) := by
  have hz := hz.mono (Nat.le_succ _)
  have hz := hz.sI (k := 28) (j := 0) (v := 1) (Nat.le_of_ble_eq_true rfl)
  exact hz
set_option maxRecDepth 100000 in
set_option maxHeartbeats 4000000 in
theorem KI_Row_28 (l : Launch) (g : GB) (M : Mem) (hz : Fr 29 M) : CC l g yX7_init (.code yX7_init cX7_init 2 none :: wAll) { frames := 1, cells := 1, slots := 400, locals := 40 } [.ref (g.2.1 28), .int 400] 29 M 30 (FI_Row_28 M) := by
  refine CC.of [(0, .ref (g.2.1 28)), (1, .int 400)] (by decide) (Nat.le_of_ble_eq_true rfl) rfl ?_
  intro p e s m args below meth c K hr hin
  refine GC_aload_n rfl 0 rfl K dX7_init_0 ?_
  refine GC_objInit K dX7_init_1 wd_47 wd_34 wd_35 (Nat.le_of_ble_eq_true rfl) (Nat.le_of_ble_eq_true rfl) ?_
  refine GC_aload_n rfl 0 rfl K dX7_init_4 ?_
  refine GC_iload_n rfl 1 rfl K dX7_init_5 ?_
  refine GC_iconst (v := 0) rfl K dX7_init_6 ?_
  refine GC_max (v := 400) (by decide) K dX7_init_7 wd_48 wd_49 wd_4 wd_50 (Nat.le_of_ble_eq_true rfl) (Nat.le_of_ble_eq_true rfl) ⟨Nat.le_of_ble_eq_true rfl, Nat.le_of_ble_eq_true rfl⟩ ?_
  refine GC_newa_long (N := 400) K dX7_init_10 wd_55 (by decide) (by decide) (by decide) rfl (Nat.le_of_ble_eq_true rfl) (frC_29 g _ hz) (by decide) ?_
  have hz := hz.mono (Nat.le_succ _)
  refine GC_putFR (ci := 7) (k := 0) (ty := (.array .long)) K rfl in_X7 tyX7 tyX7_ok nmX7 wd_51 rfl rfl hin rfl (by decide +kernel) rfl rfl dX7_init_12 (Nat.le_of_ble_eq_true rfl) (Nat.le_of_ble_eq_true rfl) (shC_28 g _) (shC_28 g _) (Nat.le_of_ble_eq_true rfl) (Nat.le_of_ble_eq_true rfl) (sC_28_0 g _) ?_
  have hz := hz.sI (k := 28) (j := 0) (v := 1) (Nat.le_of_ble_eq_true rfl)
  exact GC_vret K hr dX7_init_15 (Nat.le_of_ble_eq_true rfl) (Nat.le_of_ble_eq_true rfl) ⟨rfl, rfl⟩
theorem sC_27_0 (g : GB) (M : Mem) : ([if M.1 27 0 = 0 then .null else .ref (g.2.1 28), .int (M.1 27 1), if M.1 27 2 = 0 then .null else .ref (g.2.1 30), if M.1 27 3 = 0 then .null else .ref (g.2.1 32), .int (M.1 27 4), .int (M.1 27 5), .int (M.1 27 6), .int (M.1 27 7)] : List Value).set 0 (.ref (g.2.1 28)) = [if (mSI M 27 0 1).1 27 0 = 0 then .null else .ref (g.2.1 28), .int ((mSI M 27 0 1).1 27 1), if (mSI M 27 0 1).1 27 2 = 0 then .null else .ref (g.2.1 30), if (mSI M 27 0 1).1 27 3 = 0 then .null else .ref (g.2.1 32), .int ((mSI M 27 0 1).1 27 4), .int ((mSI M 27 0 1).1 27 5), .int ((mSI M 27 0 1).1 27 6), .int ((mSI M 27 0 1).1 27 7)] := by first | (simp [mSI, mSL, upd, vp_updL]; done) | rfl
theorem sC_27_1 (g : GB) (M : Mem) (v : Int32) : ([if M.1 27 0 = 0 then .null else .ref (g.2.1 28), .int (M.1 27 1), if M.1 27 2 = 0 then .null else .ref (g.2.1 30), if M.1 27 3 = 0 then .null else .ref (g.2.1 32), .int (M.1 27 4), .int (M.1 27 5), .int (M.1 27 6), .int (M.1 27 7)] : List Value).set 1 (.int v) = [if (mSI M 27 1 v).1 27 0 = 0 then .null else .ref (g.2.1 28), .int ((mSI M 27 1 v).1 27 1), if (mSI M 27 1 v).1 27 2 = 0 then .null else .ref (g.2.1 30), if (mSI M 27 1 v).1 27 3 = 0 then .null else .ref (g.2.1 32), .int ((mSI M 27 1 v).1 27 4), .int ((mSI M 27 1 v).1 27 5), .int ((mSI M 27 1 v).1 27 6), .int ((mSI M 27 1 v).1 27 7)] := by first | (simp [mSI, mSL, upd, vp_updL]; done) | rfl
theorem sC_30_0 (g : GB) (M : Mem) : ([if M.1 30 0 = 0 then .null else .ref (g.2.1 31)] : List Value).set 0 (.ref (g.2.1 31)) = [if (mSI M 30 0 1).1 30 0 = 0 then .null else .ref (g.2.1 31)] := by first | (simp [mSI, mSL, upd, vp_updL]; done) | rfl
def FI_Row_30 (M : Mem) : Mem := (mSI M 30 0 1)
theorem FIk_Row_30 {M : Mem} {k : Nat} (h : k < 30) : (FI_Row_30 M).1 k = M.1 k := by
  unfold FI_Row_30
  rw [mSI_1ne (a := 30) (by omega)]
theorem FrI_Row_30 {M : Mem} (hz : Fr 31 M) : Fr 32 (FI_Row_30 M) := by
  have hz := hz.mono (Nat.le_succ _)
  have hz := hz.sI (k := 30) (j := 0) (v := 1) (Nat.le_of_ble_eq_true rfl)
  exact hz
set_option maxRecDepth 100000 in
set_option maxHeartbeats 4000000 in
theorem KI_Row_30 (l : Launch) (g : GB) (M : Mem) (hz : Fr 31 M) : CC l g yX7_init (.code yX7_init cX7_init 2 none :: wAll) { frames := 1, cells := 1, slots := 13, locals := 40 } [.ref (g.2.1 30), .int 13] 31 M 32 (FI_Row_30 M) := by
  refine CC.of [(0, .ref (g.2.1 30)), (1, .int 13)] (by decide) (Nat.le_of_ble_eq_true rfl) rfl ?_
  intro p e s m args below meth c K hr hin
  refine GC_aload_n rfl 0 rfl K dX7_init_0 ?_
  refine GC_objInit K dX7_init_1 wd_47 wd_34 wd_35 (Nat.le_of_ble_eq_true rfl) (Nat.le_of_ble_eq_true rfl) ?_
  refine GC_aload_n rfl 0 rfl K dX7_init_4 ?_
  refine GC_iload_n rfl 1 rfl K dX7_init_5 ?_
  refine GC_iconst (v := 0) rfl K dX7_init_6 ?_
  refine GC_max (v := 13) (by decide) K dX7_init_7 wd_48 wd_49 wd_4 wd_50 (Nat.le_of_ble_eq_true rfl) (Nat.le_of_ble_eq_true rfl) ⟨Nat.le_of_ble_eq_true rfl, Nat.le_of_ble_eq_true rfl⟩ ?_
  refine GC_newa_long (N := 13) K dX7_init_10 wd_55 (by decide) (by decide) (by decide) rfl (Nat.le_of_ble_eq_true rfl) (frC_31 g _ hz) (by decide) ?_
  have hz := hz.mono (Nat.le_succ _)
  refine GC_putFR (ci := 7) (k := 0) (ty := (.array .long)) K rfl in_X7 tyX7 tyX7_ok nmX7 wd_51 rfl rfl hin rfl (by decide +kernel) rfl rfl dX7_init_12 (Nat.le_of_ble_eq_true rfl) (Nat.le_of_ble_eq_true rfl) (shC_30 g _) (shC_30 g _) (Nat.le_of_ble_eq_true rfl) (Nat.le_of_ble_eq_true rfl) (sC_30_0 g _) ?_
  have hz := hz.sI (k := 30) (j := 0) (v := 1) (Nat.le_of_ble_eq_true rfl)
  exact GC_vret K hr dX7_init_15 (Nat.le_of_ble_eq_true rfl) (Nat.le_of_ble_eq_true rfl) ⟨rfl, rfl⟩
theorem sC_27_2 (g : GB) (M : Mem) : ([if M.1 27 0 = 0 then .null else .ref (g.2.1 28), .int (M.1 27 1), if M.1 27 2 = 0 then .null else .ref (g.2.1 30), if M.1 27 3 = 0 then .null else .ref (g.2.1 32), .int (M.1 27 4), .int (M.1 27 5), .int (M.1 27 6), .int (M.1 27 7)] : List Value).set 2 (.ref (g.2.1 30)) = [if (mSI M 27 2 1).1 27 0 = 0 then .null else .ref (g.2.1 28), .int ((mSI M 27 2 1).1 27 1), if (mSI M 27 2 1).1 27 2 = 0 then .null else .ref (g.2.1 30), if (mSI M 27 2 1).1 27 3 = 0 then .null else .ref (g.2.1 32), .int ((mSI M 27 2 1).1 27 4), .int ((mSI M 27 2 1).1 27 5), .int ((mSI M 27 2 1).1 27 6), .int ((mSI M 27 2 1).1 27 7)] := by first | (simp [mSI, mSL, upd, vp_updL]; done) | rfl
theorem sC_32_0 (g : GB) (M : Mem) : ([if M.1 32 0 = 0 then .null else .ref (g.2.1 33)] : List Value).set 0 (.ref (g.2.1 33)) = [if (mSI M 32 0 1).1 32 0 = 0 then .null else .ref (g.2.1 33)] := by first | (simp [mSI, mSL, upd, vp_updL]; done) | rfl
def FI_Row_32 (M : Mem) : Mem := (mSI M 32 0 1)
theorem FIk_Row_32 {M : Mem} {k : Nat} (h : k < 32) : (FI_Row_32 M).1 k = M.1 k := by
  unfold FI_Row_32
  rw [mSI_1ne (a := 32) (by omega)]
theorem FrI_Row_32 {M : Mem} (hz : Fr 33 M) : Fr 34 (FI_Row_32 M) := by
  have hz := hz.mono (Nat.le_succ _)
  have hz := hz.sI (k := 32) (j := 0) (v := 1) (Nat.le_of_ble_eq_true rfl)
  exact hz
set_option maxRecDepth 100000 in
set_option maxHeartbeats 4000000 in
theorem KI_Row_32 (l : Launch) (g : GB) (M : Mem) (hz : Fr 33 M) : CC l g yX7_init (.code yX7_init cX7_init 2 none :: wAll) { frames := 1, cells := 1, slots := 3, locals := 40 } [.ref (g.2.1 32), .int 3] 33 M 34 (FI_Row_32 M) := by
  refine CC.of [(0, .ref (g.2.1 32)), (1, .int 3)] (by decide) (Nat.le_of_ble_eq_true rfl) rfl ?_
  intro p e s m args below meth c K hr hin
  refine GC_aload_n rfl 0 rfl K dX7_init_0 ?_
  refine GC_objInit K dX7_init_1 wd_47 wd_34 wd_35 (Nat.le_of_ble_eq_true rfl) (Nat.le_of_ble_eq_true rfl) ?_
  refine GC_aload_n rfl 0 rfl K dX7_init_4 ?_
  refine GC_iload_n rfl 1 rfl K dX7_init_5 ?_
  refine GC_iconst (v := 0) rfl K dX7_init_6 ?_
  refine GC_max (v := 3) (by decide) K dX7_init_7 wd_48 wd_49 wd_4 wd_50 (Nat.le_of_ble_eq_true rfl) (Nat.le_of_ble_eq_true rfl) ⟨Nat.le_of_ble_eq_true rfl, Nat.le_of_ble_eq_true rfl⟩ ?_
  refine GC_newa_long (N := 3) K dX7_init_10 wd_55 (by decide) (by decide) (by decide) rfl (Nat.le_of_ble_eq_true rfl) (frC_33 g _ hz) (by decide) ?_
  have hz := hz.mono (Nat.le_succ _)
  refine GC_putFR (ci := 7) (k := 0) (ty := (.array .long)) K rfl in_X7 tyX7 tyX7_ok nmX7 wd_51 rfl rfl hin rfl (by decide +kernel) rfl rfl dX7_init_12 (Nat.le_of_ble_eq_true rfl) (Nat.le_of_ble_eq_true rfl) (shC_32 g _) (shC_32 g _) (Nat.le_of_ble_eq_true rfl) (Nat.le_of_ble_eq_true rfl) (sC_32_0 g _) ?_
  have hz := hz.sI (k := 32) (j := 0) (v := 1) (Nat.le_of_ble_eq_true rfl)
  exact GC_vret K hr dX7_init_15 (Nat.le_of_ble_eq_true rfl) (Nat.le_of_ble_eq_true rfl) ⟨rfl, rfl⟩
theorem sC_27_3 (g : GB) (M : Mem) : ([if M.1 27 0 = 0 then .null else .ref (g.2.1 28), .int (M.1 27 1), if M.1 27 2 = 0 then .null else .ref (g.2.1 30), if M.1 27 3 = 0 then .null else .ref (g.2.1 32), .int (M.1 27 4), .int (M.1 27 5), .int (M.1 27 6), .int (M.1 27 7)] : List Value).set 3 (.ref (g.2.1 32)) = [if (mSI M 27 3 1).1 27 0 = 0 then .null else .ref (g.2.1 28), .int ((mSI M 27 3 1).1 27 1), if (mSI M 27 3 1).1 27 2 = 0 then .null else .ref (g.2.1 30), if (mSI M 27 3 1).1 27 3 = 0 then .null else .ref (g.2.1 32), .int ((mSI M 27 3 1).1 27 4), .int ((mSI M 27 3 1).1 27 5), .int ((mSI M 27 3 1).1 27 6), .int ((mSI M 27 3 1).1 27 7)] := by first | (simp [mSI, mSL, upd, vp_updL]; done) | rfl
theorem sC_27_4 (g : GB) (M : Mem) (v : Int32) : ([if M.1 27 0 = 0 then .null else .ref (g.2.1 28), .int (M.1 27 1), if M.1 27 2 = 0 then .null else .ref (g.2.1 30), if M.1 27 3 = 0 then .null else .ref (g.2.1 32), .int (M.1 27 4), .int (M.1 27 5), .int (M.1 27 6), .int (M.1 27 7)] : List Value).set 4 (.int v) = [if (mSI M 27 4 v).1 27 0 = 0 then .null else .ref (g.2.1 28), .int ((mSI M 27 4 v).1 27 1), if (mSI M 27 4 v).1 27 2 = 0 then .null else .ref (g.2.1 30), if (mSI M 27 4 v).1 27 3 = 0 then .null else .ref (g.2.1 32), .int ((mSI M 27 4 v).1 27 4), .int ((mSI M 27 4 v).1 27 5), .int ((mSI M 27 4 v).1 27 6), .int ((mSI M 27 4 v).1 27 7)] := by first | (simp [mSI, mSL, upd, vp_updL]; done) | rfl
theorem sC_27_5 (g : GB) (M : Mem) (v : Int32) : ([if M.1 27 0 = 0 then .null else .ref (g.2.1 28), .int (M.1 27 1), if M.1 27 2 = 0 then .null else .ref (g.2.1 30), if M.1 27 3 = 0 then .null else .ref (g.2.1 32), .int (M.1 27 4), .int (M.1 27 5), .int (M.1 27 6), .int (M.1 27 7)] : List Value).set 5 (.int v) = [if (mSI M 27 5 v).1 27 0 = 0 then .null else .ref (g.2.1 28), .int ((mSI M 27 5 v).1 27 1), if (mSI M 27 5 v).1 27 2 = 0 then .null else .ref (g.2.1 30), if (mSI M 27 5 v).1 27 3 = 0 then .null else .ref (g.2.1 32), .int ((mSI M 27 5 v).1 27 4), .int ((mSI M 27 5 v).1 27 5), .int ((mSI M 27 5 v).1 27 6), .int ((mSI M 27 5 v).1 27 7)] := by first | (simp [mSI, mSL, upd, vp_updL]; done) | rfl
theorem sC_27_6 (g : GB) (M : Mem) (v : Int32) : ([if M.1 27 0 = 0 then .null else .ref (g.2.1 28), .int (M.1 27 1), if M.1 27 2 = 0 then .null else .ref (g.2.1 30), if M.1 27 3 = 0 then .null else .ref (g.2.1 32), .int (M.1 27 4), .int (M.1 27 5), .int (M.1 27 6), .int (M.1 27 7)] : List Value).set 6 (.int v) = [if (mSI M 27 6 v).1 27 0 = 0 then .null else .ref (g.2.1 28), .int ((mSI M 27 6 v).1 27 1), if (mSI M 27 6 v).1 27 2 = 0 then .null else .ref (g.2.1 30), if (mSI M 27 6 v).1 27 3 = 0 then .null else .ref (g.2.1 32), .int ((mSI M 27 6 v).1 27 4), .int ((mSI M 27 6 v).1 27 5), .int ((mSI M 27 6 v).1 27 6), .int ((mSI M 27 6 v).1 27 7)] := by first | (simp [mSI, mSL, upd, vp_updL]; done) | rfl
theorem sC_27_7 (g : GB) (M : Mem) (v : Int32) : ([if M.1 27 0 = 0 then .null else .ref (g.2.1 28), .int (M.1 27 1), if M.1 27 2 = 0 then .null else .ref (g.2.1 30), if M.1 27 3 = 0 then .null else .ref (g.2.1 32), .int (M.1 27 4), .int (M.1 27 5), .int (M.1 27 6), .int (M.1 27 7)] : List Value).set 7 (.int v) = [if (mSI M 27 7 v).1 27 0 = 0 then .null else .ref (g.2.1 28), .int ((mSI M 27 7 v).1 27 1), if (mSI M 27 7 v).1 27 2 = 0 then .null else .ref (g.2.1 30), if (mSI M 27 7 v).1 27 3 = 0 then .null else .ref (g.2.1 32), .int ((mSI M 27 7 v).1 27 4), .int ((mSI M 27 7 v).1 27 5), .int ((mSI M 27 7 v).1 27 6), .int ((mSI M 27 7 v).1 27 7)] := by first | (simp [mSI, mSL, upd, vp_updL]; done) | rfl
def on_X8_init : Nat := 0xb12900b5032a2600b5032a2300b5032a2000b5032a1d00b50d00b706590900bb2a1a00b50d00b70d10590900bb2a1400b5032a1000b50d00b7900111590900bb2a0300b72a
theorem ob_X8_init : OKB cX8_init on_X8_init 69 := ⟨by decide +kernel, by decide +kernel⟩
theorem dX8_init_0 : dc cX8_init 0 1 (.aload_n 0) 1 := o_42 ob_X8_init rfl rfl rfl
theorem dX8_init_1 : dc cX8_init 1 4 (.invokespecial 3) 3 := o_183 ob_X8_init rfl rfl rfl rfl
theorem dX8_init_4 : dc cX8_init 4 5 (.aload_n 0) 1 := o_42 ob_X8_init rfl rfl rfl
theorem dX8_init_5 : dc cX8_init 5 8 (.new 9) 3 := o_187 ob_X8_init rfl rfl rfl rfl
theorem dX8_init_8 : dc cX8_init 8 9 .dup 1 := o_89 ob_X8_init rfl rfl rfl
theorem dX8_init_9 : dc cX8_init 9 12 (.sipush 400) 3 := o_17 ob_X8_init rfl rfl rfl rfl
theorem dX8_init_12 : dc cX8_init 12 15 (.invokespecial 13) 3 := o_183 ob_X8_init rfl rfl rfl rfl
theorem dX8_init_15 : dc cX8_init 15 18 (.putfield 16) 3 := o_181 ob_X8_init rfl rfl rfl rfl
theorem dX8_init_18 : dc cX8_init 18 19 (.aload_n 0) 1 := o_42 ob_X8_init rfl rfl rfl
theorem dX8_init_19 : dc cX8_init 19 20 (.iconst 0) 1 := o_3 ob_X8_init rfl rfl rfl
theorem dX8_init_20 : dc cX8_init 20 23 (.putfield 20) 3 := o_181 ob_X8_init rfl rfl rfl rfl
theorem dX8_init_23 : dc cX8_init 23 24 (.aload_n 0) 1 := o_42 ob_X8_init rfl rfl rfl
theorem dX8_init_24 : dc cX8_init 24 27 (.new 9) 3 := o_187 ob_X8_init rfl rfl rfl rfl
theorem dX8_init_27 : dc cX8_init 27 28 .dup 1 := o_89 ob_X8_init rfl rfl rfl
theorem dX8_init_28 : dc cX8_init 28 30 (.bipush 13) 2 := o_16 ob_X8_init rfl rfl rfl rfl
theorem dX8_init_30 : dc cX8_init 30 33 (.invokespecial 13) 3 := o_183 ob_X8_init rfl rfl rfl rfl
theorem dX8_init_33 : dc cX8_init 33 36 (.putfield 26) 3 := o_181 ob_X8_init rfl rfl rfl rfl
theorem dX8_init_36 : dc cX8_init 36 37 (.aload_n 0) 1 := o_42 ob_X8_init rfl rfl rfl
theorem dX8_init_37 : dc cX8_init 37 40 (.new 9) 3 := o_187 ob_X8_init rfl rfl rfl rfl
theorem dX8_init_40 : dc cX8_init 40 41 .dup 1 := o_89 ob_X8_init rfl rfl rfl
theorem dX8_init_41 : dc cX8_init 41 42 (.iconst 3) 1 := o_6 ob_X8_init rfl rfl rfl
theorem dX8_init_42 : dc cX8_init 42 45 (.invokespecial 13) 3 := o_183 ob_X8_init rfl rfl rfl rfl
theorem dX8_init_45 : dc cX8_init 45 48 (.putfield 29) 3 := o_181 ob_X8_init rfl rfl rfl rfl
theorem dX8_init_48 : dc cX8_init 48 49 (.aload_n 0) 1 := o_42 ob_X8_init rfl rfl rfl
theorem dX8_init_49 : dc cX8_init 49 50 (.iconst 0) 1 := o_3 ob_X8_init rfl rfl rfl
theorem dX8_init_50 : dc cX8_init 50 53 (.putfield 32) 3 := o_181 ob_X8_init rfl rfl rfl rfl
theorem dX8_init_53 : dc cX8_init 53 54 (.aload_n 0) 1 := o_42 ob_X8_init rfl rfl rfl
theorem dX8_init_54 : dc cX8_init 54 55 (.iconst 0) 1 := o_3 ob_X8_init rfl rfl rfl
theorem dX8_init_55 : dc cX8_init 55 58 (.putfield 35) 3 := o_181 ob_X8_init rfl rfl rfl rfl
theorem dX8_init_58 : dc cX8_init 58 59 (.aload_n 0) 1 := o_42 ob_X8_init rfl rfl rfl
theorem dX8_init_59 : dc cX8_init 59 60 (.iconst 0) 1 := o_3 ob_X8_init rfl rfl rfl
theorem dX8_init_60 : dc cX8_init 60 63 (.putfield 38) 3 := o_181 ob_X8_init rfl rfl rfl rfl
theorem dX8_init_63 : dc cX8_init 63 64 (.aload_n 0) 1 := o_42 ob_X8_init rfl rfl rfl
theorem dX8_init_64 : dc cX8_init 64 65 (.iconst 0) 1 := o_3 ob_X8_init rfl rfl rfl
theorem dX8_init_65 : dc cX8_init 65 68 (.putfield 41) 3 := o_181 ob_X8_init rfl rfl rfl rfl
theorem dX8_init_68 : dc cX8_init 68 69 .return_ 1 := o_177 ob_X8_init rfl rfl rfl
def FI_Tape_27 (M : Mem) : Mem := (mSI ((mSI ((mSI ((mSI ((mSI ((FI_Row_32 ((mSI ((FI_Row_30 ((mSI ((mSI ((FI_Row_28 M)) 27 0 1)) 27 1 0)))) 27 2 1)))) 27 3 1)) 27 4 0)) 27 5 0)) 27 6 0)) 27 7 0)
theorem FIk_Tape_27 {M : Mem} {k : Nat} (h : k < 27) : (FI_Tape_27 M).1 k = M.1 k := by
  unfold FI_Tape_27
  rw [mSI_1ne (a := 27) (by omega), mSI_1ne (a := 27) (by omega), mSI_1ne (a := 27) (by omega), mSI_1ne (a := 27) (by omega), mSI_1ne (a := 27) (by omega), FIk_Row_32 (k := k) (by omega), mSI_1ne (a := 27) (by omega), FIk_Row_30 (k := k) (by omega), mSI_1ne (a := 27) (by omega), mSI_1ne (a := 27) (by omega), FIk_Row_28 (k := k) (by omega)]
theorem FrI_Tape_27 {M : Mem} (hz : Fr 28 M) : Fr 34 (FI_Tape_27 M) := by
  have hz := hz.mono (Nat.le_succ _)
  have hz := FrI_Row_28 hz
  have hz := hz.sI (k := 27) (j := 0) (v := 1) (Nat.le_of_ble_eq_true rfl)
  have hz := hz.sI (k := 27) (j := 1) (v := 0) (Nat.le_of_ble_eq_true rfl)
  have hz := hz.mono (Nat.le_succ _)
  have hz := FrI_Row_30 hz
  have hz := hz.sI (k := 27) (j := 2) (v := 1) (Nat.le_of_ble_eq_true rfl)
  have hz := hz.mono (Nat.le_succ _)
  have hz := FrI_Row_32 hz
  have hz := hz.sI (k := 27) (j := 3) (v := 1) (Nat.le_of_ble_eq_true rfl)
  have hz := hz.sI (k := 27) (j := 4) (v := 0) (Nat.le_of_ble_eq_true rfl)
  have hz := hz.sI (k := 27) (j := 5) (v := 0) (Nat.le_of_ble_eq_true rfl)
  have hz := hz.sI (k := 27) (j := 6) (v := 0) (Nat.le_of_ble_eq_true rfl)
  have hz := hz.sI (k := 27) (j := 7) (v := 0) (Nat.le_of_ble_eq_true rfl)
  exact hz
set_option maxRecDepth 100000 in
set_option maxHeartbeats 4000000 in
theorem KI_Tape_27 (l : Launch) (g : GB) (M : Mem) (hz : Fr 28 M) : CC l g yX8_init (.code yX8_init cX8_init 1 none :: wAll) { frames := 2, cells := 6, slots := 419, locals := 61 } [.ref (g.2.1 27)] 28 M 34 (FI_Tape_27 M) := by
  refine CC.of [(0, .ref (g.2.1 27))] (by decide) (Nat.le_of_ble_eq_true rfl) rfl ?_
  intro p e s m args below meth c K hr hin
  refine GC_aload_n rfl 0 rfl K dX8_init_0 ?_
  refine GC_objInit K dX8_init_1 wd_144 wd_34 wd_35 (Nat.le_of_ble_eq_true rfl) (Nat.le_of_ble_eq_true rfl) ?_
  refine GC_aload_n rfl 0 rfl K dX8_init_4 ?_
  refine GC_new (ci := 7) tyX7 tyX7_ok K rfl in_X7 wd_145 wd_43 wd_3 dX8_init_5 rfl (Nat.le_of_ble_eq_true rfl) (frC_28 g _ hz) (fun j hj => by revert j; decide +kernel) (by decide) ?_
  have hz := hz.mono (Nat.le_succ _)
  refine GC_dup rfl K dX8_init_8 ?_
  refine GC_sipush (v := 400) rfl K dX8_init_9 ?_
  refine GC_callI (y := yX7_init) [.int 400] [.ref (g.2.1 28), .ref (g.2.1 27)] K dX8_init_12 wd_146 wd_45 wd_3 wd_46 rfl ydc_X7_init (by decide) (by decide) rfl (Nat.le_of_ble_eq_true rfl) rfl rfl (Nat.le_of_ble_eq_true rfl) (KI_Row_28 l g _ hz) ?_
  have hz := FrI_Row_28 hz
  refine GC_putFR (ci := 8) (k := 0) (ty := (.object "KeptWell$Row")) K rfl in_X8 tyX8 tyX8_ok nmX8 wd_147 rfl rfl hin rfl (by decide +kernel) rfl rfl dX8_init_15 (Nat.le_of_ble_eq_true rfl) (Nat.le_of_ble_eq_true rfl) (shC_27 g _) (shC_27 g _) (Nat.le_of_ble_eq_true rfl) (Nat.le_of_ble_eq_true rfl) (sC_27_0 g _) ?_
  have hz := hz.sI (k := 27) (j := 0) (v := 1) (Nat.le_of_ble_eq_true rfl)
  refine GC_aload_n rfl 0 rfl K dX8_init_18 ?_
  refine GC_iconst (v := 0) rfl K dX8_init_19 ?_
  refine GC_putI (ci := 8) (k := 1) (ty := .int) K rfl in_X8 tyX8 tyX8_ok nmX8 wd_149 rfl rfl (by decide +kernel) rfl rfl dX8_init_20 (Nat.le_of_ble_eq_true rfl) (Nat.le_of_ble_eq_true rfl) (shC_27 g _) (shC_27 g _) (Nat.le_of_ble_eq_true rfl) (Nat.le_of_ble_eq_true rfl) (sC_27_1 g _ _) ?_
  have hz := hz.sI (k := 27) (j := 1) (v := 0) (Nat.le_of_ble_eq_true rfl)
  refine GC_aload_n rfl 0 rfl K dX8_init_23 ?_
  refine GC_new (ci := 7) tyX7 tyX7_ok K rfl in_X7 wd_145 wd_43 wd_3 dX8_init_24 rfl (Nat.le_of_ble_eq_true rfl) (frC_30 g _ hz) (fun j hj => by revert j; decide +kernel) (by decide) ?_
  have hz := hz.mono (Nat.le_succ _)
  refine GC_dup rfl K dX8_init_27 ?_
  refine GC_bipush (v := 13) rfl K dX8_init_28 ?_
  refine GC_callI (y := yX7_init) [.int 13] [.ref (g.2.1 30), .ref (g.2.1 27)] K dX8_init_30 wd_146 wd_45 wd_3 wd_46 rfl ydc_X7_init (by decide) (by decide) rfl (Nat.le_of_ble_eq_true rfl) rfl rfl (Nat.le_of_ble_eq_true rfl) (KI_Row_30 l g _ hz) ?_
  have hz := FrI_Row_30 hz
  refine GC_putFR (ci := 8) (k := 2) (ty := (.object "KeptWell$Row")) K rfl in_X8 tyX8 tyX8_ok nmX8 wd_151 rfl rfl hin rfl (by decide +kernel) rfl rfl dX8_init_33 (Nat.le_of_ble_eq_true rfl) (Nat.le_of_ble_eq_true rfl) (shC_27 g _) (shC_27 g _) (Nat.le_of_ble_eq_true rfl) (Nat.le_of_ble_eq_true rfl) (sC_27_2 g _) ?_
  have hz := hz.sI (k := 27) (j := 2) (v := 1) (Nat.le_of_ble_eq_true rfl)
  refine GC_aload_n rfl 0 rfl K dX8_init_36 ?_
  refine GC_new (ci := 7) tyX7 tyX7_ok K rfl in_X7 wd_145 wd_43 wd_3 dX8_init_37 rfl (Nat.le_of_ble_eq_true rfl) (frC_32 g _ hz) (fun j hj => by revert j; decide +kernel) (by decide) ?_
  have hz := hz.mono (Nat.le_succ _)
  refine GC_dup rfl K dX8_init_40 ?_
  refine GC_iconst (v := 3) rfl K dX8_init_41 ?_
  refine GC_callI (y := yX7_init) [.int 3] [.ref (g.2.1 32), .ref (g.2.1 27)] K dX8_init_42 wd_146 wd_45 wd_3 wd_46 rfl ydc_X7_init (by decide) (by decide) rfl (Nat.le_of_ble_eq_true rfl) rfl rfl (Nat.le_of_ble_eq_true rfl) (KI_Row_32 l g _ hz) ?_
  have hz := FrI_Row_32 hz
  refine GC_putFR (ci := 8) (k := 3) (ty := (.object "KeptWell$Row")) K rfl in_X8 tyX8 tyX8_ok nmX8 wd_153 rfl rfl hin rfl (by decide +kernel) rfl rfl dX8_init_45 (Nat.le_of_ble_eq_true rfl) (Nat.le_of_ble_eq_true rfl) (shC_27 g _) (shC_27 g _) (Nat.le_of_ble_eq_true rfl) (Nat.le_of_ble_eq_true rfl) (sC_27_3 g _) ?_
  have hz := hz.sI (k := 27) (j := 3) (v := 1) (Nat.le_of_ble_eq_true rfl)
  refine GC_aload_n rfl 0 rfl K dX8_init_48 ?_
  refine GC_iconst (v := 0) rfl K dX8_init_49 ?_
  refine GC_putI (ci := 8) (k := 4) (ty := .int) K rfl in_X8 tyX8 tyX8_ok nmX8 wd_154 rfl rfl (by decide +kernel) rfl rfl dX8_init_50 (Nat.le_of_ble_eq_true rfl) (Nat.le_of_ble_eq_true rfl) (shC_27 g _) (shC_27 g _) (Nat.le_of_ble_eq_true rfl) (Nat.le_of_ble_eq_true rfl) (sC_27_4 g _ _) ?_
  have hz := hz.sI (k := 27) (j := 4) (v := 0) (Nat.le_of_ble_eq_true rfl)
  refine GC_aload_n rfl 0 rfl K dX8_init_53 ?_
  refine GC_iconst (v := 0) rfl K dX8_init_54 ?_
  refine GC_putI (ci := 8) (k := 5) (ty := .int) K rfl in_X8 tyX8 tyX8_ok nmX8 wd_155 rfl rfl (by decide +kernel) rfl rfl dX8_init_55 (Nat.le_of_ble_eq_true rfl) (Nat.le_of_ble_eq_true rfl) (shC_27 g _) (shC_27 g _) (Nat.le_of_ble_eq_true rfl) (Nat.le_of_ble_eq_true rfl) (sC_27_5 g _ _) ?_
  have hz := hz.sI (k := 27) (j := 5) (v := 0) (Nat.le_of_ble_eq_true rfl)
  refine GC_aload_n rfl 0 rfl K dX8_init_58 ?_
  refine GC_iconst (v := 0) rfl K dX8_init_59 ?_
  refine GC_putI (ci := 8) (k := 6) (ty := .int) K rfl in_X8 tyX8 tyX8_ok nmX8 wd_156 rfl rfl (by decide +kernel) rfl rfl dX8_init_60 (Nat.le_of_ble_eq_true rfl) (Nat.le_of_ble_eq_true rfl) (shC_27 g _) (shC_27 g _) (Nat.le_of_ble_eq_true rfl) (Nat.le_of_ble_eq_true rfl) (sC_27_6 g _ _) ?_
  have hz := hz.sI (k := 27) (j := 6) (v := 0) (Nat.le_of_ble_eq_true rfl)
  refine GC_aload_n rfl 0 rfl K dX8_init_63 ?_
  refine GC_iconst (v := 0) rfl K dX8_init_64 ?_
  refine GC_putI (ci := 8) (k := 7) (ty := .int) K rfl in_X8 tyX8 tyX8_ok nmX8 wd_157 rfl rfl (by decide +kernel) rfl rfl dX8_init_65 (Nat.le_of_ble_eq_true rfl) (Nat.le_of_ble_eq_true rfl) (shC_27 g _) (shC_27 g _) (Nat.le_of_ble_eq_true rfl) (Nat.le_of_ble_eq_true rfl) (sC_27_7 g _ _) ?_
  have hz := hz.sI (k := 27) (j := 7) (v := 0) (Nat.le_of_ble_eq_true rfl)
  exact GC_vret K hr dX8_init_68 (Nat.le_of_ble_eq_true rfl) (Nat.le_of_ble_eq_true rfl) ⟨rfl, rfl⟩
theorem ydc_X8_init : ydN yX8_init 0 := ⟨by decide, by decide, by decide +kernel⟩
theorem sC_0_3 (g : GB) (M : Mem) : ([if M.1 0 0 = 0 then .null else .ref (g.2.1 1), if M.1 0 1 = 0 then .null else .ref (g.2.1 14), .int (M.1 0 2), if M.1 0 3 = 0 then .null else .ref (g.2.1 27), .int (M.1 0 4), if M.1 0 5 = 0 then .null else .ref (g.2.1 34), if M.1 0 6 = 0 then .null else .ref (g.2.1 52), if M.1 0 7 = 0 then .null else .ref (g.2.1 68), if M.1 0 8 = 0 then .null else .ref (g.2.1 79), if M.1 0 9 = 0 then .null else .ref (g.2.1 80), if M.1 0 10 = 0 then .null else .ref (g.2.1 91), if M.1 0 11 = 0 then .null else .ref (g.2.1 93)] : List Value).set 3 (.ref (g.2.1 27)) = [if (mSI M 0 3 1).1 0 0 = 0 then .null else .ref (g.2.1 1), if (mSI M 0 3 1).1 0 1 = 0 then .null else .ref (g.2.1 14), .int ((mSI M 0 3 1).1 0 2), if (mSI M 0 3 1).1 0 3 = 0 then .null else .ref (g.2.1 27), .int ((mSI M 0 3 1).1 0 4), if (mSI M 0 3 1).1 0 5 = 0 then .null else .ref (g.2.1 34), if (mSI M 0 3 1).1 0 6 = 0 then .null else .ref (g.2.1 52), if (mSI M 0 3 1).1 0 7 = 0 then .null else .ref (g.2.1 68), if (mSI M 0 3 1).1 0 8 = 0 then .null else .ref (g.2.1 79), if (mSI M 0 3 1).1 0 9 = 0 then .null else .ref (g.2.1 80), if (mSI M 0 3 1).1 0 10 = 0 then .null else .ref (g.2.1 91), if (mSI M 0 3 1).1 0 11 = 0 then .null else .ref (g.2.1 93)] := by first | (simp [mSI, mSL, upd, vp_updL]; done) | rfl
theorem sC_0_4 (g : GB) (M : Mem) (v : Int32) : ([if M.1 0 0 = 0 then .null else .ref (g.2.1 1), if M.1 0 1 = 0 then .null else .ref (g.2.1 14), .int (M.1 0 2), if M.1 0 3 = 0 then .null else .ref (g.2.1 27), .int (M.1 0 4), if M.1 0 5 = 0 then .null else .ref (g.2.1 34), if M.1 0 6 = 0 then .null else .ref (g.2.1 52), if M.1 0 7 = 0 then .null else .ref (g.2.1 68), if M.1 0 8 = 0 then .null else .ref (g.2.1 79), if M.1 0 9 = 0 then .null else .ref (g.2.1 80), if M.1 0 10 = 0 then .null else .ref (g.2.1 91), if M.1 0 11 = 0 then .null else .ref (g.2.1 93)] : List Value).set 4 (.int v) = [if (mSI M 0 4 v).1 0 0 = 0 then .null else .ref (g.2.1 1), if (mSI M 0 4 v).1 0 1 = 0 then .null else .ref (g.2.1 14), .int ((mSI M 0 4 v).1 0 2), if (mSI M 0 4 v).1 0 3 = 0 then .null else .ref (g.2.1 27), .int ((mSI M 0 4 v).1 0 4), if (mSI M 0 4 v).1 0 5 = 0 then .null else .ref (g.2.1 34), if (mSI M 0 4 v).1 0 6 = 0 then .null else .ref (g.2.1 52), if (mSI M 0 4 v).1 0 7 = 0 then .null else .ref (g.2.1 68), if (mSI M 0 4 v).1 0 8 = 0 then .null else .ref (g.2.1 79), if (mSI M 0 4 v).1 0 9 = 0 then .null else .ref (g.2.1 80), if (mSI M 0 4 v).1 0 10 = 0 then .null else .ref (g.2.1 91), if (mSI M 0 4 v).1 0 11 = 0 then .null else .ref (g.2.1 93)] := by first | (simp [mSI, mSL, upd, vp_updL]; done) | rfl
theorem gC_0_0 (g : GB) (M : Mem) (h : M.1 0 0 = 1) : ([if M.1 0 0 = 0 then .null else .ref (g.2.1 1), if M.1 0 1 = 0 then .null else .ref (g.2.1 14), .int (M.1 0 2), if M.1 0 3 = 0 then .null else .ref (g.2.1 27), .int (M.1 0 4), if M.1 0 5 = 0 then .null else .ref (g.2.1 34), if M.1 0 6 = 0 then .null else .ref (g.2.1 52), if M.1 0 7 = 0 then .null else .ref (g.2.1 68), if M.1 0 8 = 0 then .null else .ref (g.2.1 79), if M.1 0 9 = 0 then .null else .ref (g.2.1 80), if M.1 0 10 = 0 then .null else .ref (g.2.1 91), if M.1 0 11 = 0 then .null else .ref (g.2.1 93)] : List Value)[0]? = some (.ref (g.2.1 1)) := by simp [h]
theorem sC_36_0 (g : GB) (M : Mem) : ([if M.1 36 0 = 0 then .null else .ref (g.2.1 37)] : List Value).set 0 (.ref (g.2.1 37)) = [if (mSI M 36 0 1).1 36 0 = 0 then .null else .ref (g.2.1 37)] := by first | (simp [mSI, mSL, upd, vp_updL]; done) | rfl
def FI_Row_36 (M : Mem) : Mem := (mSI M 36 0 1)
theorem FIk_Row_36 {M : Mem} {k : Nat} (h : k < 36) : (FI_Row_36 M).1 k = M.1 k := by
  unfold FI_Row_36
  rw [mSI_1ne (a := 36) (by omega)]
theorem FrI_Row_36 {M : Mem} (hz : Fr 37 M) : Fr 38 (FI_Row_36 M) := by
  have hz := hz.mono (Nat.le_succ _)
  have hz := hz.sI (k := 36) (j := 0) (v := 1) (Nat.le_of_ble_eq_true rfl)
  exact hz
set_option maxRecDepth 100000 in
set_option maxHeartbeats 4000000 in
theorem KI_Row_36 (l : Launch) (g : GB) (M : Mem) (hz : Fr 37 M) : CC l g yX7_init (.code yX7_init cX7_init 2 none :: wAll) { frames := 1, cells := 1, slots := 9, locals := 40 } [.ref (g.2.1 36), .int 9] 37 M 38 (FI_Row_36 M) := by
  refine CC.of [(0, .ref (g.2.1 36)), (1, .int 9)] (by decide) (Nat.le_of_ble_eq_true rfl) rfl ?_
  intro p e s m args below meth c K hr hin
  refine GC_aload_n rfl 0 rfl K dX7_init_0 ?_
  refine GC_objInit K dX7_init_1 wd_47 wd_34 wd_35 (Nat.le_of_ble_eq_true rfl) (Nat.le_of_ble_eq_true rfl) ?_
  refine GC_aload_n rfl 0 rfl K dX7_init_4 ?_
  refine GC_iload_n rfl 1 rfl K dX7_init_5 ?_
  refine GC_iconst (v := 0) rfl K dX7_init_6 ?_
  refine GC_max (v := 9) (by decide) K dX7_init_7 wd_48 wd_49 wd_4 wd_50 (Nat.le_of_ble_eq_true rfl) (Nat.le_of_ble_eq_true rfl) ⟨Nat.le_of_ble_eq_true rfl, Nat.le_of_ble_eq_true rfl⟩ ?_
  refine GC_newa_long (N := 9) K dX7_init_10 wd_55 (by decide) (by decide) (by decide) rfl (Nat.le_of_ble_eq_true rfl) (frC_37 g _ hz) (by decide) ?_
  have hz := hz.mono (Nat.le_succ _)
  refine GC_putFR (ci := 7) (k := 0) (ty := (.array .long)) K rfl in_X7 tyX7 tyX7_ok nmX7 wd_51 rfl rfl hin rfl (by decide +kernel) rfl rfl dX7_init_12 (Nat.le_of_ble_eq_true rfl) (Nat.le_of_ble_eq_true rfl) (shC_36 g _) (shC_36 g _) (Nat.le_of_ble_eq_true rfl) (Nat.le_of_ble_eq_true rfl) (sC_36_0 g _) ?_
  have hz := hz.sI (k := 36) (j := 0) (v := 1) (Nat.le_of_ble_eq_true rfl)
  exact GC_vret K hr dX7_init_15 (Nat.le_of_ble_eq_true rfl) (Nat.le_of_ble_eq_true rfl) ⟨rfl, rfl⟩
theorem sC_35_0 (g : GB) (M : Mem) : ([if M.1 35 0 = 0 then .null else .ref (g.2.1 36), if M.1 35 1 = 0 then .null else .ref (g.2.1 38), if M.1 35 2 = 0 then .null else .ref (g.2.1 40), if M.1 35 3 = 0 then .null else .ref (g.2.1 42), if M.1 35 4 = 0 then .null else .ref (g.2.1 44), if M.1 35 5 = 0 then .null else .ref (g.2.1 46), .long (M.2 35 6), .long (M.2 35 7)] : List Value).set 0 (.ref (g.2.1 36)) = [if (mSI M 35 0 1).1 35 0 = 0 then .null else .ref (g.2.1 36), if (mSI M 35 0 1).1 35 1 = 0 then .null else .ref (g.2.1 38), if (mSI M 35 0 1).1 35 2 = 0 then .null else .ref (g.2.1 40), if (mSI M 35 0 1).1 35 3 = 0 then .null else .ref (g.2.1 42), if (mSI M 35 0 1).1 35 4 = 0 then .null else .ref (g.2.1 44), if (mSI M 35 0 1).1 35 5 = 0 then .null else .ref (g.2.1 46), .long ((mSI M 35 0 1).2 35 6), .long ((mSI M 35 0 1).2 35 7)] := by first | (simp [mSI, mSL, upd, vp_updL]; done) | rfl
theorem sC_38_0 (g : GB) (M : Mem) : ([if M.1 38 0 = 0 then .null else .ref (g.2.1 39)] : List Value).set 0 (.ref (g.2.1 39)) = [if (mSI M 38 0 1).1 38 0 = 0 then .null else .ref (g.2.1 39)] := by first | (simp [mSI, mSL, upd, vp_updL]; done) | rfl
def FI_Row_38 (M : Mem) : Mem := (mSI M 38 0 1)
theorem FIk_Row_38 {M : Mem} {k : Nat} (h : k < 38) : (FI_Row_38 M).1 k = M.1 k := by
  unfold FI_Row_38
  rw [mSI_1ne (a := 38) (by omega)]
theorem FrI_Row_38 {M : Mem} (hz : Fr 39 M) : Fr 40 (FI_Row_38 M) := by
  have hz := hz.mono (Nat.le_succ _)
  have hz := hz.sI (k := 38) (j := 0) (v := 1) (Nat.le_of_ble_eq_true rfl)
  exact hz
set_option maxRecDepth 100000 in
set_option maxHeartbeats 4000000 in
theorem KI_Row_38 (l : Launch) (g : GB) (M : Mem) (hz : Fr 39 M) : CC l g yX7_init (.code yX7_init cX7_init 2 none :: wAll) { frames := 1, cells := 1, slots := 18, locals := 40 } [.ref (g.2.1 38), .int 18] 39 M 40 (FI_Row_38 M) := by
  refine CC.of [(0, .ref (g.2.1 38)), (1, .int 18)] (by decide) (Nat.le_of_ble_eq_true rfl) rfl ?_
  intro p e s m args below meth c K hr hin
  refine GC_aload_n rfl 0 rfl K dX7_init_0 ?_
  refine GC_objInit K dX7_init_1 wd_47 wd_34 wd_35 (Nat.le_of_ble_eq_true rfl) (Nat.le_of_ble_eq_true rfl) ?_
  refine GC_aload_n rfl 0 rfl K dX7_init_4 ?_
  refine GC_iload_n rfl 1 rfl K dX7_init_5 ?_
  refine GC_iconst (v := 0) rfl K dX7_init_6 ?_
  refine GC_max (v := 18) (by decide) K dX7_init_7 wd_48 wd_49 wd_4 wd_50 (Nat.le_of_ble_eq_true rfl) (Nat.le_of_ble_eq_true rfl) ⟨Nat.le_of_ble_eq_true rfl, Nat.le_of_ble_eq_true rfl⟩ ?_
  refine GC_newa_long (N := 18) K dX7_init_10 wd_55 (by decide) (by decide) (by decide) rfl (Nat.le_of_ble_eq_true rfl) (frC_39 g _ hz) (by decide) ?_
  have hz := hz.mono (Nat.le_succ _)
  refine GC_putFR (ci := 7) (k := 0) (ty := (.array .long)) K rfl in_X7 tyX7 tyX7_ok nmX7 wd_51 rfl rfl hin rfl (by decide +kernel) rfl rfl dX7_init_12 (Nat.le_of_ble_eq_true rfl) (Nat.le_of_ble_eq_true rfl) (shC_38 g _) (shC_38 g _) (Nat.le_of_ble_eq_true rfl) (Nat.le_of_ble_eq_true rfl) (sC_38_0 g _) ?_
  have hz := hz.sI (k := 38) (j := 0) (v := 1) (Nat.le_of_ble_eq_true rfl)
  exact GC_vret K hr dX7_init_15 (Nat.le_of_ble_eq_true rfl) (Nat.le_of_ble_eq_true rfl) ⟨rfl, rfl⟩
theorem sC_35_1 (g : GB) (M : Mem) : ([if M.1 35 0 = 0 then .null else .ref (g.2.1 36), if M.1 35 1 = 0 then .null else .ref (g.2.1 38), if M.1 35 2 = 0 then .null else .ref (g.2.1 40), if M.1 35 3 = 0 then .null else .ref (g.2.1 42), if M.1 35 4 = 0 then .null else .ref (g.2.1 44), if M.1 35 5 = 0 then .null else .ref (g.2.1 46), .long (M.2 35 6), .long (M.2 35 7)] : List Value).set 1 (.ref (g.2.1 38)) = [if (mSI M 35 1 1).1 35 0 = 0 then .null else .ref (g.2.1 36), if (mSI M 35 1 1).1 35 1 = 0 then .null else .ref (g.2.1 38), if (mSI M 35 1 1).1 35 2 = 0 then .null else .ref (g.2.1 40), if (mSI M 35 1 1).1 35 3 = 0 then .null else .ref (g.2.1 42), if (mSI M 35 1 1).1 35 4 = 0 then .null else .ref (g.2.1 44), if (mSI M 35 1 1).1 35 5 = 0 then .null else .ref (g.2.1 46), .long ((mSI M 35 1 1).2 35 6), .long ((mSI M 35 1 1).2 35 7)] := by first | (simp [mSI, mSL, upd, vp_updL]; done) | rfl
theorem sC_40_0 (g : GB) (M : Mem) : ([if M.1 40 0 = 0 then .null else .ref (g.2.1 41)] : List Value).set 0 (.ref (g.2.1 41)) = [if (mSI M 40 0 1).1 40 0 = 0 then .null else .ref (g.2.1 41)] := by first | (simp [mSI, mSL, upd, vp_updL]; done) | rfl
def FI_Row_40 (M : Mem) : Mem := (mSI M 40 0 1)
theorem FIk_Row_40 {M : Mem} {k : Nat} (h : k < 40) : (FI_Row_40 M).1 k = M.1 k := by
  unfold FI_Row_40
  rw [mSI_1ne (a := 40) (by omega)]
theorem FrI_Row_40 {M : Mem} (hz : Fr 41 M) : Fr 42 (FI_Row_40 M) := by
  have hz := hz.mono (Nat.le_succ _)
  have hz := hz.sI (k := 40) (j := 0) (v := 1) (Nat.le_of_ble_eq_true rfl)
  exact hz
set_option maxRecDepth 100000 in
set_option maxHeartbeats 4000000 in
theorem KI_Row_40 (l : Launch) (g : GB) (M : Mem) (hz : Fr 41 M) : CC l g yX7_init (.code yX7_init cX7_init 2 none :: wAll) { frames := 1, cells := 1, slots := 18, locals := 40 } [.ref (g.2.1 40), .int 18] 41 M 42 (FI_Row_40 M) := by
  refine CC.of [(0, .ref (g.2.1 40)), (1, .int 18)] (by decide) (Nat.le_of_ble_eq_true rfl) rfl ?_
  intro p e s m args below meth c K hr hin
  refine GC_aload_n rfl 0 rfl K dX7_init_0 ?_
  refine GC_objInit K dX7_init_1 wd_47 wd_34 wd_35 (Nat.le_of_ble_eq_true rfl) (Nat.le_of_ble_eq_true rfl) ?_
  refine GC_aload_n rfl 0 rfl K dX7_init_4 ?_
  refine GC_iload_n rfl 1 rfl K dX7_init_5 ?_
  refine GC_iconst (v := 0) rfl K dX7_init_6 ?_
  refine GC_max (v := 18) (by decide) K dX7_init_7 wd_48 wd_49 wd_4 wd_50 (Nat.le_of_ble_eq_true rfl) (Nat.le_of_ble_eq_true rfl) ⟨Nat.le_of_ble_eq_true rfl, Nat.le_of_ble_eq_true rfl⟩ ?_
  refine GC_newa_long (N := 18) K dX7_init_10 wd_55 (by decide) (by decide) (by decide) rfl (Nat.le_of_ble_eq_true rfl) (frC_41 g _ hz) (by decide) ?_
  have hz := hz.mono (Nat.le_succ _)
  refine GC_putFR (ci := 7) (k := 0) (ty := (.array .long)) K rfl in_X7 tyX7 tyX7_ok nmX7 wd_51 rfl rfl hin rfl (by decide +kernel) rfl rfl dX7_init_12 (Nat.le_of_ble_eq_true rfl) (Nat.le_of_ble_eq_true rfl) (shC_40 g _) (shC_40 g _) (Nat.le_of_ble_eq_true rfl) (Nat.le_of_ble_eq_true rfl) (sC_40_0 g _) ?_
  have hz := hz.sI (k := 40) (j := 0) (v := 1) (Nat.le_of_ble_eq_true rfl)
  exact GC_vret K hr dX7_init_15 (Nat.le_of_ble_eq_true rfl) (Nat.le_of_ble_eq_true rfl) ⟨rfl, rfl⟩
theorem sC_35_2 (g : GB) (M : Mem) : ([if M.1 35 0 = 0 then .null else .ref (g.2.1 36), if M.1 35 1 = 0 then .null else .ref (g.2.1 38), if M.1 35 2 = 0 then .null else .ref (g.2.1 40), if M.1 35 3 = 0 then .null else .ref (g.2.1 42), if M.1 35 4 = 0 then .null else .ref (g.2.1 44), if M.1 35 5 = 0 then .null else .ref (g.2.1 46), .long (M.2 35 6), .long (M.2 35 7)] : List Value).set 2 (.ref (g.2.1 40)) = [if (mSI M 35 2 1).1 35 0 = 0 then .null else .ref (g.2.1 36), if (mSI M 35 2 1).1 35 1 = 0 then .null else .ref (g.2.1 38), if (mSI M 35 2 1).1 35 2 = 0 then .null else .ref (g.2.1 40), if (mSI M 35 2 1).1 35 3 = 0 then .null else .ref (g.2.1 42), if (mSI M 35 2 1).1 35 4 = 0 then .null else .ref (g.2.1 44), if (mSI M 35 2 1).1 35 5 = 0 then .null else .ref (g.2.1 46), .long ((mSI M 35 2 1).2 35 6), .long ((mSI M 35 2 1).2 35 7)] := by first | (simp [mSI, mSL, upd, vp_updL]; done) | rfl
theorem sC_42_0 (g : GB) (M : Mem) : ([if M.1 42 0 = 0 then .null else .ref (g.2.1 43)] : List Value).set 0 (.ref (g.2.1 43)) = [if (mSI M 42 0 1).1 42 0 = 0 then .null else .ref (g.2.1 43)] := by first | (simp [mSI, mSL, upd, vp_updL]; done) | rfl
def FI_Row_42 (M : Mem) : Mem := (mSI M 42 0 1)
theorem FIk_Row_42 {M : Mem} {k : Nat} (h : k < 42) : (FI_Row_42 M).1 k = M.1 k := by
  unfold FI_Row_42
  rw [mSI_1ne (a := 42) (by omega)]
theorem FrI_Row_42 {M : Mem} (hz : Fr 43 M) : Fr 44 (FI_Row_42 M) := by
  have hz := hz.mono (Nat.le_succ _)
  have hz := hz.sI (k := 42) (j := 0) (v := 1) (Nat.le_of_ble_eq_true rfl)
  exact hz
set_option maxRecDepth 100000 in
set_option maxHeartbeats 4000000 in
theorem KI_Row_42 (l : Launch) (g : GB) (M : Mem) (hz : Fr 43 M) : CC l g yX7_init (.code yX7_init cX7_init 2 none :: wAll) { frames := 1, cells := 1, slots := 9, locals := 40 } [.ref (g.2.1 42), .int 9] 43 M 44 (FI_Row_42 M) := by
  refine CC.of [(0, .ref (g.2.1 42)), (1, .int 9)] (by decide) (Nat.le_of_ble_eq_true rfl) rfl ?_
  intro p e s m args below meth c K hr hin
  refine GC_aload_n rfl 0 rfl K dX7_init_0 ?_
  refine GC_objInit K dX7_init_1 wd_47 wd_34 wd_35 (Nat.le_of_ble_eq_true rfl) (Nat.le_of_ble_eq_true rfl) ?_
  refine GC_aload_n rfl 0 rfl K dX7_init_4 ?_
  refine GC_iload_n rfl 1 rfl K dX7_init_5 ?_
  refine GC_iconst (v := 0) rfl K dX7_init_6 ?_
  refine GC_max (v := 9) (by decide) K dX7_init_7 wd_48 wd_49 wd_4 wd_50 (Nat.le_of_ble_eq_true rfl) (Nat.le_of_ble_eq_true rfl) ⟨Nat.le_of_ble_eq_true rfl, Nat.le_of_ble_eq_true rfl⟩ ?_
  refine GC_newa_long (N := 9) K dX7_init_10 wd_55 (by decide) (by decide) (by decide) rfl (Nat.le_of_ble_eq_true rfl) (frC_43 g _ hz) (by decide) ?_
  have hz := hz.mono (Nat.le_succ _)
  refine GC_putFR (ci := 7) (k := 0) (ty := (.array .long)) K rfl in_X7 tyX7 tyX7_ok nmX7 wd_51 rfl rfl hin rfl (by decide +kernel) rfl rfl dX7_init_12 (Nat.le_of_ble_eq_true rfl) (Nat.le_of_ble_eq_true rfl) (shC_42 g _) (shC_42 g _) (Nat.le_of_ble_eq_true rfl) (Nat.le_of_ble_eq_true rfl) (sC_42_0 g _) ?_
  have hz := hz.sI (k := 42) (j := 0) (v := 1) (Nat.le_of_ble_eq_true rfl)
  exact GC_vret K hr dX7_init_15 (Nat.le_of_ble_eq_true rfl) (Nat.le_of_ble_eq_true rfl) ⟨rfl, rfl⟩
theorem sC_35_3 (g : GB) (M : Mem) : ([if M.1 35 0 = 0 then .null else .ref (g.2.1 36), if M.1 35 1 = 0 then .null else .ref (g.2.1 38), if M.1 35 2 = 0 then .null else .ref (g.2.1 40), if M.1 35 3 = 0 then .null else .ref (g.2.1 42), if M.1 35 4 = 0 then .null else .ref (g.2.1 44), if M.1 35 5 = 0 then .null else .ref (g.2.1 46), .long (M.2 35 6), .long (M.2 35 7)] : List Value).set 3 (.ref (g.2.1 42)) = [if (mSI M 35 3 1).1 35 0 = 0 then .null else .ref (g.2.1 36), if (mSI M 35 3 1).1 35 1 = 0 then .null else .ref (g.2.1 38), if (mSI M 35 3 1).1 35 2 = 0 then .null else .ref (g.2.1 40), if (mSI M 35 3 1).1 35 3 = 0 then .null else .ref (g.2.1 42), if (mSI M 35 3 1).1 35 4 = 0 then .null else .ref (g.2.1 44), if (mSI M 35 3 1).1 35 5 = 0 then .null else .ref (g.2.1 46), .long ((mSI M 35 3 1).2 35 6), .long ((mSI M 35 3 1).2 35 7)] := by first | (simp [mSI, mSL, upd, vp_updL]; done) | rfl
theorem sC_44_0 (g : GB) (M : Mem) : ([if M.1 44 0 = 0 then .null else .ref (g.2.1 45)] : List Value).set 0 (.ref (g.2.1 45)) = [if (mSI M 44 0 1).1 44 0 = 0 then .null else .ref (g.2.1 45)] := by first | (simp [mSI, mSL, upd, vp_updL]; done) | rfl
def FI_Row_44 (M : Mem) : Mem := (mSI M 44 0 1)
theorem FIk_Row_44 {M : Mem} {k : Nat} (h : k < 44) : (FI_Row_44 M).1 k = M.1 k := by
  unfold FI_Row_44
  rw [mSI_1ne (a := 44) (by omega)]
theorem FrI_Row_44 {M : Mem} (hz : Fr 45 M) : Fr 46 (FI_Row_44 M) := by
  have hz := hz.mono (Nat.le_succ _)
  have hz := hz.sI (k := 44) (j := 0) (v := 1) (Nat.le_of_ble_eq_true rfl)
  exact hz
set_option maxRecDepth 100000 in
set_option maxHeartbeats 4000000 in
theorem KI_Row_44 (l : Launch) (g : GB) (M : Mem) (hz : Fr 45 M) : CC l g yX7_init (.code yX7_init cX7_init 2 none :: wAll) { frames := 1, cells := 1, slots := 9, locals := 40 } [.ref (g.2.1 44), .int 9] 45 M 46 (FI_Row_44 M) := by
  refine CC.of [(0, .ref (g.2.1 44)), (1, .int 9)] (by decide) (Nat.le_of_ble_eq_true rfl) rfl ?_
  intro p e s m args below meth c K hr hin
  refine GC_aload_n rfl 0 rfl K dX7_init_0 ?_
  refine GC_objInit K dX7_init_1 wd_47 wd_34 wd_35 (Nat.le_of_ble_eq_true rfl) (Nat.le_of_ble_eq_true rfl) ?_
  refine GC_aload_n rfl 0 rfl K dX7_init_4 ?_
  refine GC_iload_n rfl 1 rfl K dX7_init_5 ?_
  refine GC_iconst (v := 0) rfl K dX7_init_6 ?_
  refine GC_max (v := 9) (by decide) K dX7_init_7 wd_48 wd_49 wd_4 wd_50 (Nat.le_of_ble_eq_true rfl) (Nat.le_of_ble_eq_true rfl) ⟨Nat.le_of_ble_eq_true rfl, Nat.le_of_ble_eq_true rfl⟩ ?_
  refine GC_newa_long (N := 9) K dX7_init_10 wd_55 (by decide) (by decide) (by decide) rfl (Nat.le_of_ble_eq_true rfl) (frC_45 g _ hz) (by decide) ?_
  have hz := hz.mono (Nat.le_succ _)
  refine GC_putFR (ci := 7) (k := 0) (ty := (.array .long)) K rfl in_X7 tyX7 tyX7_ok nmX7 wd_51 rfl rfl hin rfl (by decide +kernel) rfl rfl dX7_init_12 (Nat.le_of_ble_eq_true rfl) (Nat.le_of_ble_eq_true rfl) (shC_44 g _) (shC_44 g _) (Nat.le_of_ble_eq_true rfl) (Nat.le_of_ble_eq_true rfl) (sC_44_0 g _) ?_
  have hz := hz.sI (k := 44) (j := 0) (v := 1) (Nat.le_of_ble_eq_true rfl)
  exact GC_vret K hr dX7_init_15 (Nat.le_of_ble_eq_true rfl) (Nat.le_of_ble_eq_true rfl) ⟨rfl, rfl⟩
theorem sC_35_4 (g : GB) (M : Mem) : ([if M.1 35 0 = 0 then .null else .ref (g.2.1 36), if M.1 35 1 = 0 then .null else .ref (g.2.1 38), if M.1 35 2 = 0 then .null else .ref (g.2.1 40), if M.1 35 3 = 0 then .null else .ref (g.2.1 42), if M.1 35 4 = 0 then .null else .ref (g.2.1 44), if M.1 35 5 = 0 then .null else .ref (g.2.1 46), .long (M.2 35 6), .long (M.2 35 7)] : List Value).set 4 (.ref (g.2.1 44)) = [if (mSI M 35 4 1).1 35 0 = 0 then .null else .ref (g.2.1 36), if (mSI M 35 4 1).1 35 1 = 0 then .null else .ref (g.2.1 38), if (mSI M 35 4 1).1 35 2 = 0 then .null else .ref (g.2.1 40), if (mSI M 35 4 1).1 35 3 = 0 then .null else .ref (g.2.1 42), if (mSI M 35 4 1).1 35 4 = 0 then .null else .ref (g.2.1 44), if (mSI M 35 4 1).1 35 5 = 0 then .null else .ref (g.2.1 46), .long ((mSI M 35 4 1).2 35 6), .long ((mSI M 35 4 1).2 35 7)] := by first | (simp [mSI, mSL, upd, vp_updL]; done) | rfl
theorem sC_46_0 (g : GB) (M : Mem) : ([if M.1 46 0 = 0 then .null else .ref (g.2.1 47)] : List Value).set 0 (.ref (g.2.1 47)) = [if (mSI M 46 0 1).1 46 0 = 0 then .null else .ref (g.2.1 47)] := by first | (simp [mSI, mSL, upd, vp_updL]; done) | rfl
def FI_Row_46 (M : Mem) : Mem := (mSI M 46 0 1)
theorem FIk_Row_46 {M : Mem} {k : Nat} (h : k < 46) : (FI_Row_46 M).1 k = M.1 k := by
  unfold FI_Row_46
  rw [mSI_1ne (a := 46) (by omega)]
theorem FrI_Row_46 {M : Mem} (hz : Fr 47 M) : Fr 48 (FI_Row_46 M) := by
  have hz := hz.mono (Nat.le_succ _)
  have hz := hz.sI (k := 46) (j := 0) (v := 1) (Nat.le_of_ble_eq_true rfl)
  exact hz
set_option maxRecDepth 100000 in
set_option maxHeartbeats 4000000 in
theorem KI_Row_46 (l : Launch) (g : GB) (M : Mem) (hz : Fr 47 M) : CC l g yX7_init (.code yX7_init cX7_init 2 none :: wAll) { frames := 1, cells := 1, slots := 9, locals := 40 } [.ref (g.2.1 46), .int 9] 47 M 48 (FI_Row_46 M) := by
  refine CC.of [(0, .ref (g.2.1 46)), (1, .int 9)] (by decide) (Nat.le_of_ble_eq_true rfl) rfl ?_
  intro p e s m args below meth c K hr hin
  refine GC_aload_n rfl 0 rfl K dX7_init_0 ?_
  refine GC_objInit K dX7_init_1 wd_47 wd_34 wd_35 (Nat.le_of_ble_eq_true rfl) (Nat.le_of_ble_eq_true rfl) ?_
  refine GC_aload_n rfl 0 rfl K dX7_init_4 ?_
  refine GC_iload_n rfl 1 rfl K dX7_init_5 ?_
  refine GC_iconst (v := 0) rfl K dX7_init_6 ?_
  refine GC_max (v := 9) (by decide) K dX7_init_7 wd_48 wd_49 wd_4 wd_50 (Nat.le_of_ble_eq_true rfl) (Nat.le_of_ble_eq_true rfl) ⟨Nat.le_of_ble_eq_true rfl, Nat.le_of_ble_eq_true rfl⟩ ?_
  refine GC_newa_long (N := 9) K dX7_init_10 wd_55 (by decide) (by decide) (by decide) rfl (Nat.le_of_ble_eq_true rfl) (frC_47 g _ hz) (by decide) ?_
  have hz := hz.mono (Nat.le_succ _)
  refine GC_putFR (ci := 7) (k := 0) (ty := (.array .long)) K rfl in_X7 tyX7 tyX7_ok nmX7 wd_51 rfl rfl hin rfl (by decide +kernel) rfl rfl dX7_init_12 (Nat.le_of_ble_eq_true rfl) (Nat.le_of_ble_eq_true rfl) (shC_46 g _) (shC_46 g _) (Nat.le_of_ble_eq_true rfl) (Nat.le_of_ble_eq_true rfl) (sC_46_0 g _) ?_
  have hz := hz.sI (k := 46) (j := 0) (v := 1) (Nat.le_of_ble_eq_true rfl)
  exact GC_vret K hr dX7_init_15 (Nat.le_of_ble_eq_true rfl) (Nat.le_of_ble_eq_true rfl) ⟨rfl, rfl⟩
theorem sC_35_5 (g : GB) (M : Mem) : ([if M.1 35 0 = 0 then .null else .ref (g.2.1 36), if M.1 35 1 = 0 then .null else .ref (g.2.1 38), if M.1 35 2 = 0 then .null else .ref (g.2.1 40), if M.1 35 3 = 0 then .null else .ref (g.2.1 42), if M.1 35 4 = 0 then .null else .ref (g.2.1 44), if M.1 35 5 = 0 then .null else .ref (g.2.1 46), .long (M.2 35 6), .long (M.2 35 7)] : List Value).set 5 (.ref (g.2.1 46)) = [if (mSI M 35 5 1).1 35 0 = 0 then .null else .ref (g.2.1 36), if (mSI M 35 5 1).1 35 1 = 0 then .null else .ref (g.2.1 38), if (mSI M 35 5 1).1 35 2 = 0 then .null else .ref (g.2.1 40), if (mSI M 35 5 1).1 35 3 = 0 then .null else .ref (g.2.1 42), if (mSI M 35 5 1).1 35 4 = 0 then .null else .ref (g.2.1 44), if (mSI M 35 5 1).1 35 5 = 0 then .null else .ref (g.2.1 46), .long ((mSI M 35 5 1).2 35 6), .long ((mSI M 35 5 1).2 35 7)] := by first | (simp [mSI, mSL, upd, vp_updL]; done) | rfl
theorem sC_35_6 (g : GB) (M : Mem) (v : Int64) : ([if M.1 35 0 = 0 then .null else .ref (g.2.1 36), if M.1 35 1 = 0 then .null else .ref (g.2.1 38), if M.1 35 2 = 0 then .null else .ref (g.2.1 40), if M.1 35 3 = 0 then .null else .ref (g.2.1 42), if M.1 35 4 = 0 then .null else .ref (g.2.1 44), if M.1 35 5 = 0 then .null else .ref (g.2.1 46), .long (M.2 35 6), .long (M.2 35 7)] : List Value).set 6 (.long v) = [if (mSL M 35 6 v).1 35 0 = 0 then .null else .ref (g.2.1 36), if (mSL M 35 6 v).1 35 1 = 0 then .null else .ref (g.2.1 38), if (mSL M 35 6 v).1 35 2 = 0 then .null else .ref (g.2.1 40), if (mSL M 35 6 v).1 35 3 = 0 then .null else .ref (g.2.1 42), if (mSL M 35 6 v).1 35 4 = 0 then .null else .ref (g.2.1 44), if (mSL M 35 6 v).1 35 5 = 0 then .null else .ref (g.2.1 46), .long ((mSL M 35 6 v).2 35 6), .long ((mSL M 35 6 v).2 35 7)] := by first | (simp [mSI, mSL, upd, vp_updL]; done) | rfl
theorem sC_35_7 (g : GB) (M : Mem) (v : Int64) : ([if M.1 35 0 = 0 then .null else .ref (g.2.1 36), if M.1 35 1 = 0 then .null else .ref (g.2.1 38), if M.1 35 2 = 0 then .null else .ref (g.2.1 40), if M.1 35 3 = 0 then .null else .ref (g.2.1 42), if M.1 35 4 = 0 then .null else .ref (g.2.1 44), if M.1 35 5 = 0 then .null else .ref (g.2.1 46), .long (M.2 35 6), .long (M.2 35 7)] : List Value).set 7 (.long v) = [if (mSL M 35 7 v).1 35 0 = 0 then .null else .ref (g.2.1 36), if (mSL M 35 7 v).1 35 1 = 0 then .null else .ref (g.2.1 38), if (mSL M 35 7 v).1 35 2 = 0 then .null else .ref (g.2.1 40), if (mSL M 35 7 v).1 35 3 = 0 then .null else .ref (g.2.1 42), if (mSL M 35 7 v).1 35 4 = 0 then .null else .ref (g.2.1 44), if (mSL M 35 7 v).1 35 5 = 0 then .null else .ref (g.2.1 46), .long ((mSL M 35 7 v).2 35 6), .long ((mSL M 35 7 v).2 35 7)] := by first | (simp [mSI, mSL, upd, vp_updL]; done) | rfl
def on_X2_init : Nat := 0xb12900b52700142a2300b50a2a2000b50d00b70910590900bb2a1d00b50d00b70910590900bb2a1a00b50d00b70910590900bb2a1700b50d00b71210590900bb2a1400b50d00b71210590900bb2a1000b50d00b70910590900bb2a0300b72a
theorem ob_X2_init : OKB cX2_init on_X2_init 95 := ⟨by decide +kernel, by decide +kernel⟩
theorem dX2_init_0 : dc cX2_init 0 1 (.aload_n 0) 1 := o_42 ob_X2_init rfl rfl rfl
theorem dX2_init_1 : dc cX2_init 1 4 (.invokespecial 3) 3 := o_183 ob_X2_init rfl rfl rfl rfl
theorem dX2_init_4 : dc cX2_init 4 5 (.aload_n 0) 1 := o_42 ob_X2_init rfl rfl rfl
theorem dX2_init_5 : dc cX2_init 5 8 (.new 9) 3 := o_187 ob_X2_init rfl rfl rfl rfl
theorem dX2_init_8 : dc cX2_init 8 9 .dup 1 := o_89 ob_X2_init rfl rfl rfl
theorem dX2_init_9 : dc cX2_init 9 11 (.bipush 9) 2 := o_16 ob_X2_init rfl rfl rfl rfl
theorem dX2_init_11 : dc cX2_init 11 14 (.invokespecial 13) 3 := o_183 ob_X2_init rfl rfl rfl rfl
theorem dX2_init_14 : dc cX2_init 14 17 (.putfield 16) 3 := o_181 ob_X2_init rfl rfl rfl rfl
theorem dX2_init_17 : dc cX2_init 17 18 (.aload_n 0) 1 := o_42 ob_X2_init rfl rfl rfl
theorem dX2_init_18 : dc cX2_init 18 21 (.new 9) 3 := o_187 ob_X2_init rfl rfl rfl rfl
theorem dX2_init_21 : dc cX2_init 21 22 .dup 1 := o_89 ob_X2_init rfl rfl rfl
theorem dX2_init_22 : dc cX2_init 22 24 (.bipush 18) 2 := o_16 ob_X2_init rfl rfl rfl rfl
theorem dX2_init_24 : dc cX2_init 24 27 (.invokespecial 13) 3 := o_183 ob_X2_init rfl rfl rfl rfl
theorem dX2_init_27 : dc cX2_init 27 30 (.putfield 20) 3 := o_181 ob_X2_init rfl rfl rfl rfl
theorem dX2_init_30 : dc cX2_init 30 31 (.aload_n 0) 1 := o_42 ob_X2_init rfl rfl rfl
theorem dX2_init_31 : dc cX2_init 31 34 (.new 9) 3 := o_187 ob_X2_init rfl rfl rfl rfl
theorem dX2_init_34 : dc cX2_init 34 35 .dup 1 := o_89 ob_X2_init rfl rfl rfl
theorem dX2_init_35 : dc cX2_init 35 37 (.bipush 18) 2 := o_16 ob_X2_init rfl rfl rfl rfl
theorem dX2_init_37 : dc cX2_init 37 40 (.invokespecial 13) 3 := o_183 ob_X2_init rfl rfl rfl rfl
theorem dX2_init_40 : dc cX2_init 40 43 (.putfield 23) 3 := o_181 ob_X2_init rfl rfl rfl rfl
theorem dX2_init_43 : dc cX2_init 43 44 (.aload_n 0) 1 := o_42 ob_X2_init rfl rfl rfl
theorem dX2_init_44 : dc cX2_init 44 47 (.new 9) 3 := o_187 ob_X2_init rfl rfl rfl rfl
theorem dX2_init_47 : dc cX2_init 47 48 .dup 1 := o_89 ob_X2_init rfl rfl rfl
theorem dX2_init_48 : dc cX2_init 48 50 (.bipush 9) 2 := o_16 ob_X2_init rfl rfl rfl rfl
theorem dX2_init_50 : dc cX2_init 50 53 (.invokespecial 13) 3 := o_183 ob_X2_init rfl rfl rfl rfl
theorem dX2_init_53 : dc cX2_init 53 56 (.putfield 26) 3 := o_181 ob_X2_init rfl rfl rfl rfl
theorem dX2_init_56 : dc cX2_init 56 57 (.aload_n 0) 1 := o_42 ob_X2_init rfl rfl rfl
theorem dX2_init_57 : dc cX2_init 57 60 (.new 9) 3 := o_187 ob_X2_init rfl rfl rfl rfl
theorem dX2_init_60 : dc cX2_init 60 61 .dup 1 := o_89 ob_X2_init rfl rfl rfl
theorem dX2_init_61 : dc cX2_init 61 63 (.bipush 9) 2 := o_16 ob_X2_init rfl rfl rfl rfl
theorem dX2_init_63 : dc cX2_init 63 66 (.invokespecial 13) 3 := o_183 ob_X2_init rfl rfl rfl rfl
theorem dX2_init_66 : dc cX2_init 66 69 (.putfield 29) 3 := o_181 ob_X2_init rfl rfl rfl rfl
theorem dX2_init_69 : dc cX2_init 69 70 (.aload_n 0) 1 := o_42 ob_X2_init rfl rfl rfl
theorem dX2_init_70 : dc cX2_init 70 73 (.new 9) 3 := o_187 ob_X2_init rfl rfl rfl rfl
theorem dX2_init_73 : dc cX2_init 73 74 .dup 1 := o_89 ob_X2_init rfl rfl rfl
theorem dX2_init_74 : dc cX2_init 74 76 (.bipush 9) 2 := o_16 ob_X2_init rfl rfl rfl rfl
theorem dX2_init_76 : dc cX2_init 76 79 (.invokespecial 13) 3 := o_183 ob_X2_init rfl rfl rfl rfl
theorem dX2_init_79 : dc cX2_init 79 82 (.putfield 32) 3 := o_181 ob_X2_init rfl rfl rfl rfl
theorem dX2_init_82 : dc cX2_init 82 83 (.aload_n 0) 1 := o_42 ob_X2_init rfl rfl rfl
theorem dX2_init_83 : dc cX2_init 83 84 (.lconst 1) 1 := o_10 ob_X2_init rfl rfl rfl
theorem dX2_init_84 : dc cX2_init 84 87 (.putfield 35) 3 := o_181 ob_X2_init rfl rfl rfl rfl
theorem dX2_init_87 : dc cX2_init 87 88 (.aload_n 0) 1 := o_42 ob_X2_init rfl rfl rfl
theorem dX2_init_88 : dc cX2_init 88 91 (.ldc2_w 39) 3 := o_20 ob_X2_init rfl rfl rfl rfl
theorem dX2_init_91 : dc cX2_init 91 94 (.putfield 41) 3 := o_181 ob_X2_init rfl rfl rfl rfl
theorem dX2_init_94 : dc cX2_init 94 95 .return_ 1 := o_177 ob_X2_init rfl rfl rfl
def FI_Chain_35 (M : Mem) : Mem := (mSL ((mSL ((mSI ((FI_Row_46 ((mSI ((FI_Row_44 ((mSI ((FI_Row_42 ((mSI ((FI_Row_40 ((mSI ((FI_Row_38 ((mSI ((FI_Row_36 M)) 35 0 1)))) 35 1 1)))) 35 2 1)))) 35 3 1)))) 35 4 1)))) 35 5 1)) 35 6 1)) 35 7 2)
theorem FIk_Chain_35 {M : Mem} {k : Nat} (h : k < 35) : (FI_Chain_35 M).1 k = M.1 k := by
  unfold FI_Chain_35
  rw [mSL_1k, mSL_1k, mSI_1ne (a := 35) (by omega), FIk_Row_46 (k := k) (by omega), mSI_1ne (a := 35) (by omega), FIk_Row_44 (k := k) (by omega), mSI_1ne (a := 35) (by omega), FIk_Row_42 (k := k) (by omega), mSI_1ne (a := 35) (by omega), FIk_Row_40 (k := k) (by omega), mSI_1ne (a := 35) (by omega), FIk_Row_38 (k := k) (by omega), mSI_1ne (a := 35) (by omega), FIk_Row_36 (k := k) (by omega)]
theorem FrI_Chain_35 {M : Mem} (hz : Fr 36 M) : Fr 48 (FI_Chain_35 M) := by
  have hz := hz.mono (Nat.le_succ _)
  have hz := FrI_Row_36 hz
  have hz := hz.sI (k := 35) (j := 0) (v := 1) (Nat.le_of_ble_eq_true rfl)
  have hz := hz.mono (Nat.le_succ _)
  have hz := FrI_Row_38 hz
  have hz := hz.sI (k := 35) (j := 1) (v := 1) (Nat.le_of_ble_eq_true rfl)
  have hz := hz.mono (Nat.le_succ _)
  have hz := FrI_Row_40 hz
  have hz := hz.sI (k := 35) (j := 2) (v := 1) (Nat.le_of_ble_eq_true rfl)
  have hz := hz.mono (Nat.le_succ _)
  have hz := FrI_Row_42 hz
  have hz := hz.sI (k := 35) (j := 3) (v := 1) (Nat.le_of_ble_eq_true rfl)
  have hz := hz.mono (Nat.le_succ _)
  have hz := FrI_Row_44 hz
  have hz := hz.sI (k := 35) (j := 4) (v := 1) (Nat.le_of_ble_eq_true rfl)
  have hz := hz.mono (Nat.le_succ _)
  have hz := FrI_Row_46 hz
  have hz := hz.sI (k := 35) (j := 5) (v := 1) (Nat.le_of_ble_eq_true rfl)
  have hz := hz.sL (k := 35) (j := 6) (v := 1) (Nat.le_of_ble_eq_true rfl)
  have hz := hz.sL (k := 35) (j := 7) (v := 2) (Nat.le_of_ble_eq_true rfl)
  exact hz
set_option maxRecDepth 100000 in
set_option maxHeartbeats 4000000 in
theorem KI_Chain_35 (l : Launch) (g : GB) (M : Mem) (hz : Fr 36 M) : CC l g yX2_init (.code yX2_init cX2_init 1 none :: wAll) { frames := 2, cells := 12, slots := 78, locals := 61 } [.ref (g.2.1 35)] 36 M 48 (FI_Chain_35 M) := by
  refine CC.of [(0, .ref (g.2.1 35))] (by decide) (Nat.le_of_ble_eq_true rfl) rfl ?_
  intro p e s m args below meth c K hr hin
  refine GC_aload_n rfl 0 rfl K dX2_init_0 ?_
  refine GC_objInit K dX2_init_1 wd_186 wd_34 wd_35 (Nat.le_of_ble_eq_true rfl) (Nat.le_of_ble_eq_true rfl) ?_
  refine GC_aload_n rfl 0 rfl K dX2_init_4 ?_
  refine GC_new (ci := 7) tyX7 tyX7_ok K rfl in_X7 wd_187 wd_43 wd_3 dX2_init_5 rfl (Nat.le_of_ble_eq_true rfl) (frC_36 g _ hz) (fun j hj => by revert j; decide +kernel) (by decide) ?_
  have hz := hz.mono (Nat.le_succ _)
  refine GC_dup rfl K dX2_init_8 ?_
  refine GC_bipush (v := 9) rfl K dX2_init_9 ?_
  refine GC_callI (y := yX7_init) [.int 9] [.ref (g.2.1 36), .ref (g.2.1 35)] K dX2_init_11 wd_188 wd_45 wd_3 wd_46 rfl ydc_X7_init (by decide) (by decide) rfl (Nat.le_of_ble_eq_true rfl) rfl rfl (Nat.le_of_ble_eq_true rfl) (KI_Row_36 l g _ hz) ?_
  have hz := FrI_Row_36 hz
  refine GC_putFR (ci := 2) (k := 0) (ty := (.object "KeptWell$Row")) K rfl in_X2 tyX2 tyX2_ok nmX2 wd_190 rfl rfl hin rfl (by decide +kernel) rfl rfl dX2_init_14 (Nat.le_of_ble_eq_true rfl) (Nat.le_of_ble_eq_true rfl) (shC_35 g _) (shC_35 g _) (Nat.le_of_ble_eq_true rfl) (Nat.le_of_ble_eq_true rfl) (sC_35_0 g _) ?_
  have hz := hz.sI (k := 35) (j := 0) (v := 1) (Nat.le_of_ble_eq_true rfl)
  refine GC_aload_n rfl 0 rfl K dX2_init_17 ?_
  refine GC_new (ci := 7) tyX7 tyX7_ok K rfl in_X7 wd_187 wd_43 wd_3 dX2_init_18 rfl (Nat.le_of_ble_eq_true rfl) (frC_38 g _ hz) (fun j hj => by revert j; decide +kernel) (by decide) ?_
  have hz := hz.mono (Nat.le_succ _)
  refine GC_dup rfl K dX2_init_21 ?_
  refine GC_bipush (v := 18) rfl K dX2_init_22 ?_
  refine GC_callI (y := yX7_init) [.int 18] [.ref (g.2.1 38), .ref (g.2.1 35)] K dX2_init_24 wd_188 wd_45 wd_3 wd_46 rfl ydc_X7_init (by decide) (by decide) rfl (Nat.le_of_ble_eq_true rfl) rfl rfl (Nat.le_of_ble_eq_true rfl) (KI_Row_38 l g _ hz) ?_
  have hz := FrI_Row_38 hz
  refine GC_putFR (ci := 2) (k := 1) (ty := (.object "KeptWell$Row")) K rfl in_X2 tyX2 tyX2_ok nmX2 wd_192 rfl rfl hin rfl (by decide +kernel) rfl rfl dX2_init_27 (Nat.le_of_ble_eq_true rfl) (Nat.le_of_ble_eq_true rfl) (shC_35 g _) (shC_35 g _) (Nat.le_of_ble_eq_true rfl) (Nat.le_of_ble_eq_true rfl) (sC_35_1 g _) ?_
  have hz := hz.sI (k := 35) (j := 1) (v := 1) (Nat.le_of_ble_eq_true rfl)
  refine GC_aload_n rfl 0 rfl K dX2_init_30 ?_
  refine GC_new (ci := 7) tyX7 tyX7_ok K rfl in_X7 wd_187 wd_43 wd_3 dX2_init_31 rfl (Nat.le_of_ble_eq_true rfl) (frC_40 g _ hz) (fun j hj => by revert j; decide +kernel) (by decide) ?_
  have hz := hz.mono (Nat.le_succ _)
  refine GC_dup rfl K dX2_init_34 ?_
  refine GC_bipush (v := 18) rfl K dX2_init_35 ?_
  refine GC_callI (y := yX7_init) [.int 18] [.ref (g.2.1 40), .ref (g.2.1 35)] K dX2_init_37 wd_188 wd_45 wd_3 wd_46 rfl ydc_X7_init (by decide) (by decide) rfl (Nat.le_of_ble_eq_true rfl) rfl rfl (Nat.le_of_ble_eq_true rfl) (KI_Row_40 l g _ hz) ?_
  have hz := FrI_Row_40 hz
  refine GC_putFR (ci := 2) (k := 2) (ty := (.object "KeptWell$Row")) K rfl in_X2 tyX2 tyX2_ok nmX2 wd_193 rfl rfl hin rfl (by decide +kernel) rfl rfl dX2_init_40 (Nat.le_of_ble_eq_true rfl) (Nat.le_of_ble_eq_true rfl) (shC_35 g _) (shC_35 g _) (Nat.le_of_ble_eq_true rfl) (Nat.le_of_ble_eq_true rfl) (sC_35_2 g _) ?_
  have hz := hz.sI (k := 35) (j := 2) (v := 1) (Nat.le_of_ble_eq_true rfl)
  refine GC_aload_n rfl 0 rfl K dX2_init_43 ?_
  refine GC_new (ci := 7) tyX7 tyX7_ok K rfl in_X7 wd_187 wd_43 wd_3 dX2_init_44 rfl (Nat.le_of_ble_eq_true rfl) (frC_42 g _ hz) (fun j hj => by revert j; decide +kernel) (by decide) ?_
  have hz := hz.mono (Nat.le_succ _)
  refine GC_dup rfl K dX2_init_47 ?_
  refine GC_bipush (v := 9) rfl K dX2_init_48 ?_
  refine GC_callI (y := yX7_init) [.int 9] [.ref (g.2.1 42), .ref (g.2.1 35)] K dX2_init_50 wd_188 wd_45 wd_3 wd_46 rfl ydc_X7_init (by decide) (by decide) rfl (Nat.le_of_ble_eq_true rfl) rfl rfl (Nat.le_of_ble_eq_true rfl) (KI_Row_42 l g _ hz) ?_
  have hz := FrI_Row_42 hz
  refine GC_putFR (ci := 2) (k := 3) (ty := (.object "KeptWell$Row")) K rfl in_X2 tyX2 tyX2_ok nmX2 wd_195 rfl rfl hin rfl (by decide +kernel) rfl rfl dX2_init_53 (Nat.le_of_ble_eq_true rfl) (Nat.le_of_ble_eq_true rfl) (shC_35 g _) (shC_35 g _) (Nat.le_of_ble_eq_true rfl) (Nat.le_of_ble_eq_true rfl) (sC_35_3 g _) ?_
  have hz := hz.sI (k := 35) (j := 3) (v := 1) (Nat.le_of_ble_eq_true rfl)
  refine GC_aload_n rfl 0 rfl K dX2_init_56 ?_
  refine GC_new (ci := 7) tyX7 tyX7_ok K rfl in_X7 wd_187 wd_43 wd_3 dX2_init_57 rfl (Nat.le_of_ble_eq_true rfl) (frC_44 g _ hz) (fun j hj => by revert j; decide +kernel) (by decide) ?_
  have hz := hz.mono (Nat.le_succ _)
  refine GC_dup rfl K dX2_init_60 ?_
  refine GC_bipush (v := 9) rfl K dX2_init_61 ?_
  refine GC_callI (y := yX7_init) [.int 9] [.ref (g.2.1 44), .ref (g.2.1 35)] K dX2_init_63 wd_188 wd_45 wd_3 wd_46 rfl ydc_X7_init (by decide) (by decide) rfl (Nat.le_of_ble_eq_true rfl) rfl rfl (Nat.le_of_ble_eq_true rfl) (KI_Row_44 l g _ hz) ?_
  have hz := FrI_Row_44 hz
  refine GC_putFR (ci := 2) (k := 4) (ty := (.object "KeptWell$Row")) K rfl in_X2 tyX2 tyX2_ok nmX2 wd_197 rfl rfl hin rfl (by decide +kernel) rfl rfl dX2_init_66 (Nat.le_of_ble_eq_true rfl) (Nat.le_of_ble_eq_true rfl) (shC_35 g _) (shC_35 g _) (Nat.le_of_ble_eq_true rfl) (Nat.le_of_ble_eq_true rfl) (sC_35_4 g _) ?_
  have hz := hz.sI (k := 35) (j := 4) (v := 1) (Nat.le_of_ble_eq_true rfl)
  refine GC_aload_n rfl 0 rfl K dX2_init_69 ?_
  refine GC_new (ci := 7) tyX7 tyX7_ok K rfl in_X7 wd_187 wd_43 wd_3 dX2_init_70 rfl (Nat.le_of_ble_eq_true rfl) (frC_46 g _ hz) (fun j hj => by revert j; decide +kernel) (by decide) ?_
  have hz := hz.mono (Nat.le_succ _)
  refine GC_dup rfl K dX2_init_73 ?_
  refine GC_bipush (v := 9) rfl K dX2_init_74 ?_
  refine GC_callI (y := yX7_init) [.int 9] [.ref (g.2.1 46), .ref (g.2.1 35)] K dX2_init_76 wd_188 wd_45 wd_3 wd_46 rfl ydc_X7_init (by decide) (by decide) rfl (Nat.le_of_ble_eq_true rfl) rfl rfl (Nat.le_of_ble_eq_true rfl) (KI_Row_46 l g _ hz) ?_
  have hz := FrI_Row_46 hz
  refine GC_putFR (ci := 2) (k := 5) (ty := (.object "KeptWell$Row")) K rfl in_X2 tyX2 tyX2_ok nmX2 wd_198 rfl rfl hin rfl (by decide +kernel) rfl rfl dX2_init_79 (Nat.le_of_ble_eq_true rfl) (Nat.le_of_ble_eq_true rfl) (shC_35 g _) (shC_35 g _) (Nat.le_of_ble_eq_true rfl) (Nat.le_of_ble_eq_true rfl) (sC_35_5 g _) ?_
  have hz := hz.sI (k := 35) (j := 5) (v := 1) (Nat.le_of_ble_eq_true rfl)
  refine GC_aload_n rfl 0 rfl K dX2_init_82 ?_
  refine GC_lconst (v := 1) rfl K dX2_init_83 ?_
  refine GC_putL (ci := 2) (k := 6) (ty := .long) K rfl in_X2 tyX2 tyX2_ok nmX2 wd_199 rfl rfl (by decide +kernel) rfl rfl dX2_init_84 (Nat.le_of_ble_eq_true rfl) (Nat.le_of_ble_eq_true rfl) (shC_35 g _) (shC_35 g _) (Nat.le_of_ble_eq_true rfl) (Nat.le_of_ble_eq_true rfl) (sC_35_6 g _ _) ?_
  have hz := hz.sL (k := 35) (j := 6) (v := 1) (Nat.le_of_ble_eq_true rfl)
  refine GC_aload_n rfl 0 rfl K dX2_init_87 ?_
  refine GC_ldc2 (v := 2) K dX2_init_88 wd_189 ?_
  refine GC_putL (ci := 2) (k := 7) (ty := .long) K rfl in_X2 tyX2 tyX2_ok nmX2 wd_200 rfl rfl (by decide +kernel) rfl rfl dX2_init_91 (Nat.le_of_ble_eq_true rfl) (Nat.le_of_ble_eq_true rfl) (shC_35 g _) (shC_35 g _) (Nat.le_of_ble_eq_true rfl) (Nat.le_of_ble_eq_true rfl) (sC_35_7 g _ _) ?_
  have hz := hz.sL (k := 35) (j := 7) (v := 2) (Nat.le_of_ble_eq_true rfl)
  exact GC_vret K hr dX2_init_94 (Nat.le_of_ble_eq_true rfl) (Nat.le_of_ble_eq_true rfl) ⟨rfl, rfl⟩
theorem ydc_X2_init : ydN yX2_init 0 := ⟨by decide, by decide, by decide +kernel⟩
theorem sC_34_1 (g : GB) (M : Mem) : ([if M.1 34 0 = 0 then .null else .ref (g.2.1 1), if M.1 34 1 = 0 then .null else .ref (g.2.1 35), .int (M.1 34 2), .int (M.1 34 3), .int (M.1 34 4), .int (M.1 34 5), if M.1 34 6 = 0 then .null else .ref (g.2.1 48), if M.1 34 7 = 0 then .null else .ref (g.2.1 50)] : List Value).set 1 (.ref (g.2.1 35)) = [if (mSI M 34 1 1).1 34 0 = 0 then .null else .ref (g.2.1 1), if (mSI M 34 1 1).1 34 1 = 0 then .null else .ref (g.2.1 35), .int ((mSI M 34 1 1).1 34 2), .int ((mSI M 34 1 1).1 34 3), .int ((mSI M 34 1 1).1 34 4), .int ((mSI M 34 1 1).1 34 5), if (mSI M 34 1 1).1 34 6 = 0 then .null else .ref (g.2.1 48), if (mSI M 34 1 1).1 34 7 = 0 then .null else .ref (g.2.1 50)] := by first | (simp [mSI, mSL, upd, vp_updL]; done) | rfl
theorem sC_34_2 (g : GB) (M : Mem) (v : Int32) : ([if M.1 34 0 = 0 then .null else .ref (g.2.1 1), if M.1 34 1 = 0 then .null else .ref (g.2.1 35), .int (M.1 34 2), .int (M.1 34 3), .int (M.1 34 4), .int (M.1 34 5), if M.1 34 6 = 0 then .null else .ref (g.2.1 48), if M.1 34 7 = 0 then .null else .ref (g.2.1 50)] : List Value).set 2 (.int v) = [if (mSI M 34 2 v).1 34 0 = 0 then .null else .ref (g.2.1 1), if (mSI M 34 2 v).1 34 1 = 0 then .null else .ref (g.2.1 35), .int ((mSI M 34 2 v).1 34 2), .int ((mSI M 34 2 v).1 34 3), .int ((mSI M 34 2 v).1 34 4), .int ((mSI M 34 2 v).1 34 5), if (mSI M 34 2 v).1 34 6 = 0 then .null else .ref (g.2.1 48), if (mSI M 34 2 v).1 34 7 = 0 then .null else .ref (g.2.1 50)] := by first | (simp [mSI, mSL, upd, vp_updL]; done) | rfl
theorem sC_34_3 (g : GB) (M : Mem) (v : Int32) : ([if M.1 34 0 = 0 then .null else .ref (g.2.1 1), if M.1 34 1 = 0 then .null else .ref (g.2.1 35), .int (M.1 34 2), .int (M.1 34 3), .int (M.1 34 4), .int (M.1 34 5), if M.1 34 6 = 0 then .null else .ref (g.2.1 48), if M.1 34 7 = 0 then .null else .ref (g.2.1 50)] : List Value).set 3 (.int v) = [if (mSI M 34 3 v).1 34 0 = 0 then .null else .ref (g.2.1 1), if (mSI M 34 3 v).1 34 1 = 0 then .null else .ref (g.2.1 35), .int ((mSI M 34 3 v).1 34 2), .int ((mSI M 34 3 v).1 34 3), .int ((mSI M 34 3 v).1 34 4), .int ((mSI M 34 3 v).1 34 5), if (mSI M 34 3 v).1 34 6 = 0 then .null else .ref (g.2.1 48), if (mSI M 34 3 v).1 34 7 = 0 then .null else .ref (g.2.1 50)] := by first | (simp [mSI, mSL, upd, vp_updL]; done) | rfl
theorem sC_34_4 (g : GB) (M : Mem) (v : Int32) : ([if M.1 34 0 = 0 then .null else .ref (g.2.1 1), if M.1 34 1 = 0 then .null else .ref (g.2.1 35), .int (M.1 34 2), .int (M.1 34 3), .int (M.1 34 4), .int (M.1 34 5), if M.1 34 6 = 0 then .null else .ref (g.2.1 48), if M.1 34 7 = 0 then .null else .ref (g.2.1 50)] : List Value).set 4 (.int v) = [if (mSI M 34 4 v).1 34 0 = 0 then .null else .ref (g.2.1 1), if (mSI M 34 4 v).1 34 1 = 0 then .null else .ref (g.2.1 35), .int ((mSI M 34 4 v).1 34 2), .int ((mSI M 34 4 v).1 34 3), .int ((mSI M 34 4 v).1 34 4), .int ((mSI M 34 4 v).1 34 5), if (mSI M 34 4 v).1 34 6 = 0 then .null else .ref (g.2.1 48), if (mSI M 34 4 v).1 34 7 = 0 then .null else .ref (g.2.1 50)] := by first | (simp [mSI, mSL, upd, vp_updL]; done) | rfl
theorem sC_34_5 (g : GB) (M : Mem) (v : Int32) : ([if M.1 34 0 = 0 then .null else .ref (g.2.1 1), if M.1 34 1 = 0 then .null else .ref (g.2.1 35), .int (M.1 34 2), .int (M.1 34 3), .int (M.1 34 4), .int (M.1 34 5), if M.1 34 6 = 0 then .null else .ref (g.2.1 48), if M.1 34 7 = 0 then .null else .ref (g.2.1 50)] : List Value).set 5 (.int v) = [if (mSI M 34 5 v).1 34 0 = 0 then .null else .ref (g.2.1 1), if (mSI M 34 5 v).1 34 1 = 0 then .null else .ref (g.2.1 35), .int ((mSI M 34 5 v).1 34 2), .int ((mSI M 34 5 v).1 34 3), .int ((mSI M 34 5 v).1 34 4), .int ((mSI M 34 5 v).1 34 5), if (mSI M 34 5 v).1 34 6 = 0 then .null else .ref (g.2.1 48), if (mSI M 34 5 v).1 34 7 = 0 then .null else .ref (g.2.1 50)] := by first | (simp [mSI, mSL, upd, vp_updL]; done) | rfl
theorem sC_48_0 (g : GB) (M : Mem) : ([if M.1 48 0 = 0 then .null else .ref (g.2.1 49)] : List Value).set 0 (.ref (g.2.1 49)) = [if (mSI M 48 0 1).1 48 0 = 0 then .null else .ref (g.2.1 49)] := by first | (simp [mSI, mSL, upd, vp_updL]; done) | rfl
def FI_Row_48 (M : Mem) : Mem := (mSI M 48 0 1)
theorem FIk_Row_48 {M : Mem} {k : Nat} (h : k < 48) : (FI_Row_48 M).1 k = M.1 k := by
  unfold FI_Row_48
  rw [mSI_1ne (a := 48) (by omega)]
theorem FrI_Row_48 {M : Mem} (hz : Fr 49 M) : Fr 50 (FI_Row_48 M) := by
  have hz := hz.mono (Nat.le_succ _)
  have hz := hz.sI (k := 48) (j := 0) (v := 1) (Nat.le_of_ble_eq_true rfl)
  exact hz
set_option maxRecDepth 100000 in
set_option maxHeartbeats 4000000 in
theorem KI_Row_48 (l : Launch) (g : GB) (M : Mem) (hz : Fr 49 M) : CC l g yX7_init (.code yX7_init cX7_init 2 none :: wAll) { frames := 1, cells := 1, slots := 16, locals := 40 } [.ref (g.2.1 48), .int 16] 49 M 50 (FI_Row_48 M) := by
  refine CC.of [(0, .ref (g.2.1 48)), (1, .int 16)] (by decide) (Nat.le_of_ble_eq_true rfl) rfl ?_
  intro p e s m args below meth c K hr hin
  refine GC_aload_n rfl 0 rfl K dX7_init_0 ?_
  refine GC_objInit K dX7_init_1 wd_47 wd_34 wd_35 (Nat.le_of_ble_eq_true rfl) (Nat.le_of_ble_eq_true rfl) ?_
  refine GC_aload_n rfl 0 rfl K dX7_init_4 ?_
  refine GC_iload_n rfl 1 rfl K dX7_init_5 ?_
  refine GC_iconst (v := 0) rfl K dX7_init_6 ?_
  refine GC_max (v := 16) (by decide) K dX7_init_7 wd_48 wd_49 wd_4 wd_50 (Nat.le_of_ble_eq_true rfl) (Nat.le_of_ble_eq_true rfl) ⟨Nat.le_of_ble_eq_true rfl, Nat.le_of_ble_eq_true rfl⟩ ?_
  refine GC_newa_long (N := 16) K dX7_init_10 wd_55 (by decide) (by decide) (by decide) rfl (Nat.le_of_ble_eq_true rfl) (frC_49 g _ hz) (by decide) ?_
  have hz := hz.mono (Nat.le_succ _)
  refine GC_putFR (ci := 7) (k := 0) (ty := (.array .long)) K rfl in_X7 tyX7 tyX7_ok nmX7 wd_51 rfl rfl hin rfl (by decide +kernel) rfl rfl dX7_init_12 (Nat.le_of_ble_eq_true rfl) (Nat.le_of_ble_eq_true rfl) (shC_48 g _) (shC_48 g _) (Nat.le_of_ble_eq_true rfl) (Nat.le_of_ble_eq_true rfl) (sC_48_0 g _) ?_
  have hz := hz.sI (k := 48) (j := 0) (v := 1) (Nat.le_of_ble_eq_true rfl)
  exact GC_vret K hr dX7_init_15 (Nat.le_of_ble_eq_true rfl) (Nat.le_of_ble_eq_true rfl) ⟨rfl, rfl⟩
theorem sC_34_6 (g : GB) (M : Mem) : ([if M.1 34 0 = 0 then .null else .ref (g.2.1 1), if M.1 34 1 = 0 then .null else .ref (g.2.1 35), .int (M.1 34 2), .int (M.1 34 3), .int (M.1 34 4), .int (M.1 34 5), if M.1 34 6 = 0 then .null else .ref (g.2.1 48), if M.1 34 7 = 0 then .null else .ref (g.2.1 50)] : List Value).set 6 (.ref (g.2.1 48)) = [if (mSI M 34 6 1).1 34 0 = 0 then .null else .ref (g.2.1 1), if (mSI M 34 6 1).1 34 1 = 0 then .null else .ref (g.2.1 35), .int ((mSI M 34 6 1).1 34 2), .int ((mSI M 34 6 1).1 34 3), .int ((mSI M 34 6 1).1 34 4), .int ((mSI M 34 6 1).1 34 5), if (mSI M 34 6 1).1 34 6 = 0 then .null else .ref (g.2.1 48), if (mSI M 34 6 1).1 34 7 = 0 then .null else .ref (g.2.1 50)] := by first | (simp [mSI, mSL, upd, vp_updL]; done) | rfl
theorem sC_50_0 (g : GB) (M : Mem) : ([if M.1 50 0 = 0 then .null else .ref (g.2.1 51)] : List Value).set 0 (.ref (g.2.1 51)) = [if (mSI M 50 0 1).1 50 0 = 0 then .null else .ref (g.2.1 51)] := by first | (simp [mSI, mSL, upd, vp_updL]; done) | rfl
def FI_Row_50 (M : Mem) : Mem := (mSI M 50 0 1)
theorem FIk_Row_50 {M : Mem} {k : Nat} (h : k < 50) : (FI_Row_50 M).1 k = M.1 k := by
  unfold FI_Row_50
  rw [mSI_1ne (a := 50) (by omega)]
theorem FrI_Row_50 {M : Mem} (hz : Fr 51 M) : Fr 52 (FI_Row_50 M) := by
  have hz := hz.mono (Nat.le_succ _)
  have hz := hz.sI (k := 50) (j := 0) (v := 1) (Nat.le_of_ble_eq_true rfl)
  exact hz
set_option maxRecDepth 100000 in
set_option maxHeartbeats 4000000 in
theorem KI_Row_50 (l : Launch) (g : GB) (M : Mem) (hz : Fr 51 M) : CC l g yX7_init (.code yX7_init cX7_init 2 none :: wAll) { frames := 1, cells := 1, slots := 8, locals := 40 } [.ref (g.2.1 50), .int 8] 51 M 52 (FI_Row_50 M) := by
  refine CC.of [(0, .ref (g.2.1 50)), (1, .int 8)] (by decide) (Nat.le_of_ble_eq_true rfl) rfl ?_
  intro p e s m args below meth c K hr hin
  refine GC_aload_n rfl 0 rfl K dX7_init_0 ?_
  refine GC_objInit K dX7_init_1 wd_47 wd_34 wd_35 (Nat.le_of_ble_eq_true rfl) (Nat.le_of_ble_eq_true rfl) ?_
  refine GC_aload_n rfl 0 rfl K dX7_init_4 ?_
  refine GC_iload_n rfl 1 rfl K dX7_init_5 ?_
  refine GC_iconst (v := 0) rfl K dX7_init_6 ?_
  refine GC_max (v := 8) (by decide) K dX7_init_7 wd_48 wd_49 wd_4 wd_50 (Nat.le_of_ble_eq_true rfl) (Nat.le_of_ble_eq_true rfl) ⟨Nat.le_of_ble_eq_true rfl, Nat.le_of_ble_eq_true rfl⟩ ?_
  refine GC_newa_long (N := 8) K dX7_init_10 wd_55 (by decide) (by decide) (by decide) rfl (Nat.le_of_ble_eq_true rfl) (frC_51 g _ hz) (by decide) ?_
  have hz := hz.mono (Nat.le_succ _)
  refine GC_putFR (ci := 7) (k := 0) (ty := (.array .long)) K rfl in_X7 tyX7 tyX7_ok nmX7 wd_51 rfl rfl hin rfl (by decide +kernel) rfl rfl dX7_init_12 (Nat.le_of_ble_eq_true rfl) (Nat.le_of_ble_eq_true rfl) (shC_50 g _) (shC_50 g _) (Nat.le_of_ble_eq_true rfl) (Nat.le_of_ble_eq_true rfl) (sC_50_0 g _) ?_
  have hz := hz.sI (k := 50) (j := 0) (v := 1) (Nat.le_of_ble_eq_true rfl)
  exact GC_vret K hr dX7_init_15 (Nat.le_of_ble_eq_true rfl) (Nat.le_of_ble_eq_true rfl) ⟨rfl, rfl⟩
theorem sC_34_7 (g : GB) (M : Mem) : ([if M.1 34 0 = 0 then .null else .ref (g.2.1 1), if M.1 34 1 = 0 then .null else .ref (g.2.1 35), .int (M.1 34 2), .int (M.1 34 3), .int (M.1 34 4), .int (M.1 34 5), if M.1 34 6 = 0 then .null else .ref (g.2.1 48), if M.1 34 7 = 0 then .null else .ref (g.2.1 50)] : List Value).set 7 (.ref (g.2.1 50)) = [if (mSI M 34 7 1).1 34 0 = 0 then .null else .ref (g.2.1 1), if (mSI M 34 7 1).1 34 1 = 0 then .null else .ref (g.2.1 35), .int ((mSI M 34 7 1).1 34 2), .int ((mSI M 34 7 1).1 34 3), .int ((mSI M 34 7 1).1 34 4), .int ((mSI M 34 7 1).1 34 5), if (mSI M 34 7 1).1 34 6 = 0 then .null else .ref (g.2.1 48), if (mSI M 34 7 1).1 34 7 = 0 then .null else .ref (g.2.1 50)] := by first | (simp [mSI, mSL, upd, vp_updL]; done) | rfl
theorem sC_34_0 (g : GB) (M : Mem) : ([if M.1 34 0 = 0 then .null else .ref (g.2.1 1), if M.1 34 1 = 0 then .null else .ref (g.2.1 35), .int (M.1 34 2), .int (M.1 34 3), .int (M.1 34 4), .int (M.1 34 5), if M.1 34 6 = 0 then .null else .ref (g.2.1 48), if M.1 34 7 = 0 then .null else .ref (g.2.1 50)] : List Value).set 0 (.ref (g.2.1 1)) = [if (mSI M 34 0 1).1 34 0 = 0 then .null else .ref (g.2.1 1), if (mSI M 34 0 1).1 34 1 = 0 then .null else .ref (g.2.1 35), .int ((mSI M 34 0 1).1 34 2), .int ((mSI M 34 0 1).1 34 3), .int ((mSI M 34 0 1).1 34 4), .int ((mSI M 34 0 1).1 34 5), if (mSI M 34 0 1).1 34 6 = 0 then .null else .ref (g.2.1 48), if (mSI M 34 0 1).1 34 7 = 0 then .null else .ref (g.2.1 50)] := by first | (simp [mSI, mSL, upd, vp_updL]; done) | rfl
def on_X6_init : Nat := 0xb12b00b52b2a2800b52100b70810591f00bb2a2400b52100b71010591f00bb2a1c00b5032a1900b5032a1600b5032a1200b5032a0c00b50b00b7590900bb2a0300b72a
theorem ob_X6_init : OKB cX6_init on_X6_init 67 := ⟨by decide +kernel, by decide +kernel⟩
theorem dX6_init_0 : dc cX6_init 0 1 (.aload_n 0) 1 := o_42 ob_X6_init rfl rfl rfl
theorem dX6_init_1 : dc cX6_init 1 4 (.invokespecial 3) 3 := o_183 ob_X6_init rfl rfl rfl rfl
theorem dX6_init_4 : dc cX6_init 4 5 (.aload_n 0) 1 := o_42 ob_X6_init rfl rfl rfl
theorem dX6_init_5 : dc cX6_init 5 8 (.new 9) 3 := o_187 ob_X6_init rfl rfl rfl rfl
theorem dX6_init_8 : dc cX6_init 8 9 .dup 1 := o_89 ob_X6_init rfl rfl rfl
theorem dX6_init_9 : dc cX6_init 9 12 (.invokespecial 11) 3 := o_183 ob_X6_init rfl rfl rfl rfl
theorem dX6_init_12 : dc cX6_init 12 15 (.putfield 12) 3 := o_181 ob_X6_init rfl rfl rfl rfl
theorem dX6_init_15 : dc cX6_init 15 16 (.aload_n 0) 1 := o_42 ob_X6_init rfl rfl rfl
theorem dX6_init_16 : dc cX6_init 16 17 (.iconst 0) 1 := o_3 ob_X6_init rfl rfl rfl
theorem dX6_init_17 : dc cX6_init 17 20 (.putfield 18) 3 := o_181 ob_X6_init rfl rfl rfl rfl
theorem dX6_init_20 : dc cX6_init 20 21 (.aload_n 0) 1 := o_42 ob_X6_init rfl rfl rfl
theorem dX6_init_21 : dc cX6_init 21 22 (.iconst 0) 1 := o_3 ob_X6_init rfl rfl rfl
theorem dX6_init_22 : dc cX6_init 22 25 (.putfield 22) 3 := o_181 ob_X6_init rfl rfl rfl rfl
theorem dX6_init_25 : dc cX6_init 25 26 (.aload_n 0) 1 := o_42 ob_X6_init rfl rfl rfl
theorem dX6_init_26 : dc cX6_init 26 27 (.iconst 0) 1 := o_3 ob_X6_init rfl rfl rfl
theorem dX6_init_27 : dc cX6_init 27 30 (.putfield 25) 3 := o_181 ob_X6_init rfl rfl rfl rfl
theorem dX6_init_30 : dc cX6_init 30 31 (.aload_n 0) 1 := o_42 ob_X6_init rfl rfl rfl
theorem dX6_init_31 : dc cX6_init 31 32 (.iconst 0) 1 := o_3 ob_X6_init rfl rfl rfl
theorem dX6_init_32 : dc cX6_init 32 35 (.putfield 28) 3 := o_181 ob_X6_init rfl rfl rfl rfl
theorem dX6_init_35 : dc cX6_init 35 36 (.aload_n 0) 1 := o_42 ob_X6_init rfl rfl rfl
theorem dX6_init_36 : dc cX6_init 36 39 (.new 31) 3 := o_187 ob_X6_init rfl rfl rfl rfl
theorem dX6_init_39 : dc cX6_init 39 40 .dup 1 := o_89 ob_X6_init rfl rfl rfl
theorem dX6_init_40 : dc cX6_init 40 42 (.bipush 16) 2 := o_16 ob_X6_init rfl rfl rfl rfl
theorem dX6_init_42 : dc cX6_init 42 45 (.invokespecial 33) 3 := o_183 ob_X6_init rfl rfl rfl rfl
theorem dX6_init_45 : dc cX6_init 45 48 (.putfield 36) 3 := o_181 ob_X6_init rfl rfl rfl rfl
theorem dX6_init_48 : dc cX6_init 48 49 (.aload_n 0) 1 := o_42 ob_X6_init rfl rfl rfl
theorem dX6_init_49 : dc cX6_init 49 52 (.new 31) 3 := o_187 ob_X6_init rfl rfl rfl rfl
theorem dX6_init_52 : dc cX6_init 52 53 .dup 1 := o_89 ob_X6_init rfl rfl rfl
theorem dX6_init_53 : dc cX6_init 53 55 (.bipush 8) 2 := o_16 ob_X6_init rfl rfl rfl rfl
theorem dX6_init_55 : dc cX6_init 55 58 (.invokespecial 33) 3 := o_183 ob_X6_init rfl rfl rfl rfl
theorem dX6_init_58 : dc cX6_init 58 61 (.putfield 40) 3 := o_181 ob_X6_init rfl rfl rfl rfl
theorem dX6_init_61 : dc cX6_init 61 62 (.aload_n 0) 1 := o_42 ob_X6_init rfl rfl rfl
theorem dX6_init_62 : dc cX6_init 62 63 (.aload_n 1) 1 := o_43 ob_X6_init rfl rfl rfl
theorem dX6_init_63 : dc cX6_init 63 66 (.putfield 43) 3 := o_181 ob_X6_init rfl rfl rfl rfl
theorem dX6_init_66 : dc cX6_init 66 67 .return_ 1 := o_177 ob_X6_init rfl rfl rfl
def FI_Pair_34 (M : Mem) : Mem := (mSI ((mSI ((FI_Row_50 ((mSI ((FI_Row_48 ((mSI ((mSI ((mSI ((mSI ((mSI ((FI_Chain_35 M)) 34 1 1)) 34 2 0)) 34 3 0)) 34 4 0)) 34 5 0)))) 34 6 1)))) 34 7 1)) 34 0 1)
theorem FIk_Pair_34 {M : Mem} {k : Nat} (h : k < 34) : (FI_Pair_34 M).1 k = M.1 k := by
  unfold FI_Pair_34
  rw [mSI_1ne (a := 34) (by omega), mSI_1ne (a := 34) (by omega), FIk_Row_50 (k := k) (by omega), mSI_1ne (a := 34) (by omega), FIk_Row_48 (k := k) (by omega), mSI_1ne (a := 34) (by omega), mSI_1ne (a := 34) (by omega), mSI_1ne (a := 34) (by omega), mSI_1ne (a := 34) (by omega), mSI_1ne (a := 34) (by omega), FIk_Chain_35 (k := k) (by omega)]
theorem FrI_Pair_34 {M : Mem} (hz : Fr 35 M) : Fr 52 (FI_Pair_34 M) := by
  have hz := hz.mono (Nat.le_succ _)
  have hz := FrI_Chain_35 hz
  have hz := hz.sI (k := 34) (j := 1) (v := 1) (Nat.le_of_ble_eq_true rfl)
  have hz := hz.sI (k := 34) (j := 2) (v := 0) (Nat.le_of_ble_eq_true rfl)
  have hz := hz.sI (k := 34) (j := 3) (v := 0) (Nat.le_of_ble_eq_true rfl)
  have hz := hz.sI (k := 34) (j := 4) (v := 0) (Nat.le_of_ble_eq_true rfl)
  have hz := hz.sI (k := 34) (j := 5) (v := 0) (Nat.le_of_ble_eq_true rfl)
  have hz := hz.mono (Nat.le_succ _)
  have hz := FrI_Row_48 hz
  have hz := hz.sI (k := 34) (j := 6) (v := 1) (Nat.le_of_ble_eq_true rfl)
  have hz := hz.mono (Nat.le_succ _)
  have hz := FrI_Row_50 hz
  have hz := hz.sI (k := 34) (j := 7) (v := 1) (Nat.le_of_ble_eq_true rfl)
  have hz := hz.sI (k := 34) (j := 0) (v := 1) (Nat.le_of_ble_eq_true rfl)
  exact hz
set_option maxRecDepth 100000 in
set_option maxHeartbeats 4000000 in
theorem KI_Pair_34 (l : Launch) (g : GB) (M : Mem) (hz : Fr 35 M) : CC l g yX6_init (.code yX6_init cX6_init 2 none :: wAll) { frames := 3, cells := 17, slots := 112, locals := 81 } [.ref (g.2.1 34), .ref (g.2.1 1)] 35 M 52 (FI_Pair_34 M) := by
  refine CC.of [(0, .ref (g.2.1 34)), (1, .ref (g.2.1 1))] (by decide) (Nat.le_of_ble_eq_true rfl) rfl ?_
  intro p e s m args below meth c K hr hin
  refine GC_aload_n rfl 0 rfl K dX6_init_0 ?_
  refine GC_objInit K dX6_init_1 wd_180 wd_34 wd_35 (Nat.le_of_ble_eq_true rfl) (Nat.le_of_ble_eq_true rfl) ?_
  refine GC_aload_n rfl 0 rfl K dX6_init_4 ?_
  refine GC_new (ci := 2) tyX2 tyX2_ok K rfl in_X2 wd_181 wd_182 wd_7 dX6_init_5 rfl (Nat.le_of_ble_eq_true rfl) (frC_35 g _ hz) (fun j hj => by revert j; decide +kernel) (by decide) ?_
  have hz := hz.mono (Nat.le_succ _)
  refine GC_dup rfl K dX6_init_8 ?_
  refine GC_callIN (host := "KeptWell") (y := yX2_init) [] [.ref (g.2.1 35), .ref (g.2.1 34)] K dX6_init_9 (by decide +kernel) wd_184 wd_7 wd_185 rfl ydc_X2_init (by decide) (by decide) rfl (Nat.le_of_ble_eq_true rfl) rfl rfl (Nat.le_of_ble_eq_true rfl) (KI_Chain_35 l g _ hz) ?_
  have hz := FrI_Chain_35 hz
  refine GC_putFR (ci := 6) (k := 1) (ty := (.object "KeptWell$Chain")) K rfl in_X6 tyX6 tyX6_ok nmX6 wd_221 rfl rfl hin rfl (by decide +kernel) rfl rfl dX6_init_12 (Nat.le_of_ble_eq_true rfl) (Nat.le_of_ble_eq_true rfl) (shC_34 g _) (shC_34 g _) (Nat.le_of_ble_eq_true rfl) (Nat.le_of_ble_eq_true rfl) (sC_34_1 g _) ?_
  have hz := hz.sI (k := 34) (j := 1) (v := 1) (Nat.le_of_ble_eq_true rfl)
  refine GC_aload_n rfl 0 rfl K dX6_init_15 ?_
  refine GC_iconst (v := 0) rfl K dX6_init_16 ?_
  refine GC_putI (ci := 6) (k := 2) (ty := .int) K rfl in_X6 tyX6 tyX6_ok nmX6 wd_222 rfl rfl (by decide +kernel) rfl rfl dX6_init_17 (Nat.le_of_ble_eq_true rfl) (Nat.le_of_ble_eq_true rfl) (shC_34 g _) (shC_34 g _) (Nat.le_of_ble_eq_true rfl) (Nat.le_of_ble_eq_true rfl) (sC_34_2 g _ _) ?_
  have hz := hz.sI (k := 34) (j := 2) (v := 0) (Nat.le_of_ble_eq_true rfl)
  refine GC_aload_n rfl 0 rfl K dX6_init_20 ?_
  refine GC_iconst (v := 0) rfl K dX6_init_21 ?_
  refine GC_putI (ci := 6) (k := 3) (ty := .int) K rfl in_X6 tyX6 tyX6_ok nmX6 wd_223 rfl rfl (by decide +kernel) rfl rfl dX6_init_22 (Nat.le_of_ble_eq_true rfl) (Nat.le_of_ble_eq_true rfl) (shC_34 g _) (shC_34 g _) (Nat.le_of_ble_eq_true rfl) (Nat.le_of_ble_eq_true rfl) (sC_34_3 g _ _) ?_
  have hz := hz.sI (k := 34) (j := 3) (v := 0) (Nat.le_of_ble_eq_true rfl)
  refine GC_aload_n rfl 0 rfl K dX6_init_25 ?_
  refine GC_iconst (v := 0) rfl K dX6_init_26 ?_
  refine GC_putI (ci := 6) (k := 4) (ty := .int) K rfl in_X6 tyX6 tyX6_ok nmX6 wd_224 rfl rfl (by decide +kernel) rfl rfl dX6_init_27 (Nat.le_of_ble_eq_true rfl) (Nat.le_of_ble_eq_true rfl) (shC_34 g _) (shC_34 g _) (Nat.le_of_ble_eq_true rfl) (Nat.le_of_ble_eq_true rfl) (sC_34_4 g _ _) ?_
  have hz := hz.sI (k := 34) (j := 4) (v := 0) (Nat.le_of_ble_eq_true rfl)
  refine GC_aload_n rfl 0 rfl K dX6_init_30 ?_
  refine GC_iconst (v := 0) rfl K dX6_init_31 ?_
  refine GC_putI (ci := 6) (k := 5) (ty := .int) K rfl in_X6 tyX6 tyX6_ok nmX6 wd_225 rfl rfl (by decide +kernel) rfl rfl dX6_init_32 (Nat.le_of_ble_eq_true rfl) (Nat.le_of_ble_eq_true rfl) (shC_34 g _) (shC_34 g _) (Nat.le_of_ble_eq_true rfl) (Nat.le_of_ble_eq_true rfl) (sC_34_5 g _ _) ?_
  have hz := hz.sI (k := 34) (j := 5) (v := 0) (Nat.le_of_ble_eq_true rfl)
  refine GC_aload_n rfl 0 rfl K dX6_init_35 ?_
  refine GC_new (ci := 7) tyX7 tyX7_ok K rfl in_X7 wd_218 wd_43 wd_3 dX6_init_36 rfl (Nat.le_of_ble_eq_true rfl) (frC_48 g _ hz) (fun j hj => by revert j; decide +kernel) (by decide) ?_
  have hz := hz.mono (Nat.le_succ _)
  refine GC_dup rfl K dX6_init_39 ?_
  refine GC_bipush (v := 16) rfl K dX6_init_40 ?_
  refine GC_callI (y := yX7_init) [.int 16] [.ref (g.2.1 48), .ref (g.2.1 34)] K dX6_init_42 wd_219 wd_45 wd_3 wd_46 rfl ydc_X7_init (by decide) (by decide) rfl (Nat.le_of_ble_eq_true rfl) rfl rfl (Nat.le_of_ble_eq_true rfl) (KI_Row_48 l g _ hz) ?_
  have hz := FrI_Row_48 hz
  refine GC_putFR (ci := 6) (k := 6) (ty := (.object "KeptWell$Row")) K rfl in_X6 tyX6 tyX6_ok nmX6 wd_226 rfl rfl hin rfl (by decide +kernel) rfl rfl dX6_init_45 (Nat.le_of_ble_eq_true rfl) (Nat.le_of_ble_eq_true rfl) (shC_34 g _) (shC_34 g _) (Nat.le_of_ble_eq_true rfl) (Nat.le_of_ble_eq_true rfl) (sC_34_6 g _) ?_
  have hz := hz.sI (k := 34) (j := 6) (v := 1) (Nat.le_of_ble_eq_true rfl)
  refine GC_aload_n rfl 0 rfl K dX6_init_48 ?_
  refine GC_new (ci := 7) tyX7 tyX7_ok K rfl in_X7 wd_218 wd_43 wd_3 dX6_init_49 rfl (Nat.le_of_ble_eq_true rfl) (frC_50 g _ hz) (fun j hj => by revert j; decide +kernel) (by decide) ?_
  have hz := hz.mono (Nat.le_succ _)
  refine GC_dup rfl K dX6_init_52 ?_
  refine GC_bipush (v := 8) rfl K dX6_init_53 ?_
  refine GC_callI (y := yX7_init) [.int 8] [.ref (g.2.1 50), .ref (g.2.1 34)] K dX6_init_55 wd_219 wd_45 wd_3 wd_46 rfl ydc_X7_init (by decide) (by decide) rfl (Nat.le_of_ble_eq_true rfl) rfl rfl (Nat.le_of_ble_eq_true rfl) (KI_Row_50 l g _ hz) ?_
  have hz := FrI_Row_50 hz
  refine GC_putFR (ci := 6) (k := 7) (ty := (.object "KeptWell$Row")) K rfl in_X6 tyX6 tyX6_ok nmX6 wd_227 rfl rfl hin rfl (by decide +kernel) rfl rfl dX6_init_58 (Nat.le_of_ble_eq_true rfl) (Nat.le_of_ble_eq_true rfl) (shC_34 g _) (shC_34 g _) (Nat.le_of_ble_eq_true rfl) (Nat.le_of_ble_eq_true rfl) (sC_34_7 g _) ?_
  have hz := hz.sI (k := 34) (j := 7) (v := 1) (Nat.le_of_ble_eq_true rfl)
  refine GC_aload_n rfl 0 rfl K dX6_init_61 ?_
  refine GC_aload_n rfl 1 rfl K dX6_init_62 ?_
  refine GC_putFR (ci := 6) (k := 0) (ty := (.object "KeptWell$Well")) K rfl in_X6 tyX6 tyX6_ok nmX6 wd_220 rfl rfl hin rfl (by decide +kernel) rfl rfl dX6_init_63 (Nat.le_of_ble_eq_true rfl) (Nat.le_of_ble_eq_true rfl) (shC_34 g _) (shC_34 g _) (Nat.le_of_ble_eq_true rfl) (Nat.le_of_ble_eq_true rfl) (sC_34_0 g _) ?_
  have hz := hz.sI (k := 34) (j := 0) (v := 1) (Nat.le_of_ble_eq_true rfl)
  exact GC_vret K hr dX6_init_66 (Nat.le_of_ble_eq_true rfl) (Nat.le_of_ble_eq_true rfl) ⟨rfl, rfl⟩
theorem ydc_X6_init : ydN yX6_init 1 := ⟨by decide, by decide, by decide +kernel⟩
theorem sC_0_5 (g : GB) (M : Mem) : ([if M.1 0 0 = 0 then .null else .ref (g.2.1 1), if M.1 0 1 = 0 then .null else .ref (g.2.1 14), .int (M.1 0 2), if M.1 0 3 = 0 then .null else .ref (g.2.1 27), .int (M.1 0 4), if M.1 0 5 = 0 then .null else .ref (g.2.1 34), if M.1 0 6 = 0 then .null else .ref (g.2.1 52), if M.1 0 7 = 0 then .null else .ref (g.2.1 68), if M.1 0 8 = 0 then .null else .ref (g.2.1 79), if M.1 0 9 = 0 then .null else .ref (g.2.1 80), if M.1 0 10 = 0 then .null else .ref (g.2.1 91), if M.1 0 11 = 0 then .null else .ref (g.2.1 93)] : List Value).set 5 (.ref (g.2.1 34)) = [if (mSI M 0 5 1).1 0 0 = 0 then .null else .ref (g.2.1 1), if (mSI M 0 5 1).1 0 1 = 0 then .null else .ref (g.2.1 14), .int ((mSI M 0 5 1).1 0 2), if (mSI M 0 5 1).1 0 3 = 0 then .null else .ref (g.2.1 27), .int ((mSI M 0 5 1).1 0 4), if (mSI M 0 5 1).1 0 5 = 0 then .null else .ref (g.2.1 34), if (mSI M 0 5 1).1 0 6 = 0 then .null else .ref (g.2.1 52), if (mSI M 0 5 1).1 0 7 = 0 then .null else .ref (g.2.1 68), if (mSI M 0 5 1).1 0 8 = 0 then .null else .ref (g.2.1 79), if (mSI M 0 5 1).1 0 9 = 0 then .null else .ref (g.2.1 80), if (mSI M 0 5 1).1 0 10 = 0 then .null else .ref (g.2.1 91), if (mSI M 0 5 1).1 0 11 = 0 then .null else .ref (g.2.1 93)] := by first | (simp [mSI, mSL, upd, vp_updL]; done) | rfl
theorem sC_54_0 (g : GB) (M : Mem) : ([if M.1 54 0 = 0 then .null else .ref (g.2.1 55)] : List Value).set 0 (.ref (g.2.1 55)) = [if (mSI M 54 0 1).1 54 0 = 0 then .null else .ref (g.2.1 55)] := by first | (simp [mSI, mSL, upd, vp_updL]; done) | rfl
def FI_Row_54 (M : Mem) : Mem := (mSI M 54 0 1)
theorem FIk_Row_54 {M : Mem} {k : Nat} (h : k < 54) : (FI_Row_54 M).1 k = M.1 k := by
  unfold FI_Row_54
  rw [mSI_1ne (a := 54) (by omega)]
theorem FrI_Row_54 {M : Mem} (hz : Fr 55 M) : Fr 56 (FI_Row_54 M) := by
  have hz := hz.mono (Nat.le_succ _)
  have hz := hz.sI (k := 54) (j := 0) (v := 1) (Nat.le_of_ble_eq_true rfl)
  exact hz
set_option maxRecDepth 100000 in
set_option maxHeartbeats 4000000 in
theorem KI_Row_54 (l : Launch) (g : GB) (M : Mem) (hz : Fr 55 M) : CC l g yX7_init (.code yX7_init cX7_init 2 none :: wAll) { frames := 1, cells := 1, slots := 9, locals := 40 } [.ref (g.2.1 54), .int 9] 55 M 56 (FI_Row_54 M) := by
  refine CC.of [(0, .ref (g.2.1 54)), (1, .int 9)] (by decide) (Nat.le_of_ble_eq_true rfl) rfl ?_
  intro p e s m args below meth c K hr hin
  refine GC_aload_n rfl 0 rfl K dX7_init_0 ?_
  refine GC_objInit K dX7_init_1 wd_47 wd_34 wd_35 (Nat.le_of_ble_eq_true rfl) (Nat.le_of_ble_eq_true rfl) ?_
  refine GC_aload_n rfl 0 rfl K dX7_init_4 ?_
  refine GC_iload_n rfl 1 rfl K dX7_init_5 ?_
  refine GC_iconst (v := 0) rfl K dX7_init_6 ?_
  refine GC_max (v := 9) (by decide) K dX7_init_7 wd_48 wd_49 wd_4 wd_50 (Nat.le_of_ble_eq_true rfl) (Nat.le_of_ble_eq_true rfl) ⟨Nat.le_of_ble_eq_true rfl, Nat.le_of_ble_eq_true rfl⟩ ?_
  refine GC_newa_long (N := 9) K dX7_init_10 wd_55 (by decide) (by decide) (by decide) rfl (Nat.le_of_ble_eq_true rfl) (frC_55 g _ hz) (by decide) ?_
  have hz := hz.mono (Nat.le_succ _)
  refine GC_putFR (ci := 7) (k := 0) (ty := (.array .long)) K rfl in_X7 tyX7 tyX7_ok nmX7 wd_51 rfl rfl hin rfl (by decide +kernel) rfl rfl dX7_init_12 (Nat.le_of_ble_eq_true rfl) (Nat.le_of_ble_eq_true rfl) (shC_54 g _) (shC_54 g _) (Nat.le_of_ble_eq_true rfl) (Nat.le_of_ble_eq_true rfl) (sC_54_0 g _) ?_
  have hz := hz.sI (k := 54) (j := 0) (v := 1) (Nat.le_of_ble_eq_true rfl)
  exact GC_vret K hr dX7_init_15 (Nat.le_of_ble_eq_true rfl) (Nat.le_of_ble_eq_true rfl) ⟨rfl, rfl⟩
theorem sC_53_0 (g : GB) (M : Mem) : ([if M.1 53 0 = 0 then .null else .ref (g.2.1 54), if M.1 53 1 = 0 then .null else .ref (g.2.1 56), if M.1 53 2 = 0 then .null else .ref (g.2.1 58), if M.1 53 3 = 0 then .null else .ref (g.2.1 60), if M.1 53 4 = 0 then .null else .ref (g.2.1 62), if M.1 53 5 = 0 then .null else .ref (g.2.1 64), .long (M.2 53 6), .long (M.2 53 7)] : List Value).set 0 (.ref (g.2.1 54)) = [if (mSI M 53 0 1).1 53 0 = 0 then .null else .ref (g.2.1 54), if (mSI M 53 0 1).1 53 1 = 0 then .null else .ref (g.2.1 56), if (mSI M 53 0 1).1 53 2 = 0 then .null else .ref (g.2.1 58), if (mSI M 53 0 1).1 53 3 = 0 then .null else .ref (g.2.1 60), if (mSI M 53 0 1).1 53 4 = 0 then .null else .ref (g.2.1 62), if (mSI M 53 0 1).1 53 5 = 0 then .null else .ref (g.2.1 64), .long ((mSI M 53 0 1).2 53 6), .long ((mSI M 53 0 1).2 53 7)] := by first | (simp [mSI, mSL, upd, vp_updL]; done) | rfl
theorem sC_56_0 (g : GB) (M : Mem) : ([if M.1 56 0 = 0 then .null else .ref (g.2.1 57)] : List Value).set 0 (.ref (g.2.1 57)) = [if (mSI M 56 0 1).1 56 0 = 0 then .null else .ref (g.2.1 57)] := by first | (simp [mSI, mSL, upd, vp_updL]; done) | rfl
def FI_Row_56 (M : Mem) : Mem := (mSI M 56 0 1)
theorem FIk_Row_56 {M : Mem} {k : Nat} (h : k < 56) : (FI_Row_56 M).1 k = M.1 k := by
  unfold FI_Row_56
  rw [mSI_1ne (a := 56) (by omega)]
theorem FrI_Row_56 {M : Mem} (hz : Fr 57 M) : Fr 58 (FI_Row_56 M) := by
  have hz := hz.mono (Nat.le_succ _)
  have hz := hz.sI (k := 56) (j := 0) (v := 1) (Nat.le_of_ble_eq_true rfl)
  exact hz
set_option maxRecDepth 100000 in
set_option maxHeartbeats 4000000 in
theorem KI_Row_56 (l : Launch) (g : GB) (M : Mem) (hz : Fr 57 M) : CC l g yX7_init (.code yX7_init cX7_init 2 none :: wAll) { frames := 1, cells := 1, slots := 18, locals := 40 } [.ref (g.2.1 56), .int 18] 57 M 58 (FI_Row_56 M) := by
  refine CC.of [(0, .ref (g.2.1 56)), (1, .int 18)] (by decide) (Nat.le_of_ble_eq_true rfl) rfl ?_
  intro p e s m args below meth c K hr hin
  refine GC_aload_n rfl 0 rfl K dX7_init_0 ?_
  refine GC_objInit K dX7_init_1 wd_47 wd_34 wd_35 (Nat.le_of_ble_eq_true rfl) (Nat.le_of_ble_eq_true rfl) ?_
  refine GC_aload_n rfl 0 rfl K dX7_init_4 ?_
  refine GC_iload_n rfl 1 rfl K dX7_init_5 ?_
  refine GC_iconst (v := 0) rfl K dX7_init_6 ?_
  refine GC_max (v := 18) (by decide) K dX7_init_7 wd_48 wd_49 wd_4 wd_50 (Nat.le_of_ble_eq_true rfl) (Nat.le_of_ble_eq_true rfl) ⟨Nat.le_of_ble_eq_true rfl, Nat.le_of_ble_eq_true rfl⟩ ?_
  refine GC_newa_long (N := 18) K dX7_init_10 wd_55 (by decide) (by decide) (by decide) rfl (Nat.le_of_ble_eq_true rfl) (frC_57 g _ hz) (by decide) ?_
  have hz := hz.mono (Nat.le_succ _)
  refine GC_putFR (ci := 7) (k := 0) (ty := (.array .long)) K rfl in_X7 tyX7 tyX7_ok nmX7 wd_51 rfl rfl hin rfl (by decide +kernel) rfl rfl dX7_init_12 (Nat.le_of_ble_eq_true rfl) (Nat.le_of_ble_eq_true rfl) (shC_56 g _) (shC_56 g _) (Nat.le_of_ble_eq_true rfl) (Nat.le_of_ble_eq_true rfl) (sC_56_0 g _) ?_
  have hz := hz.sI (k := 56) (j := 0) (v := 1) (Nat.le_of_ble_eq_true rfl)
  exact GC_vret K hr dX7_init_15 (Nat.le_of_ble_eq_true rfl) (Nat.le_of_ble_eq_true rfl) ⟨rfl, rfl⟩
theorem sC_53_1 (g : GB) (M : Mem) : ([if M.1 53 0 = 0 then .null else .ref (g.2.1 54), if M.1 53 1 = 0 then .null else .ref (g.2.1 56), if M.1 53 2 = 0 then .null else .ref (g.2.1 58), if M.1 53 3 = 0 then .null else .ref (g.2.1 60), if M.1 53 4 = 0 then .null else .ref (g.2.1 62), if M.1 53 5 = 0 then .null else .ref (g.2.1 64), .long (M.2 53 6), .long (M.2 53 7)] : List Value).set 1 (.ref (g.2.1 56)) = [if (mSI M 53 1 1).1 53 0 = 0 then .null else .ref (g.2.1 54), if (mSI M 53 1 1).1 53 1 = 0 then .null else .ref (g.2.1 56), if (mSI M 53 1 1).1 53 2 = 0 then .null else .ref (g.2.1 58), if (mSI M 53 1 1).1 53 3 = 0 then .null else .ref (g.2.1 60), if (mSI M 53 1 1).1 53 4 = 0 then .null else .ref (g.2.1 62), if (mSI M 53 1 1).1 53 5 = 0 then .null else .ref (g.2.1 64), .long ((mSI M 53 1 1).2 53 6), .long ((mSI M 53 1 1).2 53 7)] := by first | (simp [mSI, mSL, upd, vp_updL]; done) | rfl
theorem sC_58_0 (g : GB) (M : Mem) : ([if M.1 58 0 = 0 then .null else .ref (g.2.1 59)] : List Value).set 0 (.ref (g.2.1 59)) = [if (mSI M 58 0 1).1 58 0 = 0 then .null else .ref (g.2.1 59)] := by first | (simp [mSI, mSL, upd, vp_updL]; done) | rfl
def FI_Row_58 (M : Mem) : Mem := (mSI M 58 0 1)
theorem FIk_Row_58 {M : Mem} {k : Nat} (h : k < 58) : (FI_Row_58 M).1 k = M.1 k := by
  unfold FI_Row_58
  rw [mSI_1ne (a := 58) (by omega)]
theorem FrI_Row_58 {M : Mem} (hz : Fr 59 M) : Fr 60 (FI_Row_58 M) := by
  have hz := hz.mono (Nat.le_succ _)
  have hz := hz.sI (k := 58) (j := 0) (v := 1) (Nat.le_of_ble_eq_true rfl)
  exact hz
set_option maxRecDepth 100000 in
set_option maxHeartbeats 4000000 in
theorem KI_Row_58 (l : Launch) (g : GB) (M : Mem) (hz : Fr 59 M) : CC l g yX7_init (.code yX7_init cX7_init 2 none :: wAll) { frames := 1, cells := 1, slots := 18, locals := 40 } [.ref (g.2.1 58), .int 18] 59 M 60 (FI_Row_58 M) := by
  refine CC.of [(0, .ref (g.2.1 58)), (1, .int 18)] (by decide) (Nat.le_of_ble_eq_true rfl) rfl ?_
  intro p e s m args below meth c K hr hin
  refine GC_aload_n rfl 0 rfl K dX7_init_0 ?_
  refine GC_objInit K dX7_init_1 wd_47 wd_34 wd_35 (Nat.le_of_ble_eq_true rfl) (Nat.le_of_ble_eq_true rfl) ?_
  refine GC_aload_n rfl 0 rfl K dX7_init_4 ?_
  refine GC_iload_n rfl 1 rfl K dX7_init_5 ?_
  refine GC_iconst (v := 0) rfl K dX7_init_6 ?_
  refine GC_max (v := 18) (by decide) K dX7_init_7 wd_48 wd_49 wd_4 wd_50 (Nat.le_of_ble_eq_true rfl) (Nat.le_of_ble_eq_true rfl) ⟨Nat.le_of_ble_eq_true rfl, Nat.le_of_ble_eq_true rfl⟩ ?_
  refine GC_newa_long (N := 18) K dX7_init_10 wd_55 (by decide) (by decide) (by decide) rfl (Nat.le_of_ble_eq_true rfl) (frC_59 g _ hz) (by decide) ?_
  have hz := hz.mono (Nat.le_succ _)
  refine GC_putFR (ci := 7) (k := 0) (ty := (.array .long)) K rfl in_X7 tyX7 tyX7_ok nmX7 wd_51 rfl rfl hin rfl (by decide +kernel) rfl rfl dX7_init_12 (Nat.le_of_ble_eq_true rfl) (Nat.le_of_ble_eq_true rfl) (shC_58 g _) (shC_58 g _) (Nat.le_of_ble_eq_true rfl) (Nat.le_of_ble_eq_true rfl) (sC_58_0 g _) ?_
  have hz := hz.sI (k := 58) (j := 0) (v := 1) (Nat.le_of_ble_eq_true rfl)
  exact GC_vret K hr dX7_init_15 (Nat.le_of_ble_eq_true rfl) (Nat.le_of_ble_eq_true rfl) ⟨rfl, rfl⟩
theorem sC_53_2 (g : GB) (M : Mem) : ([if M.1 53 0 = 0 then .null else .ref (g.2.1 54), if M.1 53 1 = 0 then .null else .ref (g.2.1 56), if M.1 53 2 = 0 then .null else .ref (g.2.1 58), if M.1 53 3 = 0 then .null else .ref (g.2.1 60), if M.1 53 4 = 0 then .null else .ref (g.2.1 62), if M.1 53 5 = 0 then .null else .ref (g.2.1 64), .long (M.2 53 6), .long (M.2 53 7)] : List Value).set 2 (.ref (g.2.1 58)) = [if (mSI M 53 2 1).1 53 0 = 0 then .null else .ref (g.2.1 54), if (mSI M 53 2 1).1 53 1 = 0 then .null else .ref (g.2.1 56), if (mSI M 53 2 1).1 53 2 = 0 then .null else .ref (g.2.1 58), if (mSI M 53 2 1).1 53 3 = 0 then .null else .ref (g.2.1 60), if (mSI M 53 2 1).1 53 4 = 0 then .null else .ref (g.2.1 62), if (mSI M 53 2 1).1 53 5 = 0 then .null else .ref (g.2.1 64), .long ((mSI M 53 2 1).2 53 6), .long ((mSI M 53 2 1).2 53 7)] := by first | (simp [mSI, mSL, upd, vp_updL]; done) | rfl
theorem sC_60_0 (g : GB) (M : Mem) : ([if M.1 60 0 = 0 then .null else .ref (g.2.1 61)] : List Value).set 0 (.ref (g.2.1 61)) = [if (mSI M 60 0 1).1 60 0 = 0 then .null else .ref (g.2.1 61)] := by first | (simp [mSI, mSL, upd, vp_updL]; done) | rfl
def FI_Row_60 (M : Mem) : Mem := (mSI M 60 0 1)
theorem FIk_Row_60 {M : Mem} {k : Nat} (h : k < 60) : (FI_Row_60 M).1 k = M.1 k := by
  unfold FI_Row_60
  rw [mSI_1ne (a := 60) (by omega)]
theorem FrI_Row_60 {M : Mem} (hz : Fr 61 M) : Fr 62 (FI_Row_60 M) := by
  have hz := hz.mono (Nat.le_succ _)
  have hz := hz.sI (k := 60) (j := 0) (v := 1) (Nat.le_of_ble_eq_true rfl)
  exact hz
set_option maxRecDepth 100000 in
set_option maxHeartbeats 4000000 in
theorem KI_Row_60 (l : Launch) (g : GB) (M : Mem) (hz : Fr 61 M) : CC l g yX7_init (.code yX7_init cX7_init 2 none :: wAll) { frames := 1, cells := 1, slots := 9, locals := 40 } [.ref (g.2.1 60), .int 9] 61 M 62 (FI_Row_60 M) := by
  refine CC.of [(0, .ref (g.2.1 60)), (1, .int 9)] (by decide) (Nat.le_of_ble_eq_true rfl) rfl ?_
  intro p e s m args below meth c K hr hin
  refine GC_aload_n rfl 0 rfl K dX7_init_0 ?_
  refine GC_objInit K dX7_init_1 wd_47 wd_34 wd_35 (Nat.le_of_ble_eq_true rfl) (Nat.le_of_ble_eq_true rfl) ?_
  refine GC_aload_n rfl 0 rfl K dX7_init_4 ?_
  refine GC_iload_n rfl 1 rfl K dX7_init_5 ?_
  refine GC_iconst (v := 0) rfl K dX7_init_6 ?_
  refine GC_max (v := 9) (by decide) K dX7_init_7 wd_48 wd_49 wd_4 wd_50 (Nat.le_of_ble_eq_true rfl) (Nat.le_of_ble_eq_true rfl) ⟨Nat.le_of_ble_eq_true rfl, Nat.le_of_ble_eq_true rfl⟩ ?_
  refine GC_newa_long (N := 9) K dX7_init_10 wd_55 (by decide) (by decide) (by decide) rfl (Nat.le_of_ble_eq_true rfl) (frC_61 g _ hz) (by decide) ?_
  have hz := hz.mono (Nat.le_succ _)
  refine GC_putFR (ci := 7) (k := 0) (ty := (.array .long)) K rfl in_X7 tyX7 tyX7_ok nmX7 wd_51 rfl rfl hin rfl (by decide +kernel) rfl rfl dX7_init_12 (Nat.le_of_ble_eq_true rfl) (Nat.le_of_ble_eq_true rfl) (shC_60 g _) (shC_60 g _) (Nat.le_of_ble_eq_true rfl) (Nat.le_of_ble_eq_true rfl) (sC_60_0 g _) ?_
  have hz := hz.sI (k := 60) (j := 0) (v := 1) (Nat.le_of_ble_eq_true rfl)
  exact GC_vret K hr dX7_init_15 (Nat.le_of_ble_eq_true rfl) (Nat.le_of_ble_eq_true rfl) ⟨rfl, rfl⟩
theorem sC_53_3 (g : GB) (M : Mem) : ([if M.1 53 0 = 0 then .null else .ref (g.2.1 54), if M.1 53 1 = 0 then .null else .ref (g.2.1 56), if M.1 53 2 = 0 then .null else .ref (g.2.1 58), if M.1 53 3 = 0 then .null else .ref (g.2.1 60), if M.1 53 4 = 0 then .null else .ref (g.2.1 62), if M.1 53 5 = 0 then .null else .ref (g.2.1 64), .long (M.2 53 6), .long (M.2 53 7)] : List Value).set 3 (.ref (g.2.1 60)) = [if (mSI M 53 3 1).1 53 0 = 0 then .null else .ref (g.2.1 54), if (mSI M 53 3 1).1 53 1 = 0 then .null else .ref (g.2.1 56), if (mSI M 53 3 1).1 53 2 = 0 then .null else .ref (g.2.1 58), if (mSI M 53 3 1).1 53 3 = 0 then .null else .ref (g.2.1 60), if (mSI M 53 3 1).1 53 4 = 0 then .null else .ref (g.2.1 62), if (mSI M 53 3 1).1 53 5 = 0 then .null else .ref (g.2.1 64), .long ((mSI M 53 3 1).2 53 6), .long ((mSI M 53 3 1).2 53 7)] := by first | (simp [mSI, mSL, upd, vp_updL]; done) | rfl
theorem sC_62_0 (g : GB) (M : Mem) : ([if M.1 62 0 = 0 then .null else .ref (g.2.1 63)] : List Value).set 0 (.ref (g.2.1 63)) = [if (mSI M 62 0 1).1 62 0 = 0 then .null else .ref (g.2.1 63)] := by first | (simp [mSI, mSL, upd, vp_updL]; done) | rfl
def FI_Row_62 (M : Mem) : Mem := (mSI M 62 0 1)
theorem FIk_Row_62 {M : Mem} {k : Nat} (h : k < 62) : (FI_Row_62 M).1 k = M.1 k := by
  unfold FI_Row_62
  rw [mSI_1ne (a := 62) (by omega)]
theorem FrI_Row_62 {M : Mem} (hz : Fr 63 M) : Fr 64 (FI_Row_62 M) := by
  have hz := hz.mono (Nat.le_succ _)
  have hz := hz.sI (k := 62) (j := 0) (v := 1) (Nat.le_of_ble_eq_true rfl)
  exact hz
set_option maxRecDepth 100000 in
set_option maxHeartbeats 4000000 in
theorem KI_Row_62 (l : Launch) (g : GB) (M : Mem) (hz : Fr 63 M) : CC l g yX7_init (.code yX7_init cX7_init 2 none :: wAll) { frames := 1, cells := 1, slots := 9, locals := 40 } [.ref (g.2.1 62), .int 9] 63 M 64 (FI_Row_62 M) := by
  refine CC.of [(0, .ref (g.2.1 62)), (1, .int 9)] (by decide) (Nat.le_of_ble_eq_true rfl) rfl ?_
  intro p e s m args below meth c K hr hin
  refine GC_aload_n rfl 0 rfl K dX7_init_0 ?_
  refine GC_objInit K dX7_init_1 wd_47 wd_34 wd_35 (Nat.le_of_ble_eq_true rfl) (Nat.le_of_ble_eq_true rfl) ?_
  refine GC_aload_n rfl 0 rfl K dX7_init_4 ?_
  refine GC_iload_n rfl 1 rfl K dX7_init_5 ?_
  refine GC_iconst (v := 0) rfl K dX7_init_6 ?_
  refine GC_max (v := 9) (by decide) K dX7_init_7 wd_48 wd_49 wd_4 wd_50 (Nat.le_of_ble_eq_true rfl) (Nat.le_of_ble_eq_true rfl) ⟨Nat.le_of_ble_eq_true rfl, Nat.le_of_ble_eq_true rfl⟩ ?_
  refine GC_newa_long (N := 9) K dX7_init_10 wd_55 (by decide) (by decide) (by decide) rfl (Nat.le_of_ble_eq_true rfl) (frC_63 g _ hz) (by decide) ?_
  have hz := hz.mono (Nat.le_succ _)
  refine GC_putFR (ci := 7) (k := 0) (ty := (.array .long)) K rfl in_X7 tyX7 tyX7_ok nmX7 wd_51 rfl rfl hin rfl (by decide +kernel) rfl rfl dX7_init_12 (Nat.le_of_ble_eq_true rfl) (Nat.le_of_ble_eq_true rfl) (shC_62 g _) (shC_62 g _) (Nat.le_of_ble_eq_true rfl) (Nat.le_of_ble_eq_true rfl) (sC_62_0 g _) ?_
  have hz := hz.sI (k := 62) (j := 0) (v := 1) (Nat.le_of_ble_eq_true rfl)
  exact GC_vret K hr dX7_init_15 (Nat.le_of_ble_eq_true rfl) (Nat.le_of_ble_eq_true rfl) ⟨rfl, rfl⟩
theorem sC_53_4 (g : GB) (M : Mem) : ([if M.1 53 0 = 0 then .null else .ref (g.2.1 54), if M.1 53 1 = 0 then .null else .ref (g.2.1 56), if M.1 53 2 = 0 then .null else .ref (g.2.1 58), if M.1 53 3 = 0 then .null else .ref (g.2.1 60), if M.1 53 4 = 0 then .null else .ref (g.2.1 62), if M.1 53 5 = 0 then .null else .ref (g.2.1 64), .long (M.2 53 6), .long (M.2 53 7)] : List Value).set 4 (.ref (g.2.1 62)) = [if (mSI M 53 4 1).1 53 0 = 0 then .null else .ref (g.2.1 54), if (mSI M 53 4 1).1 53 1 = 0 then .null else .ref (g.2.1 56), if (mSI M 53 4 1).1 53 2 = 0 then .null else .ref (g.2.1 58), if (mSI M 53 4 1).1 53 3 = 0 then .null else .ref (g.2.1 60), if (mSI M 53 4 1).1 53 4 = 0 then .null else .ref (g.2.1 62), if (mSI M 53 4 1).1 53 5 = 0 then .null else .ref (g.2.1 64), .long ((mSI M 53 4 1).2 53 6), .long ((mSI M 53 4 1).2 53 7)] := by first | (simp [mSI, mSL, upd, vp_updL]; done) | rfl
theorem sC_64_0 (g : GB) (M : Mem) : ([if M.1 64 0 = 0 then .null else .ref (g.2.1 65)] : List Value).set 0 (.ref (g.2.1 65)) = [if (mSI M 64 0 1).1 64 0 = 0 then .null else .ref (g.2.1 65)] := by first | (simp [mSI, mSL, upd, vp_updL]; done) | rfl
def FI_Row_64 (M : Mem) : Mem := (mSI M 64 0 1)
theorem FIk_Row_64 {M : Mem} {k : Nat} (h : k < 64) : (FI_Row_64 M).1 k = M.1 k := by
  unfold FI_Row_64
  rw [mSI_1ne (a := 64) (by omega)]
theorem FrI_Row_64 {M : Mem} (hz : Fr 65 M) : Fr 66 (FI_Row_64 M) := by
  have hz := hz.mono (Nat.le_succ _)
  have hz := hz.sI (k := 64) (j := 0) (v := 1) (Nat.le_of_ble_eq_true rfl)
  exact hz
set_option maxRecDepth 100000 in
set_option maxHeartbeats 4000000 in
theorem KI_Row_64 (l : Launch) (g : GB) (M : Mem) (hz : Fr 65 M) : CC l g yX7_init (.code yX7_init cX7_init 2 none :: wAll) { frames := 1, cells := 1, slots := 9, locals := 40 } [.ref (g.2.1 64), .int 9] 65 M 66 (FI_Row_64 M) := by
  refine CC.of [(0, .ref (g.2.1 64)), (1, .int 9)] (by decide) (Nat.le_of_ble_eq_true rfl) rfl ?_
  intro p e s m args below meth c K hr hin
  refine GC_aload_n rfl 0 rfl K dX7_init_0 ?_
  refine GC_objInit K dX7_init_1 wd_47 wd_34 wd_35 (Nat.le_of_ble_eq_true rfl) (Nat.le_of_ble_eq_true rfl) ?_
  refine GC_aload_n rfl 0 rfl K dX7_init_4 ?_
  refine GC_iload_n rfl 1 rfl K dX7_init_5 ?_
  refine GC_iconst (v := 0) rfl K dX7_init_6 ?_
  refine GC_max (v := 9) (by decide) K dX7_init_7 wd_48 wd_49 wd_4 wd_50 (Nat.le_of_ble_eq_true rfl) (Nat.le_of_ble_eq_true rfl) ⟨Nat.le_of_ble_eq_true rfl, Nat.le_of_ble_eq_true rfl⟩ ?_
  refine GC_newa_long (N := 9) K dX7_init_10 wd_55 (by decide) (by decide) (by decide) rfl (Nat.le_of_ble_eq_true rfl) (frC_65 g _ hz) (by decide) ?_
  have hz := hz.mono (Nat.le_succ _)
  refine GC_putFR (ci := 7) (k := 0) (ty := (.array .long)) K rfl in_X7 tyX7 tyX7_ok nmX7 wd_51 rfl rfl hin rfl (by decide +kernel) rfl rfl dX7_init_12 (Nat.le_of_ble_eq_true rfl) (Nat.le_of_ble_eq_true rfl) (shC_64 g _) (shC_64 g _) (Nat.le_of_ble_eq_true rfl) (Nat.le_of_ble_eq_true rfl) (sC_64_0 g _) ?_
  have hz := hz.sI (k := 64) (j := 0) (v := 1) (Nat.le_of_ble_eq_true rfl)
  exact GC_vret K hr dX7_init_15 (Nat.le_of_ble_eq_true rfl) (Nat.le_of_ble_eq_true rfl) ⟨rfl, rfl⟩
theorem sC_53_5 (g : GB) (M : Mem) : ([if M.1 53 0 = 0 then .null else .ref (g.2.1 54), if M.1 53 1 = 0 then .null else .ref (g.2.1 56), if M.1 53 2 = 0 then .null else .ref (g.2.1 58), if M.1 53 3 = 0 then .null else .ref (g.2.1 60), if M.1 53 4 = 0 then .null else .ref (g.2.1 62), if M.1 53 5 = 0 then .null else .ref (g.2.1 64), .long (M.2 53 6), .long (M.2 53 7)] : List Value).set 5 (.ref (g.2.1 64)) = [if (mSI M 53 5 1).1 53 0 = 0 then .null else .ref (g.2.1 54), if (mSI M 53 5 1).1 53 1 = 0 then .null else .ref (g.2.1 56), if (mSI M 53 5 1).1 53 2 = 0 then .null else .ref (g.2.1 58), if (mSI M 53 5 1).1 53 3 = 0 then .null else .ref (g.2.1 60), if (mSI M 53 5 1).1 53 4 = 0 then .null else .ref (g.2.1 62), if (mSI M 53 5 1).1 53 5 = 0 then .null else .ref (g.2.1 64), .long ((mSI M 53 5 1).2 53 6), .long ((mSI M 53 5 1).2 53 7)] := by first | (simp [mSI, mSL, upd, vp_updL]; done) | rfl
theorem sC_53_6 (g : GB) (M : Mem) (v : Int64) : ([if M.1 53 0 = 0 then .null else .ref (g.2.1 54), if M.1 53 1 = 0 then .null else .ref (g.2.1 56), if M.1 53 2 = 0 then .null else .ref (g.2.1 58), if M.1 53 3 = 0 then .null else .ref (g.2.1 60), if M.1 53 4 = 0 then .null else .ref (g.2.1 62), if M.1 53 5 = 0 then .null else .ref (g.2.1 64), .long (M.2 53 6), .long (M.2 53 7)] : List Value).set 6 (.long v) = [if (mSL M 53 6 v).1 53 0 = 0 then .null else .ref (g.2.1 54), if (mSL M 53 6 v).1 53 1 = 0 then .null else .ref (g.2.1 56), if (mSL M 53 6 v).1 53 2 = 0 then .null else .ref (g.2.1 58), if (mSL M 53 6 v).1 53 3 = 0 then .null else .ref (g.2.1 60), if (mSL M 53 6 v).1 53 4 = 0 then .null else .ref (g.2.1 62), if (mSL M 53 6 v).1 53 5 = 0 then .null else .ref (g.2.1 64), .long ((mSL M 53 6 v).2 53 6), .long ((mSL M 53 6 v).2 53 7)] := by first | (simp [mSI, mSL, upd, vp_updL]; done) | rfl
theorem sC_53_7 (g : GB) (M : Mem) (v : Int64) : ([if M.1 53 0 = 0 then .null else .ref (g.2.1 54), if M.1 53 1 = 0 then .null else .ref (g.2.1 56), if M.1 53 2 = 0 then .null else .ref (g.2.1 58), if M.1 53 3 = 0 then .null else .ref (g.2.1 60), if M.1 53 4 = 0 then .null else .ref (g.2.1 62), if M.1 53 5 = 0 then .null else .ref (g.2.1 64), .long (M.2 53 6), .long (M.2 53 7)] : List Value).set 7 (.long v) = [if (mSL M 53 7 v).1 53 0 = 0 then .null else .ref (g.2.1 54), if (mSL M 53 7 v).1 53 1 = 0 then .null else .ref (g.2.1 56), if (mSL M 53 7 v).1 53 2 = 0 then .null else .ref (g.2.1 58), if (mSL M 53 7 v).1 53 3 = 0 then .null else .ref (g.2.1 60), if (mSL M 53 7 v).1 53 4 = 0 then .null else .ref (g.2.1 62), if (mSL M 53 7 v).1 53 5 = 0 then .null else .ref (g.2.1 64), .long ((mSL M 53 7 v).2 53 6), .long ((mSL M 53 7 v).2 53 7)] := by first | (simp [mSI, mSL, upd, vp_updL]; done) | rfl
def FI_Chain_53 (M : Mem) : Mem := (mSL ((mSL ((mSI ((FI_Row_64 ((mSI ((FI_Row_62 ((mSI ((FI_Row_60 ((mSI ((FI_Row_58 ((mSI ((FI_Row_56 ((mSI ((FI_Row_54 M)) 53 0 1)))) 53 1 1)))) 53 2 1)))) 53 3 1)))) 53 4 1)))) 53 5 1)) 53 6 1)) 53 7 2)
theorem FIk_Chain_53 {M : Mem} {k : Nat} (h : k < 53) : (FI_Chain_53 M).1 k = M.1 k := by
  unfold FI_Chain_53
  rw [mSL_1k, mSL_1k, mSI_1ne (a := 53) (by omega), FIk_Row_64 (k := k) (by omega), mSI_1ne (a := 53) (by omega), FIk_Row_62 (k := k) (by omega), mSI_1ne (a := 53) (by omega), FIk_Row_60 (k := k) (by omega), mSI_1ne (a := 53) (by omega), FIk_Row_58 (k := k) (by omega), mSI_1ne (a := 53) (by omega), FIk_Row_56 (k := k) (by omega), mSI_1ne (a := 53) (by omega), FIk_Row_54 (k := k) (by omega)]
theorem FrI_Chain_53 {M : Mem} (hz : Fr 54 M) : Fr 66 (FI_Chain_53 M) := by
  have hz := hz.mono (Nat.le_succ _)
  have hz := FrI_Row_54 hz
  have hz := hz.sI (k := 53) (j := 0) (v := 1) (Nat.le_of_ble_eq_true rfl)
  have hz := hz.mono (Nat.le_succ _)
  have hz := FrI_Row_56 hz
  have hz := hz.sI (k := 53) (j := 1) (v := 1) (Nat.le_of_ble_eq_true rfl)
  have hz := hz.mono (Nat.le_succ _)
  have hz := FrI_Row_58 hz
  have hz := hz.sI (k := 53) (j := 2) (v := 1) (Nat.le_of_ble_eq_true rfl)
  have hz := hz.mono (Nat.le_succ _)
  have hz := FrI_Row_60 hz
  have hz := hz.sI (k := 53) (j := 3) (v := 1) (Nat.le_of_ble_eq_true rfl)
  have hz := hz.mono (Nat.le_succ _)
  have hz := FrI_Row_62 hz
  have hz := hz.sI (k := 53) (j := 4) (v := 1) (Nat.le_of_ble_eq_true rfl)
  have hz := hz.mono (Nat.le_succ _)
  have hz := FrI_Row_64 hz
  have hz := hz.sI (k := 53) (j := 5) (v := 1) (Nat.le_of_ble_eq_true rfl)
  have hz := hz.sL (k := 53) (j := 6) (v := 1) (Nat.le_of_ble_eq_true rfl)
  have hz := hz.sL (k := 53) (j := 7) (v := 2) (Nat.le_of_ble_eq_true rfl)
  exact hz
set_option maxRecDepth 100000 in
set_option maxHeartbeats 4000000 in
theorem KI_Chain_53 (l : Launch) (g : GB) (M : Mem) (hz : Fr 54 M) : CC l g yX2_init (.code yX2_init cX2_init 1 none :: wAll) { frames := 2, cells := 12, slots := 78, locals := 61 } [.ref (g.2.1 53)] 54 M 66 (FI_Chain_53 M) := by
  refine CC.of [(0, .ref (g.2.1 53))] (by decide) (Nat.le_of_ble_eq_true rfl) rfl ?_
  intro p e s m args below meth c K hr hin
  refine GC_aload_n rfl 0 rfl K dX2_init_0 ?_
  refine GC_objInit K dX2_init_1 wd_186 wd_34 wd_35 (Nat.le_of_ble_eq_true rfl) (Nat.le_of_ble_eq_true rfl) ?_
  refine GC_aload_n rfl 0 rfl K dX2_init_4 ?_
  refine GC_new (ci := 7) tyX7 tyX7_ok K rfl in_X7 wd_187 wd_43 wd_3 dX2_init_5 rfl (Nat.le_of_ble_eq_true rfl) (frC_54 g _ hz) (fun j hj => by revert j; decide +kernel) (by decide) ?_
  have hz := hz.mono (Nat.le_succ _)
  refine GC_dup rfl K dX2_init_8 ?_
  refine GC_bipush (v := 9) rfl K dX2_init_9 ?_
  refine GC_callI (y := yX7_init) [.int 9] [.ref (g.2.1 54), .ref (g.2.1 53)] K dX2_init_11 wd_188 wd_45 wd_3 wd_46 rfl ydc_X7_init (by decide) (by decide) rfl (Nat.le_of_ble_eq_true rfl) rfl rfl (Nat.le_of_ble_eq_true rfl) (KI_Row_54 l g _ hz) ?_
  have hz := FrI_Row_54 hz
  refine GC_putFR (ci := 2) (k := 0) (ty := (.object "KeptWell$Row")) K rfl in_X2 tyX2 tyX2_ok nmX2 wd_190 rfl rfl hin rfl (by decide +kernel) rfl rfl dX2_init_14 (Nat.le_of_ble_eq_true rfl) (Nat.le_of_ble_eq_true rfl) (shC_53 g _) (shC_53 g _) (Nat.le_of_ble_eq_true rfl) (Nat.le_of_ble_eq_true rfl) (sC_53_0 g _) ?_
  have hz := hz.sI (k := 53) (j := 0) (v := 1) (Nat.le_of_ble_eq_true rfl)
  refine GC_aload_n rfl 0 rfl K dX2_init_17 ?_
  refine GC_new (ci := 7) tyX7 tyX7_ok K rfl in_X7 wd_187 wd_43 wd_3 dX2_init_18 rfl (Nat.le_of_ble_eq_true rfl) (frC_56 g _ hz) (fun j hj => by revert j; decide +kernel) (by decide) ?_
  have hz := hz.mono (Nat.le_succ _)
  refine GC_dup rfl K dX2_init_21 ?_
  refine GC_bipush (v := 18) rfl K dX2_init_22 ?_
  refine GC_callI (y := yX7_init) [.int 18] [.ref (g.2.1 56), .ref (g.2.1 53)] K dX2_init_24 wd_188 wd_45 wd_3 wd_46 rfl ydc_X7_init (by decide) (by decide) rfl (Nat.le_of_ble_eq_true rfl) rfl rfl (Nat.le_of_ble_eq_true rfl) (KI_Row_56 l g _ hz) ?_
  have hz := FrI_Row_56 hz
  refine GC_putFR (ci := 2) (k := 1) (ty := (.object "KeptWell$Row")) K rfl in_X2 tyX2 tyX2_ok nmX2 wd_192 rfl rfl hin rfl (by decide +kernel) rfl rfl dX2_init_27 (Nat.le_of_ble_eq_true rfl) (Nat.le_of_ble_eq_true rfl) (shC_53 g _) (shC_53 g _) (Nat.le_of_ble_eq_true rfl) (Nat.le_of_ble_eq_true rfl) (sC_53_1 g _) ?_
  have hz := hz.sI (k := 53) (j := 1) (v := 1) (Nat.le_of_ble_eq_true rfl)
  refine GC_aload_n rfl 0 rfl K dX2_init_30 ?_
  refine GC_new (ci := 7) tyX7 tyX7_ok K rfl in_X7 wd_187 wd_43 wd_3 dX2_init_31 rfl (Nat.le_of_ble_eq_true rfl) (frC_58 g _ hz) (fun j hj => by revert j; decide +kernel) (by decide) ?_
  have hz := hz.mono (Nat.le_succ _)
  refine GC_dup rfl K dX2_init_34 ?_
  refine GC_bipush (v := 18) rfl K dX2_init_35 ?_
  refine GC_callI (y := yX7_init) [.int 18] [.ref (g.2.1 58), .ref (g.2.1 53)] K dX2_init_37 wd_188 wd_45 wd_3 wd_46 rfl ydc_X7_init (by decide) (by decide) rfl (Nat.le_of_ble_eq_true rfl) rfl rfl (Nat.le_of_ble_eq_true rfl) (KI_Row_58 l g _ hz) ?_
  have hz := FrI_Row_58 hz
  refine GC_putFR (ci := 2) (k := 2) (ty := (.object "KeptWell$Row")) K rfl in_X2 tyX2 tyX2_ok nmX2 wd_193 rfl rfl hin rfl (by decide +kernel) rfl rfl dX2_init_40 (Nat.le_of_ble_eq_true rfl) (Nat.le_of_ble_eq_true rfl) (shC_53 g _) (shC_53 g _) (Nat.le_of_ble_eq_true rfl) (Nat.le_of_ble_eq_true rfl) (sC_53_2 g _) ?_
  have hz := hz.sI (k := 53) (j := 2) (v := 1) (Nat.le_of_ble_eq_true rfl)
  refine GC_aload_n rfl 0 rfl K dX2_init_43 ?_
  refine GC_new (ci := 7) tyX7 tyX7_ok K rfl in_X7 wd_187 wd_43 wd_3 dX2_init_44 rfl (Nat.le_of_ble_eq_true rfl) (frC_60 g _ hz) (fun j hj => by revert j; decide +kernel) (by decide) ?_
  have hz := hz.mono (Nat.le_succ _)
  refine GC_dup rfl K dX2_init_47 ?_
  refine GC_bipush (v := 9) rfl K dX2_init_48 ?_
  refine GC_callI (y := yX7_init) [.int 9] [.ref (g.2.1 60), .ref (g.2.1 53)] K dX2_init_50 wd_188 wd_45 wd_3 wd_46 rfl ydc_X7_init (by decide) (by decide) rfl (Nat.le_of_ble_eq_true rfl) rfl rfl (Nat.le_of_ble_eq_true rfl) (KI_Row_60 l g _ hz) ?_
  have hz := FrI_Row_60 hz
  refine GC_putFR (ci := 2) (k := 3) (ty := (.object "KeptWell$Row")) K rfl in_X2 tyX2 tyX2_ok nmX2 wd_195 rfl rfl hin rfl (by decide +kernel) rfl rfl dX2_init_53 (Nat.le_of_ble_eq_true rfl) (Nat.le_of_ble_eq_true rfl) (shC_53 g _) (shC_53 g _) (Nat.le_of_ble_eq_true rfl) (Nat.le_of_ble_eq_true rfl) (sC_53_3 g _) ?_
  have hz := hz.sI (k := 53) (j := 3) (v := 1) (Nat.le_of_ble_eq_true rfl)
  refine GC_aload_n rfl 0 rfl K dX2_init_56 ?_
  refine GC_new (ci := 7) tyX7 tyX7_ok K rfl in_X7 wd_187 wd_43 wd_3 dX2_init_57 rfl (Nat.le_of_ble_eq_true rfl) (frC_62 g _ hz) (fun j hj => by revert j; decide +kernel) (by decide) ?_
  have hz := hz.mono (Nat.le_succ _)
  refine GC_dup rfl K dX2_init_60 ?_
  refine GC_bipush (v := 9) rfl K dX2_init_61 ?_
  refine GC_callI (y := yX7_init) [.int 9] [.ref (g.2.1 62), .ref (g.2.1 53)] K dX2_init_63 wd_188 wd_45 wd_3 wd_46 rfl ydc_X7_init (by decide) (by decide) rfl (Nat.le_of_ble_eq_true rfl) rfl rfl (Nat.le_of_ble_eq_true rfl) (KI_Row_62 l g _ hz) ?_
  have hz := FrI_Row_62 hz
  refine GC_putFR (ci := 2) (k := 4) (ty := (.object "KeptWell$Row")) K rfl in_X2 tyX2 tyX2_ok nmX2 wd_197 rfl rfl hin rfl (by decide +kernel) rfl rfl dX2_init_66 (Nat.le_of_ble_eq_true rfl) (Nat.le_of_ble_eq_true rfl) (shC_53 g _) (shC_53 g _) (Nat.le_of_ble_eq_true rfl) (Nat.le_of_ble_eq_true rfl) (sC_53_4 g _) ?_
  have hz := hz.sI (k := 53) (j := 4) (v := 1) (Nat.le_of_ble_eq_true rfl)
  refine GC_aload_n rfl 0 rfl K dX2_init_69 ?_
  refine GC_new (ci := 7) tyX7 tyX7_ok K rfl in_X7 wd_187 wd_43 wd_3 dX2_init_70 rfl (Nat.le_of_ble_eq_true rfl) (frC_64 g _ hz) (fun j hj => by revert j; decide +kernel) (by decide) ?_
  have hz := hz.mono (Nat.le_succ _)
  refine GC_dup rfl K dX2_init_73 ?_
  refine GC_bipush (v := 9) rfl K dX2_init_74 ?_
  refine GC_callI (y := yX7_init) [.int 9] [.ref (g.2.1 64), .ref (g.2.1 53)] K dX2_init_76 wd_188 wd_45 wd_3 wd_46 rfl ydc_X7_init (by decide) (by decide) rfl (Nat.le_of_ble_eq_true rfl) rfl rfl (Nat.le_of_ble_eq_true rfl) (KI_Row_64 l g _ hz) ?_
  have hz := FrI_Row_64 hz
  refine GC_putFR (ci := 2) (k := 5) (ty := (.object "KeptWell$Row")) K rfl in_X2 tyX2 tyX2_ok nmX2 wd_198 rfl rfl hin rfl (by decide +kernel) rfl rfl dX2_init_79 (Nat.le_of_ble_eq_true rfl) (Nat.le_of_ble_eq_true rfl) (shC_53 g _) (shC_53 g _) (Nat.le_of_ble_eq_true rfl) (Nat.le_of_ble_eq_true rfl) (sC_53_5 g _) ?_
  have hz := hz.sI (k := 53) (j := 5) (v := 1) (Nat.le_of_ble_eq_true rfl)
  refine GC_aload_n rfl 0 rfl K dX2_init_82 ?_
  refine GC_lconst (v := 1) rfl K dX2_init_83 ?_
  refine GC_putL (ci := 2) (k := 6) (ty := .long) K rfl in_X2 tyX2 tyX2_ok nmX2 wd_199 rfl rfl (by decide +kernel) rfl rfl dX2_init_84 (Nat.le_of_ble_eq_true rfl) (Nat.le_of_ble_eq_true rfl) (shC_53 g _) (shC_53 g _) (Nat.le_of_ble_eq_true rfl) (Nat.le_of_ble_eq_true rfl) (sC_53_6 g _ _) ?_
  have hz := hz.sL (k := 53) (j := 6) (v := 1) (Nat.le_of_ble_eq_true rfl)
  refine GC_aload_n rfl 0 rfl K dX2_init_87 ?_
  refine GC_ldc2 (v := 2) K dX2_init_88 wd_189 ?_
  refine GC_putL (ci := 2) (k := 7) (ty := .long) K rfl in_X2 tyX2 tyX2_ok nmX2 wd_200 rfl rfl (by decide +kernel) rfl rfl dX2_init_91 (Nat.le_of_ble_eq_true rfl) (Nat.le_of_ble_eq_true rfl) (shC_53 g _) (shC_53 g _) (Nat.le_of_ble_eq_true rfl) (Nat.le_of_ble_eq_true rfl) (sC_53_7 g _ _) ?_
  have hz := hz.sL (k := 53) (j := 7) (v := 2) (Nat.le_of_ble_eq_true rfl)
  exact GC_vret K hr dX2_init_94 (Nat.le_of_ble_eq_true rfl) (Nat.le_of_ble_eq_true rfl) ⟨rfl, rfl⟩
theorem sC_52_1 (g : GB) (M : Mem) : ([if M.1 52 0 = 0 then .null else .ref (g.2.1 1), if M.1 52 1 = 0 then .null else .ref (g.2.1 53), if M.1 52 2 = 0 then .null else .ref (g.2.1 66), .int (M.1 52 3), .int (M.1 52 4), .int (M.1 52 5)] : List Value).set 1 (.ref (g.2.1 53)) = [if (mSI M 52 1 1).1 52 0 = 0 then .null else .ref (g.2.1 1), if (mSI M 52 1 1).1 52 1 = 0 then .null else .ref (g.2.1 53), if (mSI M 52 1 1).1 52 2 = 0 then .null else .ref (g.2.1 66), .int ((mSI M 52 1 1).1 52 3), .int ((mSI M 52 1 1).1 52 4), .int ((mSI M 52 1 1).1 52 5)] := by first | (simp [mSI, mSL, upd, vp_updL]; done) | rfl
theorem sC_66_0 (g : GB) (M : Mem) : ([if M.1 66 0 = 0 then .null else .ref (g.2.1 67)] : List Value).set 0 (.ref (g.2.1 67)) = [if (mSI M 66 0 1).1 66 0 = 0 then .null else .ref (g.2.1 67)] := by first | (simp [mSI, mSL, upd, vp_updL]; done) | rfl
def FI_Row_66 (M : Mem) : Mem := (mSI M 66 0 1)
theorem FIk_Row_66 {M : Mem} {k : Nat} (h : k < 66) : (FI_Row_66 M).1 k = M.1 k := by
  unfold FI_Row_66
  rw [mSI_1ne (a := 66) (by omega)]
theorem FrI_Row_66 {M : Mem} (hz : Fr 67 M) : Fr 68 (FI_Row_66 M) := by
  have hz := hz.mono (Nat.le_succ _)
  have hz := hz.sI (k := 66) (j := 0) (v := 1) (Nat.le_of_ble_eq_true rfl)
  exact hz
set_option maxRecDepth 100000 in
set_option maxHeartbeats 4000000 in
theorem KI_Row_66 (l : Launch) (g : GB) (M : Mem) (hz : Fr 67 M) : CC l g yX7_init (.code yX7_init cX7_init 2 none :: wAll) { frames := 1, cells := 1, slots := 3, locals := 40 } [.ref (g.2.1 66), .int 3] 67 M 68 (FI_Row_66 M) := by
  refine CC.of [(0, .ref (g.2.1 66)), (1, .int 3)] (by decide) (Nat.le_of_ble_eq_true rfl) rfl ?_
  intro p e s m args below meth c K hr hin
  refine GC_aload_n rfl 0 rfl K dX7_init_0 ?_
  refine GC_objInit K dX7_init_1 wd_47 wd_34 wd_35 (Nat.le_of_ble_eq_true rfl) (Nat.le_of_ble_eq_true rfl) ?_
  refine GC_aload_n rfl 0 rfl K dX7_init_4 ?_
  refine GC_iload_n rfl 1 rfl K dX7_init_5 ?_
  refine GC_iconst (v := 0) rfl K dX7_init_6 ?_
  refine GC_max (v := 3) (by decide) K dX7_init_7 wd_48 wd_49 wd_4 wd_50 (Nat.le_of_ble_eq_true rfl) (Nat.le_of_ble_eq_true rfl) ⟨Nat.le_of_ble_eq_true rfl, Nat.le_of_ble_eq_true rfl⟩ ?_
  refine GC_newa_long (N := 3) K dX7_init_10 wd_55 (by decide) (by decide) (by decide) rfl (Nat.le_of_ble_eq_true rfl) (frC_67 g _ hz) (by decide) ?_
  have hz := hz.mono (Nat.le_succ _)
  refine GC_putFR (ci := 7) (k := 0) (ty := (.array .long)) K rfl in_X7 tyX7 tyX7_ok nmX7 wd_51 rfl rfl hin rfl (by decide +kernel) rfl rfl dX7_init_12 (Nat.le_of_ble_eq_true rfl) (Nat.le_of_ble_eq_true rfl) (shC_66 g _) (shC_66 g _) (Nat.le_of_ble_eq_true rfl) (Nat.le_of_ble_eq_true rfl) (sC_66_0 g _) ?_
  have hz := hz.sI (k := 66) (j := 0) (v := 1) (Nat.le_of_ble_eq_true rfl)
  exact GC_vret K hr dX7_init_15 (Nat.le_of_ble_eq_true rfl) (Nat.le_of_ble_eq_true rfl) ⟨rfl, rfl⟩
theorem sC_52_2 (g : GB) (M : Mem) : ([if M.1 52 0 = 0 then .null else .ref (g.2.1 1), if M.1 52 1 = 0 then .null else .ref (g.2.1 53), if M.1 52 2 = 0 then .null else .ref (g.2.1 66), .int (M.1 52 3), .int (M.1 52 4), .int (M.1 52 5)] : List Value).set 2 (.ref (g.2.1 66)) = [if (mSI M 52 2 1).1 52 0 = 0 then .null else .ref (g.2.1 1), if (mSI M 52 2 1).1 52 1 = 0 then .null else .ref (g.2.1 53), if (mSI M 52 2 1).1 52 2 = 0 then .null else .ref (g.2.1 66), .int ((mSI M 52 2 1).1 52 3), .int ((mSI M 52 2 1).1 52 4), .int ((mSI M 52 2 1).1 52 5)] := by first | (simp [mSI, mSL, upd, vp_updL]; done) | rfl
theorem sC_52_3 (g : GB) (M : Mem) (v : Int32) : ([if M.1 52 0 = 0 then .null else .ref (g.2.1 1), if M.1 52 1 = 0 then .null else .ref (g.2.1 53), if M.1 52 2 = 0 then .null else .ref (g.2.1 66), .int (M.1 52 3), .int (M.1 52 4), .int (M.1 52 5)] : List Value).set 3 (.int v) = [if (mSI M 52 3 v).1 52 0 = 0 then .null else .ref (g.2.1 1), if (mSI M 52 3 v).1 52 1 = 0 then .null else .ref (g.2.1 53), if (mSI M 52 3 v).1 52 2 = 0 then .null else .ref (g.2.1 66), .int ((mSI M 52 3 v).1 52 3), .int ((mSI M 52 3 v).1 52 4), .int ((mSI M 52 3 v).1 52 5)] := by first | (simp [mSI, mSL, upd, vp_updL]; done) | rfl
theorem sC_52_4 (g : GB) (M : Mem) (v : Int32) : ([if M.1 52 0 = 0 then .null else .ref (g.2.1 1), if M.1 52 1 = 0 then .null else .ref (g.2.1 53), if M.1 52 2 = 0 then .null else .ref (g.2.1 66), .int (M.1 52 3), .int (M.1 52 4), .int (M.1 52 5)] : List Value).set 4 (.int v) = [if (mSI M 52 4 v).1 52 0 = 0 then .null else .ref (g.2.1 1), if (mSI M 52 4 v).1 52 1 = 0 then .null else .ref (g.2.1 53), if (mSI M 52 4 v).1 52 2 = 0 then .null else .ref (g.2.1 66), .int ((mSI M 52 4 v).1 52 3), .int ((mSI M 52 4 v).1 52 4), .int ((mSI M 52 4 v).1 52 5)] := by first | (simp [mSI, mSL, upd, vp_updL]; done) | rfl
theorem sC_52_5 (g : GB) (M : Mem) (v : Int32) : ([if M.1 52 0 = 0 then .null else .ref (g.2.1 1), if M.1 52 1 = 0 then .null else .ref (g.2.1 53), if M.1 52 2 = 0 then .null else .ref (g.2.1 66), .int (M.1 52 3), .int (M.1 52 4), .int (M.1 52 5)] : List Value).set 5 (.int v) = [if (mSI M 52 5 v).1 52 0 = 0 then .null else .ref (g.2.1 1), if (mSI M 52 5 v).1 52 1 = 0 then .null else .ref (g.2.1 53), if (mSI M 52 5 v).1 52 2 = 0 then .null else .ref (g.2.1 66), .int ((mSI M 52 5 v).1 52 3), .int ((mSI M 52 5 v).1 52 4), .int ((mSI M 52 5 v).1 52 5)] := by first | (simp [mSI, mSL, upd, vp_updL]; done) | rfl
theorem sC_52_0 (g : GB) (M : Mem) : ([if M.1 52 0 = 0 then .null else .ref (g.2.1 1), if M.1 52 1 = 0 then .null else .ref (g.2.1 53), if M.1 52 2 = 0 then .null else .ref (g.2.1 66), .int (M.1 52 3), .int (M.1 52 4), .int (M.1 52 5)] : List Value).set 0 (.ref (g.2.1 1)) = [if (mSI M 52 0 1).1 52 0 = 0 then .null else .ref (g.2.1 1), if (mSI M 52 0 1).1 52 1 = 0 then .null else .ref (g.2.1 53), if (mSI M 52 0 1).1 52 2 = 0 then .null else .ref (g.2.1 66), .int ((mSI M 52 0 1).1 52 3), .int ((mSI M 52 0 1).1 52 4), .int ((mSI M 52 0 1).1 52 5)] := by first | (simp [mSI, mSL, upd, vp_updL]; done) | rfl
def on_X0_init : Nat := 0xb12500b52b2a2200b5032a1f00b5032a1b00b5032a1700b51400b706591000bb2a0a00b50900b7590700bb2a0100b72a
theorem ob_X0_init : OKB cX0_init on_X0_init 48 := ⟨by decide +kernel, by decide +kernel⟩
theorem dX0_init_0 : dc cX0_init 0 1 (.aload_n 0) 1 := o_42 ob_X0_init rfl rfl rfl
theorem dX0_init_1 : dc cX0_init 1 4 (.invokespecial 1) 3 := o_183 ob_X0_init rfl rfl rfl rfl
theorem dX0_init_4 : dc cX0_init 4 5 (.aload_n 0) 1 := o_42 ob_X0_init rfl rfl rfl
theorem dX0_init_5 : dc cX0_init 5 8 (.new 7) 3 := o_187 ob_X0_init rfl rfl rfl rfl
theorem dX0_init_8 : dc cX0_init 8 9 .dup 1 := o_89 ob_X0_init rfl rfl rfl
theorem dX0_init_9 : dc cX0_init 9 12 (.invokespecial 9) 3 := o_183 ob_X0_init rfl rfl rfl rfl
theorem dX0_init_12 : dc cX0_init 12 15 (.putfield 10) 3 := o_181 ob_X0_init rfl rfl rfl rfl
theorem dX0_init_15 : dc cX0_init 15 16 (.aload_n 0) 1 := o_42 ob_X0_init rfl rfl rfl
theorem dX0_init_16 : dc cX0_init 16 19 (.new 16) 3 := o_187 ob_X0_init rfl rfl rfl rfl
theorem dX0_init_19 : dc cX0_init 19 20 .dup 1 := o_89 ob_X0_init rfl rfl rfl
theorem dX0_init_20 : dc cX0_init 20 21 (.iconst 3) 1 := o_6 ob_X0_init rfl rfl rfl
theorem dX0_init_21 : dc cX0_init 21 24 (.invokespecial 20) 3 := o_183 ob_X0_init rfl rfl rfl rfl
theorem dX0_init_24 : dc cX0_init 24 27 (.putfield 23) 3 := o_181 ob_X0_init rfl rfl rfl rfl
theorem dX0_init_27 : dc cX0_init 27 28 (.aload_n 0) 1 := o_42 ob_X0_init rfl rfl rfl
theorem dX0_init_28 : dc cX0_init 28 29 (.iconst 0) 1 := o_3 ob_X0_init rfl rfl rfl
theorem dX0_init_29 : dc cX0_init 29 32 (.putfield 27) 3 := o_181 ob_X0_init rfl rfl rfl rfl
theorem dX0_init_32 : dc cX0_init 32 33 (.aload_n 0) 1 := o_42 ob_X0_init rfl rfl rfl
theorem dX0_init_33 : dc cX0_init 33 34 (.iconst 0) 1 := o_3 ob_X0_init rfl rfl rfl
theorem dX0_init_34 : dc cX0_init 34 37 (.putfield 31) 3 := o_181 ob_X0_init rfl rfl rfl rfl
theorem dX0_init_37 : dc cX0_init 37 38 (.aload_n 0) 1 := o_42 ob_X0_init rfl rfl rfl
theorem dX0_init_38 : dc cX0_init 38 39 (.iconst 0) 1 := o_3 ob_X0_init rfl rfl rfl
theorem dX0_init_39 : dc cX0_init 39 42 (.putfield 34) 3 := o_181 ob_X0_init rfl rfl rfl rfl
theorem dX0_init_42 : dc cX0_init 42 43 (.aload_n 0) 1 := o_42 ob_X0_init rfl rfl rfl
theorem dX0_init_43 : dc cX0_init 43 44 (.aload_n 1) 1 := o_43 ob_X0_init rfl rfl rfl
theorem dX0_init_44 : dc cX0_init 44 47 (.putfield 37) 3 := o_181 ob_X0_init rfl rfl rfl rfl
theorem dX0_init_47 : dc cX0_init 47 48 .return_ 1 := o_177 ob_X0_init rfl rfl rfl
def FI_Answer_52 (M : Mem) : Mem := (mSI ((mSI ((mSI ((mSI ((mSI ((FI_Row_66 ((mSI ((FI_Chain_53 M)) 52 1 1)))) 52 2 1)) 52 3 0)) 52 4 0)) 52 5 0)) 52 0 1)
theorem FIk_Answer_52 {M : Mem} {k : Nat} (h : k < 52) : (FI_Answer_52 M).1 k = M.1 k := by
  unfold FI_Answer_52
  rw [mSI_1ne (a := 52) (by omega), mSI_1ne (a := 52) (by omega), mSI_1ne (a := 52) (by omega), mSI_1ne (a := 52) (by omega), mSI_1ne (a := 52) (by omega), FIk_Row_66 (k := k) (by omega), mSI_1ne (a := 52) (by omega), FIk_Chain_53 (k := k) (by omega)]
theorem FrI_Answer_52 {M : Mem} (hz : Fr 53 M) : Fr 68 (FI_Answer_52 M) := by
  have hz := hz.mono (Nat.le_succ _)
  have hz := FrI_Chain_53 hz
  have hz := hz.sI (k := 52) (j := 1) (v := 1) (Nat.le_of_ble_eq_true rfl)
  have hz := hz.mono (Nat.le_succ _)
  have hz := FrI_Row_66 hz
  have hz := hz.sI (k := 52) (j := 2) (v := 1) (Nat.le_of_ble_eq_true rfl)
  have hz := hz.sI (k := 52) (j := 3) (v := 0) (Nat.le_of_ble_eq_true rfl)
  have hz := hz.sI (k := 52) (j := 4) (v := 0) (Nat.le_of_ble_eq_true rfl)
  have hz := hz.sI (k := 52) (j := 5) (v := 0) (Nat.le_of_ble_eq_true rfl)
  have hz := hz.sI (k := 52) (j := 0) (v := 1) (Nat.le_of_ble_eq_true rfl)
  exact hz
set_option maxRecDepth 100000 in
set_option maxHeartbeats 4000000 in
theorem KI_Answer_52 (l : Launch) (g : GB) (M : Mem) (hz : Fr 53 M) : CC l g yX0_init (.code yX0_init cX0_init 2 none :: wAll) { frames := 3, cells := 15, slots := 90, locals := 81 } [.ref (g.2.1 52), .ref (g.2.1 1)] 53 M 68 (FI_Answer_52 M) := by
  refine CC.of [(0, .ref (g.2.1 52)), (1, .ref (g.2.1 1))] (by decide) (Nat.le_of_ble_eq_true rfl) rfl ?_
  intro p e s m args below meth c K hr hin
  refine GC_aload_n rfl 0 rfl K dX0_init_0 ?_
  refine GC_objInit K dX0_init_1 wd_250 wd_34 wd_35 (Nat.le_of_ble_eq_true rfl) (Nat.le_of_ble_eq_true rfl) ?_
  refine GC_aload_n rfl 0 rfl K dX0_init_4 ?_
  refine GC_new (ci := 2) tyX2 tyX2_ok K rfl in_X2 wd_251 wd_182 wd_7 dX0_init_5 rfl (Nat.le_of_ble_eq_true rfl) (frC_53 g _ hz) (fun j hj => by revert j; decide +kernel) (by decide) ?_
  have hz := hz.mono (Nat.le_succ _)
  refine GC_dup rfl K dX0_init_8 ?_
  refine GC_callIN (host := "KeptWell") (y := yX2_init) [] [.ref (g.2.1 53), .ref (g.2.1 52)] K dX0_init_9 (by decide +kernel) wd_184 wd_7 wd_185 rfl ydc_X2_init (by decide) (by decide) rfl (Nat.le_of_ble_eq_true rfl) rfl rfl (Nat.le_of_ble_eq_true rfl) (KI_Chain_53 l g _ hz) ?_
  have hz := FrI_Chain_53 hz
  refine GC_putFR (ci := 0) (k := 1) (ty := (.object "KeptWell$Chain")) K rfl in_X0 tyX0 tyX0_ok nmX0 wd_256 rfl rfl hin rfl (by decide +kernel) rfl rfl dX0_init_12 (Nat.le_of_ble_eq_true rfl) (Nat.le_of_ble_eq_true rfl) (shC_52 g _) (shC_52 g _) (Nat.le_of_ble_eq_true rfl) (Nat.le_of_ble_eq_true rfl) (sC_52_1 g _) ?_
  have hz := hz.sI (k := 52) (j := 1) (v := 1) (Nat.le_of_ble_eq_true rfl)
  refine GC_aload_n rfl 0 rfl K dX0_init_15 ?_
  refine GC_new (ci := 7) tyX7 tyX7_ok K rfl in_X7 wd_253 wd_43 wd_3 dX0_init_16 rfl (Nat.le_of_ble_eq_true rfl) (frC_66 g _ hz) (fun j hj => by revert j; decide +kernel) (by decide) ?_
  have hz := hz.mono (Nat.le_succ _)
  refine GC_dup rfl K dX0_init_19 ?_
  refine GC_iconst (v := 3) rfl K dX0_init_20 ?_
  refine GC_callI (y := yX7_init) [.int 3] [.ref (g.2.1 66), .ref (g.2.1 52)] K dX0_init_21 wd_254 wd_45 wd_3 wd_46 rfl ydc_X7_init (by decide) (by decide) rfl (Nat.le_of_ble_eq_true rfl) rfl rfl (Nat.le_of_ble_eq_true rfl) (KI_Row_66 l g _ hz) ?_
  have hz := FrI_Row_66 hz
  refine GC_putFR (ci := 0) (k := 2) (ty := (.object "KeptWell$Row")) K rfl in_X0 tyX0 tyX0_ok nmX0 wd_257 rfl rfl hin rfl (by decide +kernel) rfl rfl dX0_init_24 (Nat.le_of_ble_eq_true rfl) (Nat.le_of_ble_eq_true rfl) (shC_52 g _) (shC_52 g _) (Nat.le_of_ble_eq_true rfl) (Nat.le_of_ble_eq_true rfl) (sC_52_2 g _) ?_
  have hz := hz.sI (k := 52) (j := 2) (v := 1) (Nat.le_of_ble_eq_true rfl)
  refine GC_aload_n rfl 0 rfl K dX0_init_27 ?_
  refine GC_iconst (v := 0) rfl K dX0_init_28 ?_
  refine GC_putI (ci := 0) (k := 3) (ty := .int) K rfl in_X0 tyX0 tyX0_ok nmX0 wd_258 rfl rfl (by decide +kernel) rfl rfl dX0_init_29 (Nat.le_of_ble_eq_true rfl) (Nat.le_of_ble_eq_true rfl) (shC_52 g _) (shC_52 g _) (Nat.le_of_ble_eq_true rfl) (Nat.le_of_ble_eq_true rfl) (sC_52_3 g _ _) ?_
  have hz := hz.sI (k := 52) (j := 3) (v := 0) (Nat.le_of_ble_eq_true rfl)
  refine GC_aload_n rfl 0 rfl K dX0_init_32 ?_
  refine GC_iconst (v := 0) rfl K dX0_init_33 ?_
  refine GC_putI (ci := 0) (k := 4) (ty := .int) K rfl in_X0 tyX0 tyX0_ok nmX0 wd_259 rfl rfl (by decide +kernel) rfl rfl dX0_init_34 (Nat.le_of_ble_eq_true rfl) (Nat.le_of_ble_eq_true rfl) (shC_52 g _) (shC_52 g _) (Nat.le_of_ble_eq_true rfl) (Nat.le_of_ble_eq_true rfl) (sC_52_4 g _ _) ?_
  have hz := hz.sI (k := 52) (j := 4) (v := 0) (Nat.le_of_ble_eq_true rfl)
  refine GC_aload_n rfl 0 rfl K dX0_init_37 ?_
  refine GC_iconst (v := 0) rfl K dX0_init_38 ?_
  refine GC_putI (ci := 0) (k := 5) (ty := .int) K rfl in_X0 tyX0 tyX0_ok nmX0 wd_260 rfl rfl (by decide +kernel) rfl rfl dX0_init_39 (Nat.le_of_ble_eq_true rfl) (Nat.le_of_ble_eq_true rfl) (shC_52 g _) (shC_52 g _) (Nat.le_of_ble_eq_true rfl) (Nat.le_of_ble_eq_true rfl) (sC_52_5 g _ _) ?_
  have hz := hz.sI (k := 52) (j := 5) (v := 0) (Nat.le_of_ble_eq_true rfl)
  refine GC_aload_n rfl 0 rfl K dX0_init_42 ?_
  refine GC_aload_n rfl 1 rfl K dX0_init_43 ?_
  refine GC_putFR (ci := 0) (k := 0) (ty := (.object "KeptWell$Well")) K rfl in_X0 tyX0 tyX0_ok nmX0 wd_255 rfl rfl hin rfl (by decide +kernel) rfl rfl dX0_init_44 (Nat.le_of_ble_eq_true rfl) (Nat.le_of_ble_eq_true rfl) (shC_52 g _) (shC_52 g _) (Nat.le_of_ble_eq_true rfl) (Nat.le_of_ble_eq_true rfl) (sC_52_0 g _) ?_
  have hz := hz.sI (k := 52) (j := 0) (v := 1) (Nat.le_of_ble_eq_true rfl)
  exact GC_vret K hr dX0_init_47 (Nat.le_of_ble_eq_true rfl) (Nat.le_of_ble_eq_true rfl) ⟨rfl, rfl⟩
theorem ydc_X0_init : ydN yX0_init 1 := ⟨by decide, by decide, by decide +kernel⟩
theorem sC_0_6 (g : GB) (M : Mem) : ([if M.1 0 0 = 0 then .null else .ref (g.2.1 1), if M.1 0 1 = 0 then .null else .ref (g.2.1 14), .int (M.1 0 2), if M.1 0 3 = 0 then .null else .ref (g.2.1 27), .int (M.1 0 4), if M.1 0 5 = 0 then .null else .ref (g.2.1 34), if M.1 0 6 = 0 then .null else .ref (g.2.1 52), if M.1 0 7 = 0 then .null else .ref (g.2.1 68), if M.1 0 8 = 0 then .null else .ref (g.2.1 79), if M.1 0 9 = 0 then .null else .ref (g.2.1 80), if M.1 0 10 = 0 then .null else .ref (g.2.1 91), if M.1 0 11 = 0 then .null else .ref (g.2.1 93)] : List Value).set 6 (.ref (g.2.1 52)) = [if (mSI M 0 6 1).1 0 0 = 0 then .null else .ref (g.2.1 1), if (mSI M 0 6 1).1 0 1 = 0 then .null else .ref (g.2.1 14), .int ((mSI M 0 6 1).1 0 2), if (mSI M 0 6 1).1 0 3 = 0 then .null else .ref (g.2.1 27), .int ((mSI M 0 6 1).1 0 4), if (mSI M 0 6 1).1 0 5 = 0 then .null else .ref (g.2.1 34), if (mSI M 0 6 1).1 0 6 = 0 then .null else .ref (g.2.1 52), if (mSI M 0 6 1).1 0 7 = 0 then .null else .ref (g.2.1 68), if (mSI M 0 6 1).1 0 8 = 0 then .null else .ref (g.2.1 79), if (mSI M 0 6 1).1 0 9 = 0 then .null else .ref (g.2.1 80), if (mSI M 0 6 1).1 0 10 = 0 then .null else .ref (g.2.1 91), if (mSI M 0 6 1).1 0 11 = 0 then .null else .ref (g.2.1 93)] := by first | (simp [mSI, mSL, upd, vp_updL]; done) | rfl
theorem sC_69_0 (g : GB) (M : Mem) : ([if M.1 69 0 = 0 then .null else .ref (g.2.1 70)] : List Value).set 0 (.ref (g.2.1 70)) = [if (mSI M 69 0 1).1 69 0 = 0 then .null else .ref (g.2.1 70)] := by first | (simp [mSI, mSL, upd, vp_updL]; done) | rfl
def FI_Row_69 (M : Mem) : Mem := (mSI M 69 0 1)
theorem FIk_Row_69 {M : Mem} {k : Nat} (h : k < 69) : (FI_Row_69 M).1 k = M.1 k := by
  unfold FI_Row_69
  rw [mSI_1ne (a := 69) (by omega)]
theorem FrI_Row_69 {M : Mem} (hz : Fr 70 M) : Fr 71 (FI_Row_69 M) := by
  have hz := hz.mono (Nat.le_succ _)
  have hz := hz.sI (k := 69) (j := 0) (v := 1) (Nat.le_of_ble_eq_true rfl)
  exact hz
set_option maxRecDepth 100000 in
set_option maxHeartbeats 4000000 in
theorem KI_Row_69 (l : Launch) (g : GB) (M : Mem) (hz : Fr 70 M) : CC l g yX7_init (.code yX7_init cX7_init 2 none :: wAll) { frames := 1, cells := 1, slots := 9, locals := 40 } [.ref (g.2.1 69), .int 9] 70 M 71 (FI_Row_69 M) := by
  refine CC.of [(0, .ref (g.2.1 69)), (1, .int 9)] (by decide) (Nat.le_of_ble_eq_true rfl) rfl ?_
  intro p e s m args below meth c K hr hin
  refine GC_aload_n rfl 0 rfl K dX7_init_0 ?_
  refine GC_objInit K dX7_init_1 wd_47 wd_34 wd_35 (Nat.le_of_ble_eq_true rfl) (Nat.le_of_ble_eq_true rfl) ?_
  refine GC_aload_n rfl 0 rfl K dX7_init_4 ?_
  refine GC_iload_n rfl 1 rfl K dX7_init_5 ?_
  refine GC_iconst (v := 0) rfl K dX7_init_6 ?_
  refine GC_max (v := 9) (by decide) K dX7_init_7 wd_48 wd_49 wd_4 wd_50 (Nat.le_of_ble_eq_true rfl) (Nat.le_of_ble_eq_true rfl) ⟨Nat.le_of_ble_eq_true rfl, Nat.le_of_ble_eq_true rfl⟩ ?_
  refine GC_newa_long (N := 9) K dX7_init_10 wd_55 (by decide) (by decide) (by decide) rfl (Nat.le_of_ble_eq_true rfl) (frC_70 g _ hz) (by decide) ?_
  have hz := hz.mono (Nat.le_succ _)
  refine GC_putFR (ci := 7) (k := 0) (ty := (.array .long)) K rfl in_X7 tyX7 tyX7_ok nmX7 wd_51 rfl rfl hin rfl (by decide +kernel) rfl rfl dX7_init_12 (Nat.le_of_ble_eq_true rfl) (Nat.le_of_ble_eq_true rfl) (shC_69 g _) (shC_69 g _) (Nat.le_of_ble_eq_true rfl) (Nat.le_of_ble_eq_true rfl) (sC_69_0 g _) ?_
  have hz := hz.sI (k := 69) (j := 0) (v := 1) (Nat.le_of_ble_eq_true rfl)
  exact GC_vret K hr dX7_init_15 (Nat.le_of_ble_eq_true rfl) (Nat.le_of_ble_eq_true rfl) ⟨rfl, rfl⟩
theorem sC_68_1 (g : GB) (M : Mem) : ([if M.1 68 0 = 0 then .null else .ref (g.2.1 1), if M.1 68 1 = 0 then .null else .ref (g.2.1 69), if M.1 68 2 = 0 then .null else .ref (g.2.1 71), .long (M.2 68 3), .long (M.2 68 4), .int (M.1 68 5), if M.1 68 6 = 0 then .null else .ref (g.2.1 73), if M.1 68 7 = 0 then .null else .ref (g.2.1 75), if M.1 68 8 = 0 then .null else .ref (g.2.1 77)] : List Value).set 1 (.ref (g.2.1 69)) = [if (mSI M 68 1 1).1 68 0 = 0 then .null else .ref (g.2.1 1), if (mSI M 68 1 1).1 68 1 = 0 then .null else .ref (g.2.1 69), if (mSI M 68 1 1).1 68 2 = 0 then .null else .ref (g.2.1 71), .long ((mSI M 68 1 1).2 68 3), .long ((mSI M 68 1 1).2 68 4), .int ((mSI M 68 1 1).1 68 5), if (mSI M 68 1 1).1 68 6 = 0 then .null else .ref (g.2.1 73), if (mSI M 68 1 1).1 68 7 = 0 then .null else .ref (g.2.1 75), if (mSI M 68 1 1).1 68 8 = 0 then .null else .ref (g.2.1 77)] := by first | (simp [mSI, mSL, upd, vp_updL]; done) | rfl
theorem sC_71_0 (g : GB) (M : Mem) : ([if M.1 71 0 = 0 then .null else .ref (g.2.1 72)] : List Value).set 0 (.ref (g.2.1 72)) = [if (mSI M 71 0 1).1 71 0 = 0 then .null else .ref (g.2.1 72)] := by first | (simp [mSI, mSL, upd, vp_updL]; done) | rfl
def FI_Row_71 (M : Mem) : Mem := (mSI M 71 0 1)
theorem FIk_Row_71 {M : Mem} {k : Nat} (h : k < 71) : (FI_Row_71 M).1 k = M.1 k := by
  unfold FI_Row_71
  rw [mSI_1ne (a := 71) (by omega)]
theorem FrI_Row_71 {M : Mem} (hz : Fr 72 M) : Fr 73 (FI_Row_71 M) := by
  have hz := hz.mono (Nat.le_succ _)
  have hz := hz.sI (k := 71) (j := 0) (v := 1) (Nat.le_of_ble_eq_true rfl)
  exact hz
set_option maxRecDepth 100000 in
set_option maxHeartbeats 4000000 in
theorem KI_Row_71 (l : Launch) (g : GB) (M : Mem) (hz : Fr 72 M) : CC l g yX7_init (.code yX7_init cX7_init 2 none :: wAll) { frames := 1, cells := 1, slots := 3, locals := 40 } [.ref (g.2.1 71), .int 3] 72 M 73 (FI_Row_71 M) := by
  refine CC.of [(0, .ref (g.2.1 71)), (1, .int 3)] (by decide) (Nat.le_of_ble_eq_true rfl) rfl ?_
  intro p e s m args below meth c K hr hin
  refine GC_aload_n rfl 0 rfl K dX7_init_0 ?_
  refine GC_objInit K dX7_init_1 wd_47 wd_34 wd_35 (Nat.le_of_ble_eq_true rfl) (Nat.le_of_ble_eq_true rfl) ?_
  refine GC_aload_n rfl 0 rfl K dX7_init_4 ?_
  refine GC_iload_n rfl 1 rfl K dX7_init_5 ?_
  refine GC_iconst (v := 0) rfl K dX7_init_6 ?_
  refine GC_max (v := 3) (by decide) K dX7_init_7 wd_48 wd_49 wd_4 wd_50 (Nat.le_of_ble_eq_true rfl) (Nat.le_of_ble_eq_true rfl) ⟨Nat.le_of_ble_eq_true rfl, Nat.le_of_ble_eq_true rfl⟩ ?_
  refine GC_newa_long (N := 3) K dX7_init_10 wd_55 (by decide) (by decide) (by decide) rfl (Nat.le_of_ble_eq_true rfl) (frC_72 g _ hz) (by decide) ?_
  have hz := hz.mono (Nat.le_succ _)
  refine GC_putFR (ci := 7) (k := 0) (ty := (.array .long)) K rfl in_X7 tyX7 tyX7_ok nmX7 wd_51 rfl rfl hin rfl (by decide +kernel) rfl rfl dX7_init_12 (Nat.le_of_ble_eq_true rfl) (Nat.le_of_ble_eq_true rfl) (shC_71 g _) (shC_71 g _) (Nat.le_of_ble_eq_true rfl) (Nat.le_of_ble_eq_true rfl) (sC_71_0 g _) ?_
  have hz := hz.sI (k := 71) (j := 0) (v := 1) (Nat.le_of_ble_eq_true rfl)
  exact GC_vret K hr dX7_init_15 (Nat.le_of_ble_eq_true rfl) (Nat.le_of_ble_eq_true rfl) ⟨rfl, rfl⟩
theorem sC_68_2 (g : GB) (M : Mem) : ([if M.1 68 0 = 0 then .null else .ref (g.2.1 1), if M.1 68 1 = 0 then .null else .ref (g.2.1 69), if M.1 68 2 = 0 then .null else .ref (g.2.1 71), .long (M.2 68 3), .long (M.2 68 4), .int (M.1 68 5), if M.1 68 6 = 0 then .null else .ref (g.2.1 73), if M.1 68 7 = 0 then .null else .ref (g.2.1 75), if M.1 68 8 = 0 then .null else .ref (g.2.1 77)] : List Value).set 2 (.ref (g.2.1 71)) = [if (mSI M 68 2 1).1 68 0 = 0 then .null else .ref (g.2.1 1), if (mSI M 68 2 1).1 68 1 = 0 then .null else .ref (g.2.1 69), if (mSI M 68 2 1).1 68 2 = 0 then .null else .ref (g.2.1 71), .long ((mSI M 68 2 1).2 68 3), .long ((mSI M 68 2 1).2 68 4), .int ((mSI M 68 2 1).1 68 5), if (mSI M 68 2 1).1 68 6 = 0 then .null else .ref (g.2.1 73), if (mSI M 68 2 1).1 68 7 = 0 then .null else .ref (g.2.1 75), if (mSI M 68 2 1).1 68 8 = 0 then .null else .ref (g.2.1 77)] := by first | (simp [mSI, mSL, upd, vp_updL]; done) | rfl
theorem sC_68_3 (g : GB) (M : Mem) (v : Int64) : ([if M.1 68 0 = 0 then .null else .ref (g.2.1 1), if M.1 68 1 = 0 then .null else .ref (g.2.1 69), if M.1 68 2 = 0 then .null else .ref (g.2.1 71), .long (M.2 68 3), .long (M.2 68 4), .int (M.1 68 5), if M.1 68 6 = 0 then .null else .ref (g.2.1 73), if M.1 68 7 = 0 then .null else .ref (g.2.1 75), if M.1 68 8 = 0 then .null else .ref (g.2.1 77)] : List Value).set 3 (.long v) = [if (mSL M 68 3 v).1 68 0 = 0 then .null else .ref (g.2.1 1), if (mSL M 68 3 v).1 68 1 = 0 then .null else .ref (g.2.1 69), if (mSL M 68 3 v).1 68 2 = 0 then .null else .ref (g.2.1 71), .long ((mSL M 68 3 v).2 68 3), .long ((mSL M 68 3 v).2 68 4), .int ((mSL M 68 3 v).1 68 5), if (mSL M 68 3 v).1 68 6 = 0 then .null else .ref (g.2.1 73), if (mSL M 68 3 v).1 68 7 = 0 then .null else .ref (g.2.1 75), if (mSL M 68 3 v).1 68 8 = 0 then .null else .ref (g.2.1 77)] := by first | (simp [mSI, mSL, upd, vp_updL]; done) | rfl
theorem sC_68_4 (g : GB) (M : Mem) (v : Int64) : ([if M.1 68 0 = 0 then .null else .ref (g.2.1 1), if M.1 68 1 = 0 then .null else .ref (g.2.1 69), if M.1 68 2 = 0 then .null else .ref (g.2.1 71), .long (M.2 68 3), .long (M.2 68 4), .int (M.1 68 5), if M.1 68 6 = 0 then .null else .ref (g.2.1 73), if M.1 68 7 = 0 then .null else .ref (g.2.1 75), if M.1 68 8 = 0 then .null else .ref (g.2.1 77)] : List Value).set 4 (.long v) = [if (mSL M 68 4 v).1 68 0 = 0 then .null else .ref (g.2.1 1), if (mSL M 68 4 v).1 68 1 = 0 then .null else .ref (g.2.1 69), if (mSL M 68 4 v).1 68 2 = 0 then .null else .ref (g.2.1 71), .long ((mSL M 68 4 v).2 68 3), .long ((mSL M 68 4 v).2 68 4), .int ((mSL M 68 4 v).1 68 5), if (mSL M 68 4 v).1 68 6 = 0 then .null else .ref (g.2.1 73), if (mSL M 68 4 v).1 68 7 = 0 then .null else .ref (g.2.1 75), if (mSL M 68 4 v).1 68 8 = 0 then .null else .ref (g.2.1 77)] := by first | (simp [mSI, mSL, upd, vp_updL]; done) | rfl
theorem sC_68_5 (g : GB) (M : Mem) (v : Int32) : ([if M.1 68 0 = 0 then .null else .ref (g.2.1 1), if M.1 68 1 = 0 then .null else .ref (g.2.1 69), if M.1 68 2 = 0 then .null else .ref (g.2.1 71), .long (M.2 68 3), .long (M.2 68 4), .int (M.1 68 5), if M.1 68 6 = 0 then .null else .ref (g.2.1 73), if M.1 68 7 = 0 then .null else .ref (g.2.1 75), if M.1 68 8 = 0 then .null else .ref (g.2.1 77)] : List Value).set 5 (.int v) = [if (mSI M 68 5 v).1 68 0 = 0 then .null else .ref (g.2.1 1), if (mSI M 68 5 v).1 68 1 = 0 then .null else .ref (g.2.1 69), if (mSI M 68 5 v).1 68 2 = 0 then .null else .ref (g.2.1 71), .long ((mSI M 68 5 v).2 68 3), .long ((mSI M 68 5 v).2 68 4), .int ((mSI M 68 5 v).1 68 5), if (mSI M 68 5 v).1 68 6 = 0 then .null else .ref (g.2.1 73), if (mSI M 68 5 v).1 68 7 = 0 then .null else .ref (g.2.1 75), if (mSI M 68 5 v).1 68 8 = 0 then .null else .ref (g.2.1 77)] := by first | (simp [mSI, mSL, upd, vp_updL]; done) | rfl
theorem sC_73_0 (g : GB) (M : Mem) : ([if M.1 73 0 = 0 then .null else .ref (g.2.1 74)] : List Value).set 0 (.ref (g.2.1 74)) = [if (mSI M 73 0 1).1 73 0 = 0 then .null else .ref (g.2.1 74)] := by first | (simp [mSI, mSL, upd, vp_updL]; done) | rfl
def FI_Row_73 (M : Mem) : Mem := (mSI M 73 0 1)
theorem FIk_Row_73 {M : Mem} {k : Nat} (h : k < 73) : (FI_Row_73 M).1 k = M.1 k := by
  unfold FI_Row_73
  rw [mSI_1ne (a := 73) (by omega)]
theorem FrI_Row_73 {M : Mem} (hz : Fr 74 M) : Fr 75 (FI_Row_73 M) := by
  have hz := hz.mono (Nat.le_succ _)
  have hz := hz.sI (k := 73) (j := 0) (v := 1) (Nat.le_of_ble_eq_true rfl)
  exact hz
set_option maxRecDepth 100000 in
set_option maxHeartbeats 4000000 in
theorem KI_Row_73 (l : Launch) (g : GB) (M : Mem) (hz : Fr 74 M) : CC l g yX7_init (.code yX7_init cX7_init 2 none :: wAll) { frames := 1, cells := 1, slots := 9, locals := 40 } [.ref (g.2.1 73), .int 9] 74 M 75 (FI_Row_73 M) := by
  refine CC.of [(0, .ref (g.2.1 73)), (1, .int 9)] (by decide) (Nat.le_of_ble_eq_true rfl) rfl ?_
  intro p e s m args below meth c K hr hin
  refine GC_aload_n rfl 0 rfl K dX7_init_0 ?_
  refine GC_objInit K dX7_init_1 wd_47 wd_34 wd_35 (Nat.le_of_ble_eq_true rfl) (Nat.le_of_ble_eq_true rfl) ?_
  refine GC_aload_n rfl 0 rfl K dX7_init_4 ?_
  refine GC_iload_n rfl 1 rfl K dX7_init_5 ?_
  refine GC_iconst (v := 0) rfl K dX7_init_6 ?_
  refine GC_max (v := 9) (by decide) K dX7_init_7 wd_48 wd_49 wd_4 wd_50 (Nat.le_of_ble_eq_true rfl) (Nat.le_of_ble_eq_true rfl) ⟨Nat.le_of_ble_eq_true rfl, Nat.le_of_ble_eq_true rfl⟩ ?_
  refine GC_newa_long (N := 9) K dX7_init_10 wd_55 (by decide) (by decide) (by decide) rfl (Nat.le_of_ble_eq_true rfl) (frC_74 g _ hz) (by decide) ?_
  have hz := hz.mono (Nat.le_succ _)
  refine GC_putFR (ci := 7) (k := 0) (ty := (.array .long)) K rfl in_X7 tyX7 tyX7_ok nmX7 wd_51 rfl rfl hin rfl (by decide +kernel) rfl rfl dX7_init_12 (Nat.le_of_ble_eq_true rfl) (Nat.le_of_ble_eq_true rfl) (shC_73 g _) (shC_73 g _) (Nat.le_of_ble_eq_true rfl) (Nat.le_of_ble_eq_true rfl) (sC_73_0 g _) ?_
  have hz := hz.sI (k := 73) (j := 0) (v := 1) (Nat.le_of_ble_eq_true rfl)
  exact GC_vret K hr dX7_init_15 (Nat.le_of_ble_eq_true rfl) (Nat.le_of_ble_eq_true rfl) ⟨rfl, rfl⟩
theorem sC_68_6 (g : GB) (M : Mem) : ([if M.1 68 0 = 0 then .null else .ref (g.2.1 1), if M.1 68 1 = 0 then .null else .ref (g.2.1 69), if M.1 68 2 = 0 then .null else .ref (g.2.1 71), .long (M.2 68 3), .long (M.2 68 4), .int (M.1 68 5), if M.1 68 6 = 0 then .null else .ref (g.2.1 73), if M.1 68 7 = 0 then .null else .ref (g.2.1 75), if M.1 68 8 = 0 then .null else .ref (g.2.1 77)] : List Value).set 6 (.ref (g.2.1 73)) = [if (mSI M 68 6 1).1 68 0 = 0 then .null else .ref (g.2.1 1), if (mSI M 68 6 1).1 68 1 = 0 then .null else .ref (g.2.1 69), if (mSI M 68 6 1).1 68 2 = 0 then .null else .ref (g.2.1 71), .long ((mSI M 68 6 1).2 68 3), .long ((mSI M 68 6 1).2 68 4), .int ((mSI M 68 6 1).1 68 5), if (mSI M 68 6 1).1 68 6 = 0 then .null else .ref (g.2.1 73), if (mSI M 68 6 1).1 68 7 = 0 then .null else .ref (g.2.1 75), if (mSI M 68 6 1).1 68 8 = 0 then .null else .ref (g.2.1 77)] := by first | (simp [mSI, mSL, upd, vp_updL]; done) | rfl
theorem sC_75_0 (g : GB) (M : Mem) : ([if M.1 75 0 = 0 then .null else .ref (g.2.1 76)] : List Value).set 0 (.ref (g.2.1 76)) = [if (mSI M 75 0 1).1 75 0 = 0 then .null else .ref (g.2.1 76)] := by first | (simp [mSI, mSL, upd, vp_updL]; done) | rfl
def FI_Row_75 (M : Mem) : Mem := (mSI M 75 0 1)
theorem FIk_Row_75 {M : Mem} {k : Nat} (h : k < 75) : (FI_Row_75 M).1 k = M.1 k := by
  unfold FI_Row_75
  rw [mSI_1ne (a := 75) (by omega)]
theorem FrI_Row_75 {M : Mem} (hz : Fr 76 M) : Fr 77 (FI_Row_75 M) := by
  have hz := hz.mono (Nat.le_succ _)
  have hz := hz.sI (k := 75) (j := 0) (v := 1) (Nat.le_of_ble_eq_true rfl)
  exact hz
set_option maxRecDepth 100000 in
set_option maxHeartbeats 4000000 in
theorem KI_Row_75 (l : Launch) (g : GB) (M : Mem) (hz : Fr 76 M) : CC l g yX7_init (.code yX7_init cX7_init 2 none :: wAll) { frames := 1, cells := 1, slots := 9, locals := 40 } [.ref (g.2.1 75), .int 9] 76 M 77 (FI_Row_75 M) := by
  refine CC.of [(0, .ref (g.2.1 75)), (1, .int 9)] (by decide) (Nat.le_of_ble_eq_true rfl) rfl ?_
  intro p e s m args below meth c K hr hin
  refine GC_aload_n rfl 0 rfl K dX7_init_0 ?_
  refine GC_objInit K dX7_init_1 wd_47 wd_34 wd_35 (Nat.le_of_ble_eq_true rfl) (Nat.le_of_ble_eq_true rfl) ?_
  refine GC_aload_n rfl 0 rfl K dX7_init_4 ?_
  refine GC_iload_n rfl 1 rfl K dX7_init_5 ?_
  refine GC_iconst (v := 0) rfl K dX7_init_6 ?_
  refine GC_max (v := 9) (by decide) K dX7_init_7 wd_48 wd_49 wd_4 wd_50 (Nat.le_of_ble_eq_true rfl) (Nat.le_of_ble_eq_true rfl) ⟨Nat.le_of_ble_eq_true rfl, Nat.le_of_ble_eq_true rfl⟩ ?_
  refine GC_newa_long (N := 9) K dX7_init_10 wd_55 (by decide) (by decide) (by decide) rfl (Nat.le_of_ble_eq_true rfl) (frC_76 g _ hz) (by decide) ?_
  have hz := hz.mono (Nat.le_succ _)
  refine GC_putFR (ci := 7) (k := 0) (ty := (.array .long)) K rfl in_X7 tyX7 tyX7_ok nmX7 wd_51 rfl rfl hin rfl (by decide +kernel) rfl rfl dX7_init_12 (Nat.le_of_ble_eq_true rfl) (Nat.le_of_ble_eq_true rfl) (shC_75 g _) (shC_75 g _) (Nat.le_of_ble_eq_true rfl) (Nat.le_of_ble_eq_true rfl) (sC_75_0 g _) ?_
  have hz := hz.sI (k := 75) (j := 0) (v := 1) (Nat.le_of_ble_eq_true rfl)
  exact GC_vret K hr dX7_init_15 (Nat.le_of_ble_eq_true rfl) (Nat.le_of_ble_eq_true rfl) ⟨rfl, rfl⟩
theorem sC_68_7 (g : GB) (M : Mem) : ([if M.1 68 0 = 0 then .null else .ref (g.2.1 1), if M.1 68 1 = 0 then .null else .ref (g.2.1 69), if M.1 68 2 = 0 then .null else .ref (g.2.1 71), .long (M.2 68 3), .long (M.2 68 4), .int (M.1 68 5), if M.1 68 6 = 0 then .null else .ref (g.2.1 73), if M.1 68 7 = 0 then .null else .ref (g.2.1 75), if M.1 68 8 = 0 then .null else .ref (g.2.1 77)] : List Value).set 7 (.ref (g.2.1 75)) = [if (mSI M 68 7 1).1 68 0 = 0 then .null else .ref (g.2.1 1), if (mSI M 68 7 1).1 68 1 = 0 then .null else .ref (g.2.1 69), if (mSI M 68 7 1).1 68 2 = 0 then .null else .ref (g.2.1 71), .long ((mSI M 68 7 1).2 68 3), .long ((mSI M 68 7 1).2 68 4), .int ((mSI M 68 7 1).1 68 5), if (mSI M 68 7 1).1 68 6 = 0 then .null else .ref (g.2.1 73), if (mSI M 68 7 1).1 68 7 = 0 then .null else .ref (g.2.1 75), if (mSI M 68 7 1).1 68 8 = 0 then .null else .ref (g.2.1 77)] := by first | (simp [mSI, mSL, upd, vp_updL]; done) | rfl
theorem sC_77_0 (g : GB) (M : Mem) : ([if M.1 77 0 = 0 then .null else .ref (g.2.1 78)] : List Value).set 0 (.ref (g.2.1 78)) = [if (mSI M 77 0 1).1 77 0 = 0 then .null else .ref (g.2.1 78)] := by first | (simp [mSI, mSL, upd, vp_updL]; done) | rfl
def FI_Row_77 (M : Mem) : Mem := (mSI M 77 0 1)
theorem FIk_Row_77 {M : Mem} {k : Nat} (h : k < 77) : (FI_Row_77 M).1 k = M.1 k := by
  unfold FI_Row_77
  rw [mSI_1ne (a := 77) (by omega)]
theorem FrI_Row_77 {M : Mem} (hz : Fr 78 M) : Fr 79 (FI_Row_77 M) := by
  have hz := hz.mono (Nat.le_succ _)
  have hz := hz.sI (k := 77) (j := 0) (v := 1) (Nat.le_of_ble_eq_true rfl)
  exact hz
set_option maxRecDepth 100000 in
set_option maxHeartbeats 4000000 in
theorem KI_Row_77 (l : Launch) (g : GB) (M : Mem) (hz : Fr 78 M) : CC l g yX7_init (.code yX7_init cX7_init 2 none :: wAll) { frames := 1, cells := 1, slots := 10, locals := 40 } [.ref (g.2.1 77), .int 10] 78 M 79 (FI_Row_77 M) := by
  refine CC.of [(0, .ref (g.2.1 77)), (1, .int 10)] (by decide) (Nat.le_of_ble_eq_true rfl) rfl ?_
  intro p e s m args below meth c K hr hin
  refine GC_aload_n rfl 0 rfl K dX7_init_0 ?_
  refine GC_objInit K dX7_init_1 wd_47 wd_34 wd_35 (Nat.le_of_ble_eq_true rfl) (Nat.le_of_ble_eq_true rfl) ?_
  refine GC_aload_n rfl 0 rfl K dX7_init_4 ?_
  refine GC_iload_n rfl 1 rfl K dX7_init_5 ?_
  refine GC_iconst (v := 0) rfl K dX7_init_6 ?_
  refine GC_max (v := 10) (by decide) K dX7_init_7 wd_48 wd_49 wd_4 wd_50 (Nat.le_of_ble_eq_true rfl) (Nat.le_of_ble_eq_true rfl) ⟨Nat.le_of_ble_eq_true rfl, Nat.le_of_ble_eq_true rfl⟩ ?_
  refine GC_newa_long (N := 10) K dX7_init_10 wd_55 (by decide) (by decide) (by decide) rfl (Nat.le_of_ble_eq_true rfl) (frC_78 g _ hz) (by decide) ?_
  have hz := hz.mono (Nat.le_succ _)
  refine GC_putFR (ci := 7) (k := 0) (ty := (.array .long)) K rfl in_X7 tyX7 tyX7_ok nmX7 wd_51 rfl rfl hin rfl (by decide +kernel) rfl rfl dX7_init_12 (Nat.le_of_ble_eq_true rfl) (Nat.le_of_ble_eq_true rfl) (shC_77 g _) (shC_77 g _) (Nat.le_of_ble_eq_true rfl) (Nat.le_of_ble_eq_true rfl) (sC_77_0 g _) ?_
  have hz := hz.sI (k := 77) (j := 0) (v := 1) (Nat.le_of_ble_eq_true rfl)
  exact GC_vret K hr dX7_init_15 (Nat.le_of_ble_eq_true rfl) (Nat.le_of_ble_eq_true rfl) ⟨rfl, rfl⟩
theorem sC_68_8 (g : GB) (M : Mem) : ([if M.1 68 0 = 0 then .null else .ref (g.2.1 1), if M.1 68 1 = 0 then .null else .ref (g.2.1 69), if M.1 68 2 = 0 then .null else .ref (g.2.1 71), .long (M.2 68 3), .long (M.2 68 4), .int (M.1 68 5), if M.1 68 6 = 0 then .null else .ref (g.2.1 73), if M.1 68 7 = 0 then .null else .ref (g.2.1 75), if M.1 68 8 = 0 then .null else .ref (g.2.1 77)] : List Value).set 8 (.ref (g.2.1 77)) = [if (mSI M 68 8 1).1 68 0 = 0 then .null else .ref (g.2.1 1), if (mSI M 68 8 1).1 68 1 = 0 then .null else .ref (g.2.1 69), if (mSI M 68 8 1).1 68 2 = 0 then .null else .ref (g.2.1 71), .long ((mSI M 68 8 1).2 68 3), .long ((mSI M 68 8 1).2 68 4), .int ((mSI M 68 8 1).1 68 5), if (mSI M 68 8 1).1 68 6 = 0 then .null else .ref (g.2.1 73), if (mSI M 68 8 1).1 68 7 = 0 then .null else .ref (g.2.1 75), if (mSI M 68 8 1).1 68 8 = 0 then .null else .ref (g.2.1 77)] := by first | (simp [mSI, mSL, upd, vp_updL]; done) | rfl
theorem sC_68_0 (g : GB) (M : Mem) : ([if M.1 68 0 = 0 then .null else .ref (g.2.1 1), if M.1 68 1 = 0 then .null else .ref (g.2.1 69), if M.1 68 2 = 0 then .null else .ref (g.2.1 71), .long (M.2 68 3), .long (M.2 68 4), .int (M.1 68 5), if M.1 68 6 = 0 then .null else .ref (g.2.1 73), if M.1 68 7 = 0 then .null else .ref (g.2.1 75), if M.1 68 8 = 0 then .null else .ref (g.2.1 77)] : List Value).set 0 (.ref (g.2.1 1)) = [if (mSI M 68 0 1).1 68 0 = 0 then .null else .ref (g.2.1 1), if (mSI M 68 0 1).1 68 1 = 0 then .null else .ref (g.2.1 69), if (mSI M 68 0 1).1 68 2 = 0 then .null else .ref (g.2.1 71), .long ((mSI M 68 0 1).2 68 3), .long ((mSI M 68 0 1).2 68 4), .int ((mSI M 68 0 1).1 68 5), if (mSI M 68 0 1).1 68 6 = 0 then .null else .ref (g.2.1 73), if (mSI M 68 0 1).1 68 7 = 0 then .null else .ref (g.2.1 75), if (mSI M 68 0 1).1 68 8 = 0 then .null else .ref (g.2.1 77)] := by first | (simp [mSI, mSL, upd, vp_updL]; done) | rfl
def on_X4_init : Nat := 0xb12d00b52b2a2a00b50b00b70a10590900bb2a2700b50b00b70910590900bb2a2400b50b00b70910590900bb2a2000b5032a1d00b5092a1900b5092a1600b50b00b706590900bb2a0e00b50b00b70910590900bb2a0300b72a
theorem ob_X4_init : OKB cX4_init on_X4_init 89 := ⟨by decide +kernel, by decide +kernel⟩
theorem dX4_init_0 : dc cX4_init 0 1 (.aload_n 0) 1 := o_42 ob_X4_init rfl rfl rfl
theorem dX4_init_1 : dc cX4_init 1 4 (.invokespecial 3) 3 := o_183 ob_X4_init rfl rfl rfl rfl
theorem dX4_init_4 : dc cX4_init 4 5 (.aload_n 0) 1 := o_42 ob_X4_init rfl rfl rfl
theorem dX4_init_5 : dc cX4_init 5 8 (.new 9) 3 := o_187 ob_X4_init rfl rfl rfl rfl
theorem dX4_init_8 : dc cX4_init 8 9 .dup 1 := o_89 ob_X4_init rfl rfl rfl
theorem dX4_init_9 : dc cX4_init 9 11 (.bipush 9) 2 := o_16 ob_X4_init rfl rfl rfl rfl
theorem dX4_init_11 : dc cX4_init 11 14 (.invokespecial 11) 3 := o_183 ob_X4_init rfl rfl rfl rfl
theorem dX4_init_14 : dc cX4_init 14 17 (.putfield 14) 3 := o_181 ob_X4_init rfl rfl rfl rfl
theorem dX4_init_17 : dc cX4_init 17 18 (.aload_n 0) 1 := o_42 ob_X4_init rfl rfl rfl
theorem dX4_init_18 : dc cX4_init 18 21 (.new 9) 3 := o_187 ob_X4_init rfl rfl rfl rfl
theorem dX4_init_21 : dc cX4_init 21 22 .dup 1 := o_89 ob_X4_init rfl rfl rfl
theorem dX4_init_22 : dc cX4_init 22 23 (.iconst 3) 1 := o_6 ob_X4_init rfl rfl rfl
theorem dX4_init_23 : dc cX4_init 23 26 (.invokespecial 11) 3 := o_183 ob_X4_init rfl rfl rfl rfl
theorem dX4_init_26 : dc cX4_init 26 29 (.putfield 22) 3 := o_181 ob_X4_init rfl rfl rfl rfl
theorem dX4_init_29 : dc cX4_init 29 30 (.aload_n 0) 1 := o_42 ob_X4_init rfl rfl rfl
theorem dX4_init_30 : dc cX4_init 30 31 (.lconst 0) 1 := o_9 ob_X4_init rfl rfl rfl
theorem dX4_init_31 : dc cX4_init 31 34 (.putfield 25) 3 := o_181 ob_X4_init rfl rfl rfl rfl
theorem dX4_init_34 : dc cX4_init 34 35 (.aload_n 0) 1 := o_42 ob_X4_init rfl rfl rfl
theorem dX4_init_35 : dc cX4_init 35 36 (.lconst 0) 1 := o_9 ob_X4_init rfl rfl rfl
theorem dX4_init_36 : dc cX4_init 36 39 (.putfield 29) 3 := o_181 ob_X4_init rfl rfl rfl rfl
theorem dX4_init_39 : dc cX4_init 39 40 (.aload_n 0) 1 := o_42 ob_X4_init rfl rfl rfl
theorem dX4_init_40 : dc cX4_init 40 41 (.iconst 0) 1 := o_3 ob_X4_init rfl rfl rfl
theorem dX4_init_41 : dc cX4_init 41 44 (.putfield 32) 3 := o_181 ob_X4_init rfl rfl rfl rfl
theorem dX4_init_44 : dc cX4_init 44 45 (.aload_n 0) 1 := o_42 ob_X4_init rfl rfl rfl
theorem dX4_init_45 : dc cX4_init 45 48 (.new 9) 3 := o_187 ob_X4_init rfl rfl rfl rfl
theorem dX4_init_48 : dc cX4_init 48 49 .dup 1 := o_89 ob_X4_init rfl rfl rfl
theorem dX4_init_49 : dc cX4_init 49 51 (.bipush 9) 2 := o_16 ob_X4_init rfl rfl rfl rfl
theorem dX4_init_51 : dc cX4_init 51 54 (.invokespecial 11) 3 := o_183 ob_X4_init rfl rfl rfl rfl
theorem dX4_init_54 : dc cX4_init 54 57 (.putfield 36) 3 := o_181 ob_X4_init rfl rfl rfl rfl
theorem dX4_init_57 : dc cX4_init 57 58 (.aload_n 0) 1 := o_42 ob_X4_init rfl rfl rfl
theorem dX4_init_58 : dc cX4_init 58 61 (.new 9) 3 := o_187 ob_X4_init rfl rfl rfl rfl
theorem dX4_init_61 : dc cX4_init 61 62 .dup 1 := o_89 ob_X4_init rfl rfl rfl
theorem dX4_init_62 : dc cX4_init 62 64 (.bipush 9) 2 := o_16 ob_X4_init rfl rfl rfl rfl
theorem dX4_init_64 : dc cX4_init 64 67 (.invokespecial 11) 3 := o_183 ob_X4_init rfl rfl rfl rfl
theorem dX4_init_67 : dc cX4_init 67 70 (.putfield 39) 3 := o_181 ob_X4_init rfl rfl rfl rfl
theorem dX4_init_70 : dc cX4_init 70 71 (.aload_n 0) 1 := o_42 ob_X4_init rfl rfl rfl
theorem dX4_init_71 : dc cX4_init 71 74 (.new 9) 3 := o_187 ob_X4_init rfl rfl rfl rfl
theorem dX4_init_74 : dc cX4_init 74 75 .dup 1 := o_89 ob_X4_init rfl rfl rfl
theorem dX4_init_75 : dc cX4_init 75 77 (.bipush 10) 2 := o_16 ob_X4_init rfl rfl rfl rfl
theorem dX4_init_77 : dc cX4_init 77 80 (.invokespecial 11) 3 := o_183 ob_X4_init rfl rfl rfl rfl
theorem dX4_init_80 : dc cX4_init 80 83 (.putfield 42) 3 := o_181 ob_X4_init rfl rfl rfl rfl
theorem dX4_init_83 : dc cX4_init 83 84 (.aload_n 0) 1 := o_42 ob_X4_init rfl rfl rfl
theorem dX4_init_84 : dc cX4_init 84 85 (.aload_n 1) 1 := o_43 ob_X4_init rfl rfl rfl
theorem dX4_init_85 : dc cX4_init 85 88 (.putfield 45) 3 := o_181 ob_X4_init rfl rfl rfl rfl
theorem dX4_init_88 : dc cX4_init 88 89 .return_ 1 := o_177 ob_X4_init rfl rfl rfl
def FI_Day_68 (M : Mem) : Mem := (mSI ((mSI ((FI_Row_77 ((mSI ((FI_Row_75 ((mSI ((FI_Row_73 ((mSI ((mSL ((mSL ((mSI ((FI_Row_71 ((mSI ((FI_Row_69 M)) 68 1 1)))) 68 2 1)) 68 3 0)) 68 4 0)) 68 5 0)))) 68 6 1)))) 68 7 1)))) 68 8 1)) 68 0 1)
theorem FIk_Day_68 {M : Mem} {k : Nat} (h : k < 68) : (FI_Day_68 M).1 k = M.1 k := by
  unfold FI_Day_68
  rw [mSI_1ne (a := 68) (by omega), mSI_1ne (a := 68) (by omega), FIk_Row_77 (k := k) (by omega), mSI_1ne (a := 68) (by omega), FIk_Row_75 (k := k) (by omega), mSI_1ne (a := 68) (by omega), FIk_Row_73 (k := k) (by omega), mSI_1ne (a := 68) (by omega), mSL_1k, mSL_1k, mSI_1ne (a := 68) (by omega), FIk_Row_71 (k := k) (by omega), mSI_1ne (a := 68) (by omega), FIk_Row_69 (k := k) (by omega)]
theorem FrI_Day_68 {M : Mem} (hz : Fr 69 M) : Fr 79 (FI_Day_68 M) := by
  have hz := hz.mono (Nat.le_succ _)
  have hz := FrI_Row_69 hz
  have hz := hz.sI (k := 68) (j := 1) (v := 1) (Nat.le_of_ble_eq_true rfl)
  have hz := hz.mono (Nat.le_succ _)
  have hz := FrI_Row_71 hz
  have hz := hz.sI (k := 68) (j := 2) (v := 1) (Nat.le_of_ble_eq_true rfl)
  have hz := hz.sL (k := 68) (j := 3) (v := 0) (Nat.le_of_ble_eq_true rfl)
  have hz := hz.sL (k := 68) (j := 4) (v := 0) (Nat.le_of_ble_eq_true rfl)
  have hz := hz.sI (k := 68) (j := 5) (v := 0) (Nat.le_of_ble_eq_true rfl)
  have hz := hz.mono (Nat.le_succ _)
  have hz := FrI_Row_73 hz
  have hz := hz.sI (k := 68) (j := 6) (v := 1) (Nat.le_of_ble_eq_true rfl)
  have hz := hz.mono (Nat.le_succ _)
  have hz := FrI_Row_75 hz
  have hz := hz.sI (k := 68) (j := 7) (v := 1) (Nat.le_of_ble_eq_true rfl)
  have hz := hz.mono (Nat.le_succ _)
  have hz := FrI_Row_77 hz
  have hz := hz.sI (k := 68) (j := 8) (v := 1) (Nat.le_of_ble_eq_true rfl)
  have hz := hz.sI (k := 68) (j := 0) (v := 1) (Nat.le_of_ble_eq_true rfl)
  exact hz
set_option maxRecDepth 100000 in
set_option maxHeartbeats 4000000 in
theorem KI_Day_68 (l : Launch) (g : GB) (M : Mem) (hz : Fr 69 M) : CC l g yX4_init (.code yX4_init cX4_init 2 none :: wAll) { frames := 2, cells := 10, slots := 45, locals := 61 } [.ref (g.2.1 68), .ref (g.2.1 1)] 69 M 79 (FI_Day_68 M) := by
  refine CC.of [(0, .ref (g.2.1 68)), (1, .ref (g.2.1 1))] (by decide) (Nat.le_of_ble_eq_true rfl) rfl ?_
  intro p e s m args below meth c K hr hin
  refine GC_aload_n rfl 0 rfl K dX4_init_0 ?_
  refine GC_objInit K dX4_init_1 wd_279 wd_34 wd_35 (Nat.le_of_ble_eq_true rfl) (Nat.le_of_ble_eq_true rfl) ?_
  refine GC_aload_n rfl 0 rfl K dX4_init_4 ?_
  refine GC_new (ci := 7) tyX7 tyX7_ok K rfl in_X7 wd_280 wd_43 wd_3 dX4_init_5 rfl (Nat.le_of_ble_eq_true rfl) (frC_69 g _ hz) (fun j hj => by revert j; decide +kernel) (by decide) ?_
  have hz := hz.mono (Nat.le_succ _)
  refine GC_dup rfl K dX4_init_8 ?_
  refine GC_bipush (v := 9) rfl K dX4_init_9 ?_
  refine GC_callI (y := yX7_init) [.int 9] [.ref (g.2.1 69), .ref (g.2.1 68)] K dX4_init_11 wd_281 wd_45 wd_3 wd_46 rfl ydc_X7_init (by decide) (by decide) rfl (Nat.le_of_ble_eq_true rfl) rfl rfl (Nat.le_of_ble_eq_true rfl) (KI_Row_69 l g _ hz) ?_
  have hz := FrI_Row_69 hz
  refine GC_putFR (ci := 4) (k := 1) (ty := (.object "KeptWell$Row")) K rfl in_X4 tyX4 tyX4_ok nmX4 wd_283 rfl rfl hin rfl (by decide +kernel) rfl rfl dX4_init_14 (Nat.le_of_ble_eq_true rfl) (Nat.le_of_ble_eq_true rfl) (shC_68 g _) (shC_68 g _) (Nat.le_of_ble_eq_true rfl) (Nat.le_of_ble_eq_true rfl) (sC_68_1 g _) ?_
  have hz := hz.sI (k := 68) (j := 1) (v := 1) (Nat.le_of_ble_eq_true rfl)
  refine GC_aload_n rfl 0 rfl K dX4_init_17 ?_
  refine GC_new (ci := 7) tyX7 tyX7_ok K rfl in_X7 wd_280 wd_43 wd_3 dX4_init_18 rfl (Nat.le_of_ble_eq_true rfl) (frC_71 g _ hz) (fun j hj => by revert j; decide +kernel) (by decide) ?_
  have hz := hz.mono (Nat.le_succ _)
  refine GC_dup rfl K dX4_init_21 ?_
  refine GC_iconst (v := 3) rfl K dX4_init_22 ?_
  refine GC_callI (y := yX7_init) [.int 3] [.ref (g.2.1 71), .ref (g.2.1 68)] K dX4_init_23 wd_281 wd_45 wd_3 wd_46 rfl ydc_X7_init (by decide) (by decide) rfl (Nat.le_of_ble_eq_true rfl) rfl rfl (Nat.le_of_ble_eq_true rfl) (KI_Row_71 l g _ hz) ?_
  have hz := FrI_Row_71 hz
  refine GC_putFR (ci := 4) (k := 2) (ty := (.object "KeptWell$Row")) K rfl in_X4 tyX4 tyX4_ok nmX4 wd_284 rfl rfl hin rfl (by decide +kernel) rfl rfl dX4_init_26 (Nat.le_of_ble_eq_true rfl) (Nat.le_of_ble_eq_true rfl) (shC_68 g _) (shC_68 g _) (Nat.le_of_ble_eq_true rfl) (Nat.le_of_ble_eq_true rfl) (sC_68_2 g _) ?_
  have hz := hz.sI (k := 68) (j := 2) (v := 1) (Nat.le_of_ble_eq_true rfl)
  refine GC_aload_n rfl 0 rfl K dX4_init_29 ?_
  refine GC_lconst (v := 0) rfl K dX4_init_30 ?_
  refine GC_putL (ci := 4) (k := 3) (ty := .long) K rfl in_X4 tyX4 tyX4_ok nmX4 wd_285 rfl rfl (by decide +kernel) rfl rfl dX4_init_31 (Nat.le_of_ble_eq_true rfl) (Nat.le_of_ble_eq_true rfl) (shC_68 g _) (shC_68 g _) (Nat.le_of_ble_eq_true rfl) (Nat.le_of_ble_eq_true rfl) (sC_68_3 g _ _) ?_
  have hz := hz.sL (k := 68) (j := 3) (v := 0) (Nat.le_of_ble_eq_true rfl)
  refine GC_aload_n rfl 0 rfl K dX4_init_34 ?_
  refine GC_lconst (v := 0) rfl K dX4_init_35 ?_
  refine GC_putL (ci := 4) (k := 4) (ty := .long) K rfl in_X4 tyX4 tyX4_ok nmX4 wd_286 rfl rfl (by decide +kernel) rfl rfl dX4_init_36 (Nat.le_of_ble_eq_true rfl) (Nat.le_of_ble_eq_true rfl) (shC_68 g _) (shC_68 g _) (Nat.le_of_ble_eq_true rfl) (Nat.le_of_ble_eq_true rfl) (sC_68_4 g _ _) ?_
  have hz := hz.sL (k := 68) (j := 4) (v := 0) (Nat.le_of_ble_eq_true rfl)
  refine GC_aload_n rfl 0 rfl K dX4_init_39 ?_
  refine GC_iconst (v := 0) rfl K dX4_init_40 ?_
  refine GC_putI (ci := 4) (k := 5) (ty := .int) K rfl in_X4 tyX4 tyX4_ok nmX4 wd_287 rfl rfl (by decide +kernel) rfl rfl dX4_init_41 (Nat.le_of_ble_eq_true rfl) (Nat.le_of_ble_eq_true rfl) (shC_68 g _) (shC_68 g _) (Nat.le_of_ble_eq_true rfl) (Nat.le_of_ble_eq_true rfl) (sC_68_5 g _ _) ?_
  have hz := hz.sI (k := 68) (j := 5) (v := 0) (Nat.le_of_ble_eq_true rfl)
  refine GC_aload_n rfl 0 rfl K dX4_init_44 ?_
  refine GC_new (ci := 7) tyX7 tyX7_ok K rfl in_X7 wd_280 wd_43 wd_3 dX4_init_45 rfl (Nat.le_of_ble_eq_true rfl) (frC_73 g _ hz) (fun j hj => by revert j; decide +kernel) (by decide) ?_
  have hz := hz.mono (Nat.le_succ _)
  refine GC_dup rfl K dX4_init_48 ?_
  refine GC_bipush (v := 9) rfl K dX4_init_49 ?_
  refine GC_callI (y := yX7_init) [.int 9] [.ref (g.2.1 73), .ref (g.2.1 68)] K dX4_init_51 wd_281 wd_45 wd_3 wd_46 rfl ydc_X7_init (by decide) (by decide) rfl (Nat.le_of_ble_eq_true rfl) rfl rfl (Nat.le_of_ble_eq_true rfl) (KI_Row_73 l g _ hz) ?_
  have hz := FrI_Row_73 hz
  refine GC_putFR (ci := 4) (k := 6) (ty := (.object "KeptWell$Row")) K rfl in_X4 tyX4 tyX4_ok nmX4 wd_289 rfl rfl hin rfl (by decide +kernel) rfl rfl dX4_init_54 (Nat.le_of_ble_eq_true rfl) (Nat.le_of_ble_eq_true rfl) (shC_68 g _) (shC_68 g _) (Nat.le_of_ble_eq_true rfl) (Nat.le_of_ble_eq_true rfl) (sC_68_6 g _) ?_
  have hz := hz.sI (k := 68) (j := 6) (v := 1) (Nat.le_of_ble_eq_true rfl)
  refine GC_aload_n rfl 0 rfl K dX4_init_57 ?_
  refine GC_new (ci := 7) tyX7 tyX7_ok K rfl in_X7 wd_280 wd_43 wd_3 dX4_init_58 rfl (Nat.le_of_ble_eq_true rfl) (frC_75 g _ hz) (fun j hj => by revert j; decide +kernel) (by decide) ?_
  have hz := hz.mono (Nat.le_succ _)
  refine GC_dup rfl K dX4_init_61 ?_
  refine GC_bipush (v := 9) rfl K dX4_init_62 ?_
  refine GC_callI (y := yX7_init) [.int 9] [.ref (g.2.1 75), .ref (g.2.1 68)] K dX4_init_64 wd_281 wd_45 wd_3 wd_46 rfl ydc_X7_init (by decide) (by decide) rfl (Nat.le_of_ble_eq_true rfl) rfl rfl (Nat.le_of_ble_eq_true rfl) (KI_Row_75 l g _ hz) ?_
  have hz := FrI_Row_75 hz
  refine GC_putFR (ci := 4) (k := 7) (ty := (.object "KeptWell$Row")) K rfl in_X4 tyX4 tyX4_ok nmX4 wd_291 rfl rfl hin rfl (by decide +kernel) rfl rfl dX4_init_67 (Nat.le_of_ble_eq_true rfl) (Nat.le_of_ble_eq_true rfl) (shC_68 g _) (shC_68 g _) (Nat.le_of_ble_eq_true rfl) (Nat.le_of_ble_eq_true rfl) (sC_68_7 g _) ?_
  have hz := hz.sI (k := 68) (j := 7) (v := 1) (Nat.le_of_ble_eq_true rfl)
  refine GC_aload_n rfl 0 rfl K dX4_init_70 ?_
  refine GC_new (ci := 7) tyX7 tyX7_ok K rfl in_X7 wd_280 wd_43 wd_3 dX4_init_71 rfl (Nat.le_of_ble_eq_true rfl) (frC_77 g _ hz) (fun j hj => by revert j; decide +kernel) (by decide) ?_
  have hz := hz.mono (Nat.le_succ _)
  refine GC_dup rfl K dX4_init_74 ?_
  refine GC_bipush (v := 10) rfl K dX4_init_75 ?_
  refine GC_callI (y := yX7_init) [.int 10] [.ref (g.2.1 77), .ref (g.2.1 68)] K dX4_init_77 wd_281 wd_45 wd_3 wd_46 rfl ydc_X7_init (by decide) (by decide) rfl (Nat.le_of_ble_eq_true rfl) rfl rfl (Nat.le_of_ble_eq_true rfl) (KI_Row_77 l g _ hz) ?_
  have hz := FrI_Row_77 hz
  refine GC_putFR (ci := 4) (k := 8) (ty := (.object "KeptWell$Row")) K rfl in_X4 tyX4 tyX4_ok nmX4 wd_293 rfl rfl hin rfl (by decide +kernel) rfl rfl dX4_init_80 (Nat.le_of_ble_eq_true rfl) (Nat.le_of_ble_eq_true rfl) (shC_68 g _) (shC_68 g _) (Nat.le_of_ble_eq_true rfl) (Nat.le_of_ble_eq_true rfl) (sC_68_8 g _) ?_
  have hz := hz.sI (k := 68) (j := 8) (v := 1) (Nat.le_of_ble_eq_true rfl)
  refine GC_aload_n rfl 0 rfl K dX4_init_83 ?_
  refine GC_aload_n rfl 1 rfl K dX4_init_84 ?_
  refine GC_putFR (ci := 4) (k := 0) (ty := (.object "KeptWell$Well")) K rfl in_X4 tyX4 tyX4_ok nmX4 wd_282 rfl rfl hin rfl (by decide +kernel) rfl rfl dX4_init_85 (Nat.le_of_ble_eq_true rfl) (Nat.le_of_ble_eq_true rfl) (shC_68 g _) (shC_68 g _) (Nat.le_of_ble_eq_true rfl) (Nat.le_of_ble_eq_true rfl) (sC_68_0 g _) ?_
  have hz := hz.sI (k := 68) (j := 0) (v := 1) (Nat.le_of_ble_eq_true rfl)
  exact GC_vret K hr dX4_init_88 (Nat.le_of_ble_eq_true rfl) (Nat.le_of_ble_eq_true rfl) ⟨rfl, rfl⟩
theorem ydc_X4_init : ydN yX4_init 1 := ⟨by decide, by decide, by decide +kernel⟩
theorem sC_0_7 (g : GB) (M : Mem) : ([if M.1 0 0 = 0 then .null else .ref (g.2.1 1), if M.1 0 1 = 0 then .null else .ref (g.2.1 14), .int (M.1 0 2), if M.1 0 3 = 0 then .null else .ref (g.2.1 27), .int (M.1 0 4), if M.1 0 5 = 0 then .null else .ref (g.2.1 34), if M.1 0 6 = 0 then .null else .ref (g.2.1 52), if M.1 0 7 = 0 then .null else .ref (g.2.1 68), if M.1 0 8 = 0 then .null else .ref (g.2.1 79), if M.1 0 9 = 0 then .null else .ref (g.2.1 80), if M.1 0 10 = 0 then .null else .ref (g.2.1 91), if M.1 0 11 = 0 then .null else .ref (g.2.1 93)] : List Value).set 7 (.ref (g.2.1 68)) = [if (mSI M 0 7 1).1 0 0 = 0 then .null else .ref (g.2.1 1), if (mSI M 0 7 1).1 0 1 = 0 then .null else .ref (g.2.1 14), .int ((mSI M 0 7 1).1 0 2), if (mSI M 0 7 1).1 0 3 = 0 then .null else .ref (g.2.1 27), .int ((mSI M 0 7 1).1 0 4), if (mSI M 0 7 1).1 0 5 = 0 then .null else .ref (g.2.1 34), if (mSI M 0 7 1).1 0 6 = 0 then .null else .ref (g.2.1 52), if (mSI M 0 7 1).1 0 7 = 0 then .null else .ref (g.2.1 68), if (mSI M 0 7 1).1 0 8 = 0 then .null else .ref (g.2.1 79), if (mSI M 0 7 1).1 0 9 = 0 then .null else .ref (g.2.1 80), if (mSI M 0 7 1).1 0 10 = 0 then .null else .ref (g.2.1 91), if (mSI M 0 7 1).1 0 11 = 0 then .null else .ref (g.2.1 93)] := by first | (simp [mSI, mSL, upd, vp_updL]; done) | rfl
theorem sC_79_1 (g : GB) (M : Mem) (v : Int32) : ([if M.1 79 0 = 0 then .null else .ref (g.2.1 1), .int (M.1 79 1), .int (M.1 79 2), .int (M.1 79 3), .int (M.1 79 4), .int (M.1 79 5)] : List Value).set 1 (.int v) = [if (mSI M 79 1 v).1 79 0 = 0 then .null else .ref (g.2.1 1), .int ((mSI M 79 1 v).1 79 1), .int ((mSI M 79 1 v).1 79 2), .int ((mSI M 79 1 v).1 79 3), .int ((mSI M 79 1 v).1 79 4), .int ((mSI M 79 1 v).1 79 5)] := by first | (simp [mSI, mSL, upd, vp_updL]; done) | rfl
theorem sC_79_2 (g : GB) (M : Mem) (v : Int32) : ([if M.1 79 0 = 0 then .null else .ref (g.2.1 1), .int (M.1 79 1), .int (M.1 79 2), .int (M.1 79 3), .int (M.1 79 4), .int (M.1 79 5)] : List Value).set 2 (.int v) = [if (mSI M 79 2 v).1 79 0 = 0 then .null else .ref (g.2.1 1), .int ((mSI M 79 2 v).1 79 1), .int ((mSI M 79 2 v).1 79 2), .int ((mSI M 79 2 v).1 79 3), .int ((mSI M 79 2 v).1 79 4), .int ((mSI M 79 2 v).1 79 5)] := by first | (simp [mSI, mSL, upd, vp_updL]; done) | rfl
theorem sC_79_3 (g : GB) (M : Mem) (v : Int32) : ([if M.1 79 0 = 0 then .null else .ref (g.2.1 1), .int (M.1 79 1), .int (M.1 79 2), .int (M.1 79 3), .int (M.1 79 4), .int (M.1 79 5)] : List Value).set 3 (.int v) = [if (mSI M 79 3 v).1 79 0 = 0 then .null else .ref (g.2.1 1), .int ((mSI M 79 3 v).1 79 1), .int ((mSI M 79 3 v).1 79 2), .int ((mSI M 79 3 v).1 79 3), .int ((mSI M 79 3 v).1 79 4), .int ((mSI M 79 3 v).1 79 5)] := by first | (simp [mSI, mSL, upd, vp_updL]; done) | rfl
theorem sC_79_4 (g : GB) (M : Mem) (v : Int32) : ([if M.1 79 0 = 0 then .null else .ref (g.2.1 1), .int (M.1 79 1), .int (M.1 79 2), .int (M.1 79 3), .int (M.1 79 4), .int (M.1 79 5)] : List Value).set 4 (.int v) = [if (mSI M 79 4 v).1 79 0 = 0 then .null else .ref (g.2.1 1), .int ((mSI M 79 4 v).1 79 1), .int ((mSI M 79 4 v).1 79 2), .int ((mSI M 79 4 v).1 79 3), .int ((mSI M 79 4 v).1 79 4), .int ((mSI M 79 4 v).1 79 5)] := by first | (simp [mSI, mSL, upd, vp_updL]; done) | rfl
theorem sC_79_5 (g : GB) (M : Mem) (v : Int32) : ([if M.1 79 0 = 0 then .null else .ref (g.2.1 1), .int (M.1 79 1), .int (M.1 79 2), .int (M.1 79 3), .int (M.1 79 4), .int (M.1 79 5)] : List Value).set 5 (.int v) = [if (mSI M 79 5 v).1 79 0 = 0 then .null else .ref (g.2.1 1), .int ((mSI M 79 5 v).1 79 1), .int ((mSI M 79 5 v).1 79 2), .int ((mSI M 79 5 v).1 79 3), .int ((mSI M 79 5 v).1 79 4), .int ((mSI M 79 5 v).1 79 5)] := by first | (simp [mSI, mSL, upd, vp_updL]; done) | rfl
theorem sC_79_0 (g : GB) (M : Mem) : ([if M.1 79 0 = 0 then .null else .ref (g.2.1 1), .int (M.1 79 1), .int (M.1 79 2), .int (M.1 79 3), .int (M.1 79 4), .int (M.1 79 5)] : List Value).set 0 (.ref (g.2.1 1)) = [if (mSI M 79 0 1).1 79 0 = 0 then .null else .ref (g.2.1 1), .int ((mSI M 79 0 1).1 79 1), .int ((mSI M 79 0 1).1 79 2), .int ((mSI M 79 0 1).1 79 3), .int ((mSI M 79 0 1).1 79 4), .int ((mSI M 79 0 1).1 79 5)] := by first | (simp [mSI, mSL, upd, vp_updL]; done) | rfl
def on_X9_init : Nat := 0xb11b00b52b2a1800b5032a1500b5032a1200b5032a0f00b5032a0900b5032a0300b72a
theorem ob_X9_init : OKB cX9_init on_X9_init 35 := ⟨by decide +kernel, by decide +kernel⟩
theorem dX9_init_0 : dc cX9_init 0 1 (.aload_n 0) 1 := o_42 ob_X9_init rfl rfl rfl
theorem dX9_init_1 : dc cX9_init 1 4 (.invokespecial 3) 3 := o_183 ob_X9_init rfl rfl rfl rfl
theorem dX9_init_4 : dc cX9_init 4 5 (.aload_n 0) 1 := o_42 ob_X9_init rfl rfl rfl
theorem dX9_init_5 : dc cX9_init 5 6 (.iconst 0) 1 := o_3 ob_X9_init rfl rfl rfl
theorem dX9_init_6 : dc cX9_init 6 9 (.putfield 9) 3 := o_181 ob_X9_init rfl rfl rfl rfl
theorem dX9_init_9 : dc cX9_init 9 10 (.aload_n 0) 1 := o_42 ob_X9_init rfl rfl rfl
theorem dX9_init_10 : dc cX9_init 10 11 (.iconst 0) 1 := o_3 ob_X9_init rfl rfl rfl
theorem dX9_init_11 : dc cX9_init 11 14 (.putfield 15) 3 := o_181 ob_X9_init rfl rfl rfl rfl
theorem dX9_init_14 : dc cX9_init 14 15 (.aload_n 0) 1 := o_42 ob_X9_init rfl rfl rfl
theorem dX9_init_15 : dc cX9_init 15 16 (.iconst 0) 1 := o_3 ob_X9_init rfl rfl rfl
theorem dX9_init_16 : dc cX9_init 16 19 (.putfield 18) 3 := o_181 ob_X9_init rfl rfl rfl rfl
theorem dX9_init_19 : dc cX9_init 19 20 (.aload_n 0) 1 := o_42 ob_X9_init rfl rfl rfl
theorem dX9_init_20 : dc cX9_init 20 21 (.iconst 0) 1 := o_3 ob_X9_init rfl rfl rfl
theorem dX9_init_21 : dc cX9_init 21 24 (.putfield 21) 3 := o_181 ob_X9_init rfl rfl rfl rfl
theorem dX9_init_24 : dc cX9_init 24 25 (.aload_n 0) 1 := o_42 ob_X9_init rfl rfl rfl
theorem dX9_init_25 : dc cX9_init 25 26 (.iconst 0) 1 := o_3 ob_X9_init rfl rfl rfl
theorem dX9_init_26 : dc cX9_init 26 29 (.putfield 24) 3 := o_181 ob_X9_init rfl rfl rfl rfl
theorem dX9_init_29 : dc cX9_init 29 30 (.aload_n 0) 1 := o_42 ob_X9_init rfl rfl rfl
theorem dX9_init_30 : dc cX9_init 30 31 (.aload_n 1) 1 := o_43 ob_X9_init rfl rfl rfl
theorem dX9_init_31 : dc cX9_init 31 34 (.putfield 27) 3 := o_181 ob_X9_init rfl rfl rfl rfl
theorem dX9_init_34 : dc cX9_init 34 35 .return_ 1 := o_177 ob_X9_init rfl rfl rfl
def FI_Walk_79 (M : Mem) : Mem := (mSI ((mSI ((mSI ((mSI ((mSI ((mSI M 79 1 0)) 79 2 0)) 79 3 0)) 79 4 0)) 79 5 0)) 79 0 1)
theorem FIk_Walk_79 {M : Mem} {k : Nat} (h : k < 79) : (FI_Walk_79 M).1 k = M.1 k := by
  unfold FI_Walk_79
  rw [mSI_1ne (a := 79) (by omega), mSI_1ne (a := 79) (by omega), mSI_1ne (a := 79) (by omega), mSI_1ne (a := 79) (by omega), mSI_1ne (a := 79) (by omega), mSI_1ne (a := 79) (by omega)]
theorem FrI_Walk_79 {M : Mem} (hz : Fr 80 M) : Fr 80 (FI_Walk_79 M) := by
  have hz := hz.sI (k := 79) (j := 1) (v := 0) (Nat.le_of_ble_eq_true rfl)
  have hz := hz.sI (k := 79) (j := 2) (v := 0) (Nat.le_of_ble_eq_true rfl)
  have hz := hz.sI (k := 79) (j := 3) (v := 0) (Nat.le_of_ble_eq_true rfl)
  have hz := hz.sI (k := 79) (j := 4) (v := 0) (Nat.le_of_ble_eq_true rfl)
  have hz := hz.sI (k := 79) (j := 5) (v := 0) (Nat.le_of_ble_eq_true rfl)
  have hz := hz.sI (k := 79) (j := 0) (v := 1) (Nat.le_of_ble_eq_true rfl)
  exact hz
set_option maxRecDepth 100000 in
set_option maxHeartbeats 4000000 in
theorem KI_Walk_79 (l : Launch) (g : GB) (M : Mem) (hz : Fr 80 M) : CC l g yX9_init (.code yX9_init cX9_init 2 none :: wAll) { frames := 1, cells := 0, slots := 0, locals := 12 } [.ref (g.2.1 79), .ref (g.2.1 1)] 80 M 80 (FI_Walk_79 M) := by
  refine CC.of [(0, .ref (g.2.1 79)), (1, .ref (g.2.1 1))] (by decide) (Nat.le_of_ble_eq_true rfl) rfl ?_
  intro p e s m args below meth c K hr hin
  refine GC_aload_n rfl 0 rfl K dX9_init_0 ?_
  refine GC_objInit K dX9_init_1 wd_318 wd_34 wd_35 (Nat.le_of_ble_eq_true rfl) (Nat.le_of_ble_eq_true rfl) ?_
  refine GC_aload_n rfl 0 rfl K dX9_init_4 ?_
  refine GC_iconst (v := 0) rfl K dX9_init_5 ?_
  refine GC_putI (ci := 9) (k := 1) (ty := .int) K rfl in_X9 tyX9 tyX9_ok nmX9 wd_320 rfl rfl (by decide +kernel) rfl rfl dX9_init_6 (Nat.le_of_ble_eq_true rfl) (Nat.le_of_ble_eq_true rfl) (shC_79 g _) (shC_79 g _) (Nat.le_of_ble_eq_true rfl) (Nat.le_of_ble_eq_true rfl) (sC_79_1 g _ _) ?_
  have hz := hz.sI (k := 79) (j := 1) (v := 0) (Nat.le_of_ble_eq_true rfl)
  refine GC_aload_n rfl 0 rfl K dX9_init_9 ?_
  refine GC_iconst (v := 0) rfl K dX9_init_10 ?_
  refine GC_putI (ci := 9) (k := 2) (ty := .int) K rfl in_X9 tyX9 tyX9_ok nmX9 wd_321 rfl rfl (by decide +kernel) rfl rfl dX9_init_11 (Nat.le_of_ble_eq_true rfl) (Nat.le_of_ble_eq_true rfl) (shC_79 g _) (shC_79 g _) (Nat.le_of_ble_eq_true rfl) (Nat.le_of_ble_eq_true rfl) (sC_79_2 g _ _) ?_
  have hz := hz.sI (k := 79) (j := 2) (v := 0) (Nat.le_of_ble_eq_true rfl)
  refine GC_aload_n rfl 0 rfl K dX9_init_14 ?_
  refine GC_iconst (v := 0) rfl K dX9_init_15 ?_
  refine GC_putI (ci := 9) (k := 3) (ty := .int) K rfl in_X9 tyX9 tyX9_ok nmX9 wd_322 rfl rfl (by decide +kernel) rfl rfl dX9_init_16 (Nat.le_of_ble_eq_true rfl) (Nat.le_of_ble_eq_true rfl) (shC_79 g _) (shC_79 g _) (Nat.le_of_ble_eq_true rfl) (Nat.le_of_ble_eq_true rfl) (sC_79_3 g _ _) ?_
  have hz := hz.sI (k := 79) (j := 3) (v := 0) (Nat.le_of_ble_eq_true rfl)
  refine GC_aload_n rfl 0 rfl K dX9_init_19 ?_
  refine GC_iconst (v := 0) rfl K dX9_init_20 ?_
  refine GC_putI (ci := 9) (k := 4) (ty := .int) K rfl in_X9 tyX9 tyX9_ok nmX9 wd_323 rfl rfl (by decide +kernel) rfl rfl dX9_init_21 (Nat.le_of_ble_eq_true rfl) (Nat.le_of_ble_eq_true rfl) (shC_79 g _) (shC_79 g _) (Nat.le_of_ble_eq_true rfl) (Nat.le_of_ble_eq_true rfl) (sC_79_4 g _ _) ?_
  have hz := hz.sI (k := 79) (j := 4) (v := 0) (Nat.le_of_ble_eq_true rfl)
  refine GC_aload_n rfl 0 rfl K dX9_init_24 ?_
  refine GC_iconst (v := 0) rfl K dX9_init_25 ?_
  refine GC_putI (ci := 9) (k := 5) (ty := .int) K rfl in_X9 tyX9 tyX9_ok nmX9 wd_324 rfl rfl (by decide +kernel) rfl rfl dX9_init_26 (Nat.le_of_ble_eq_true rfl) (Nat.le_of_ble_eq_true rfl) (shC_79 g _) (shC_79 g _) (Nat.le_of_ble_eq_true rfl) (Nat.le_of_ble_eq_true rfl) (sC_79_5 g _ _) ?_
  have hz := hz.sI (k := 79) (j := 5) (v := 0) (Nat.le_of_ble_eq_true rfl)
  refine GC_aload_n rfl 0 rfl K dX9_init_29 ?_
  refine GC_aload_n rfl 1 rfl K dX9_init_30 ?_
  refine GC_putFR (ci := 9) (k := 0) (ty := (.object "KeptWell$Well")) K rfl in_X9 tyX9 tyX9_ok nmX9 wd_319 rfl rfl hin rfl (by decide +kernel) rfl rfl dX9_init_31 (Nat.le_of_ble_eq_true rfl) (Nat.le_of_ble_eq_true rfl) (shC_79 g _) (shC_79 g _) (Nat.le_of_ble_eq_true rfl) (Nat.le_of_ble_eq_true rfl) (sC_79_0 g _) ?_
  have hz := hz.sI (k := 79) (j := 0) (v := 1) (Nat.le_of_ble_eq_true rfl)
  exact GC_vret K hr dX9_init_34 (Nat.le_of_ble_eq_true rfl) (Nat.le_of_ble_eq_true rfl) ⟨rfl, rfl⟩
theorem ydc_X9_init : ydN yX9_init 1 := ⟨by decide, by decide, by decide +kernel⟩
theorem sC_0_8 (g : GB) (M : Mem) : ([if M.1 0 0 = 0 then .null else .ref (g.2.1 1), if M.1 0 1 = 0 then .null else .ref (g.2.1 14), .int (M.1 0 2), if M.1 0 3 = 0 then .null else .ref (g.2.1 27), .int (M.1 0 4), if M.1 0 5 = 0 then .null else .ref (g.2.1 34), if M.1 0 6 = 0 then .null else .ref (g.2.1 52), if M.1 0 7 = 0 then .null else .ref (g.2.1 68), if M.1 0 8 = 0 then .null else .ref (g.2.1 79), if M.1 0 9 = 0 then .null else .ref (g.2.1 80), if M.1 0 10 = 0 then .null else .ref (g.2.1 91), if M.1 0 11 = 0 then .null else .ref (g.2.1 93)] : List Value).set 8 (.ref (g.2.1 79)) = [if (mSI M 0 8 1).1 0 0 = 0 then .null else .ref (g.2.1 1), if (mSI M 0 8 1).1 0 1 = 0 then .null else .ref (g.2.1 14), .int ((mSI M 0 8 1).1 0 2), if (mSI M 0 8 1).1 0 3 = 0 then .null else .ref (g.2.1 27), .int ((mSI M 0 8 1).1 0 4), if (mSI M 0 8 1).1 0 5 = 0 then .null else .ref (g.2.1 34), if (mSI M 0 8 1).1 0 6 = 0 then .null else .ref (g.2.1 52), if (mSI M 0 8 1).1 0 7 = 0 then .null else .ref (g.2.1 68), if (mSI M 0 8 1).1 0 8 = 0 then .null else .ref (g.2.1 79), if (mSI M 0 8 1).1 0 9 = 0 then .null else .ref (g.2.1 80), if (mSI M 0 8 1).1 0 10 = 0 then .null else .ref (g.2.1 91), if (mSI M 0 8 1).1 0 11 = 0 then .null else .ref (g.2.1 93)] := by first | (simp [mSI, mSL, upd, vp_updL]; done) | rfl
theorem gC_0_8 (g : GB) (M : Mem) (h : M.1 0 8 = 1) : ([if M.1 0 0 = 0 then .null else .ref (g.2.1 1), if M.1 0 1 = 0 then .null else .ref (g.2.1 14), .int (M.1 0 2), if M.1 0 3 = 0 then .null else .ref (g.2.1 27), .int (M.1 0 4), if M.1 0 5 = 0 then .null else .ref (g.2.1 34), if M.1 0 6 = 0 then .null else .ref (g.2.1 52), if M.1 0 7 = 0 then .null else .ref (g.2.1 68), if M.1 0 8 = 0 then .null else .ref (g.2.1 79), if M.1 0 9 = 0 then .null else .ref (g.2.1 80), if M.1 0 10 = 0 then .null else .ref (g.2.1 91), if M.1 0 11 = 0 then .null else .ref (g.2.1 93)] : List Value)[8]? = some (.ref (g.2.1 79)) := by simp [h]
theorem sC_81_0 (g : GB) (M : Mem) : ([if M.1 81 0 = 0 then .null else .ref (g.2.1 82)] : List Value).set 0 (.ref (g.2.1 82)) = [if (mSI M 81 0 1).1 81 0 = 0 then .null else .ref (g.2.1 82)] := by first | (simp [mSI, mSL, upd, vp_updL]; done) | rfl
def FI_Row_81 (M : Mem) : Mem := (mSI M 81 0 1)
theorem FIk_Row_81 {M : Mem} {k : Nat} (h : k < 81) : (FI_Row_81 M).1 k = M.1 k := by
  unfold FI_Row_81
  rw [mSI_1ne (a := 81) (by omega)]
theorem FrI_Row_81 {M : Mem} (hz : Fr 82 M) : Fr 83 (FI_Row_81 M) := by
  have hz := hz.mono (Nat.le_succ _)
  have hz := hz.sI (k := 81) (j := 0) (v := 1) (Nat.le_of_ble_eq_true rfl)
  exact hz
set_option maxRecDepth 100000 in
set_option maxHeartbeats 4000000 in
theorem KI_Row_81 (l : Launch) (g : GB) (M : Mem) (hz : Fr 82 M) : CC l g yX7_init (.code yX7_init cX7_init 2 none :: wAll) { frames := 1, cells := 1, slots := 8, locals := 40 } [.ref (g.2.1 81), .int 8] 82 M 83 (FI_Row_81 M) := by
  refine CC.of [(0, .ref (g.2.1 81)), (1, .int 8)] (by decide) (Nat.le_of_ble_eq_true rfl) rfl ?_
  intro p e s m args below meth c K hr hin
  refine GC_aload_n rfl 0 rfl K dX7_init_0 ?_
  refine GC_objInit K dX7_init_1 wd_47 wd_34 wd_35 (Nat.le_of_ble_eq_true rfl) (Nat.le_of_ble_eq_true rfl) ?_
  refine GC_aload_n rfl 0 rfl K dX7_init_4 ?_
  refine GC_iload_n rfl 1 rfl K dX7_init_5 ?_
  refine GC_iconst (v := 0) rfl K dX7_init_6 ?_
  refine GC_max (v := 8) (by decide) K dX7_init_7 wd_48 wd_49 wd_4 wd_50 (Nat.le_of_ble_eq_true rfl) (Nat.le_of_ble_eq_true rfl) ⟨Nat.le_of_ble_eq_true rfl, Nat.le_of_ble_eq_true rfl⟩ ?_
  refine GC_newa_long (N := 8) K dX7_init_10 wd_55 (by decide) (by decide) (by decide) rfl (Nat.le_of_ble_eq_true rfl) (frC_82 g _ hz) (by decide) ?_
  have hz := hz.mono (Nat.le_succ _)
  refine GC_putFR (ci := 7) (k := 0) (ty := (.array .long)) K rfl in_X7 tyX7 tyX7_ok nmX7 wd_51 rfl rfl hin rfl (by decide +kernel) rfl rfl dX7_init_12 (Nat.le_of_ble_eq_true rfl) (Nat.le_of_ble_eq_true rfl) (shC_81 g _) (shC_81 g _) (Nat.le_of_ble_eq_true rfl) (Nat.le_of_ble_eq_true rfl) (sC_81_0 g _) ?_
  have hz := hz.sI (k := 81) (j := 0) (v := 1) (Nat.le_of_ble_eq_true rfl)
  exact GC_vret K hr dX7_init_15 (Nat.le_of_ble_eq_true rfl) (Nat.le_of_ble_eq_true rfl) ⟨rfl, rfl⟩
theorem sC_80_2 (g : GB) (M : Mem) : ([if M.1 80 0 = 0 then .null else .ref (g.2.1 1), if M.1 80 1 = 0 then .null else .ref (g.2.1 79), if M.1 80 2 = 0 then .null else .ref (g.2.1 81), if M.1 80 3 = 0 then .null else .ref (g.2.1 83), if M.1 80 4 = 0 then .null else .ref (g.2.1 85), if M.1 80 5 = 0 then .null else .ref (g.2.1 87), if M.1 80 6 = 0 then .null else .ref (g.2.1 89)] : List Value).set 2 (.ref (g.2.1 81)) = [if (mSI M 80 2 1).1 80 0 = 0 then .null else .ref (g.2.1 1), if (mSI M 80 2 1).1 80 1 = 0 then .null else .ref (g.2.1 79), if (mSI M 80 2 1).1 80 2 = 0 then .null else .ref (g.2.1 81), if (mSI M 80 2 1).1 80 3 = 0 then .null else .ref (g.2.1 83), if (mSI M 80 2 1).1 80 4 = 0 then .null else .ref (g.2.1 85), if (mSI M 80 2 1).1 80 5 = 0 then .null else .ref (g.2.1 87), if (mSI M 80 2 1).1 80 6 = 0 then .null else .ref (g.2.1 89)] := by first | (simp [mSI, mSL, upd, vp_updL]; done) | rfl
theorem sC_83_0 (g : GB) (M : Mem) : ([if M.1 83 0 = 0 then .null else .ref (g.2.1 84)] : List Value).set 0 (.ref (g.2.1 84)) = [if (mSI M 83 0 1).1 83 0 = 0 then .null else .ref (g.2.1 84)] := by first | (simp [mSI, mSL, upd, vp_updL]; done) | rfl
def FI_Row_83 (M : Mem) : Mem := (mSI M 83 0 1)
theorem FIk_Row_83 {M : Mem} {k : Nat} (h : k < 83) : (FI_Row_83 M).1 k = M.1 k := by
  unfold FI_Row_83
  rw [mSI_1ne (a := 83) (by omega)]
theorem FrI_Row_83 {M : Mem} (hz : Fr 84 M) : Fr 85 (FI_Row_83 M) := by
  have hz := hz.mono (Nat.le_succ _)
  have hz := hz.sI (k := 83) (j := 0) (v := 1) (Nat.le_of_ble_eq_true rfl)
  exact hz
set_option maxRecDepth 100000 in
set_option maxHeartbeats 4000000 in
theorem KI_Row_83 (l : Launch) (g : GB) (M : Mem) (hz : Fr 84 M) : CC l g yX7_init (.code yX7_init cX7_init 2 none :: wAll) { frames := 1, cells := 1, slots := 64, locals := 40 } [.ref (g.2.1 83), .int 64] 84 M 85 (FI_Row_83 M) := by
  refine CC.of [(0, .ref (g.2.1 83)), (1, .int 64)] (by decide) (Nat.le_of_ble_eq_true rfl) rfl ?_
  intro p e s m args below meth c K hr hin
  refine GC_aload_n rfl 0 rfl K dX7_init_0 ?_
  refine GC_objInit K dX7_init_1 wd_47 wd_34 wd_35 (Nat.le_of_ble_eq_true rfl) (Nat.le_of_ble_eq_true rfl) ?_
  refine GC_aload_n rfl 0 rfl K dX7_init_4 ?_
  refine GC_iload_n rfl 1 rfl K dX7_init_5 ?_
  refine GC_iconst (v := 0) rfl K dX7_init_6 ?_
  refine GC_max (v := 64) (by decide) K dX7_init_7 wd_48 wd_49 wd_4 wd_50 (Nat.le_of_ble_eq_true rfl) (Nat.le_of_ble_eq_true rfl) ⟨Nat.le_of_ble_eq_true rfl, Nat.le_of_ble_eq_true rfl⟩ ?_
  refine GC_newa_long (N := 64) K dX7_init_10 wd_55 (by decide) (by decide) (by decide) rfl (Nat.le_of_ble_eq_true rfl) (frC_84 g _ hz) (by decide) ?_
  have hz := hz.mono (Nat.le_succ _)
  refine GC_putFR (ci := 7) (k := 0) (ty := (.array .long)) K rfl in_X7 tyX7 tyX7_ok nmX7 wd_51 rfl rfl hin rfl (by decide +kernel) rfl rfl dX7_init_12 (Nat.le_of_ble_eq_true rfl) (Nat.le_of_ble_eq_true rfl) (shC_83 g _) (shC_83 g _) (Nat.le_of_ble_eq_true rfl) (Nat.le_of_ble_eq_true rfl) (sC_83_0 g _) ?_
  have hz := hz.sI (k := 83) (j := 0) (v := 1) (Nat.le_of_ble_eq_true rfl)
  exact GC_vret K hr dX7_init_15 (Nat.le_of_ble_eq_true rfl) (Nat.le_of_ble_eq_true rfl) ⟨rfl, rfl⟩
theorem sC_80_3 (g : GB) (M : Mem) : ([if M.1 80 0 = 0 then .null else .ref (g.2.1 1), if M.1 80 1 = 0 then .null else .ref (g.2.1 79), if M.1 80 2 = 0 then .null else .ref (g.2.1 81), if M.1 80 3 = 0 then .null else .ref (g.2.1 83), if M.1 80 4 = 0 then .null else .ref (g.2.1 85), if M.1 80 5 = 0 then .null else .ref (g.2.1 87), if M.1 80 6 = 0 then .null else .ref (g.2.1 89)] : List Value).set 3 (.ref (g.2.1 83)) = [if (mSI M 80 3 1).1 80 0 = 0 then .null else .ref (g.2.1 1), if (mSI M 80 3 1).1 80 1 = 0 then .null else .ref (g.2.1 79), if (mSI M 80 3 1).1 80 2 = 0 then .null else .ref (g.2.1 81), if (mSI M 80 3 1).1 80 3 = 0 then .null else .ref (g.2.1 83), if (mSI M 80 3 1).1 80 4 = 0 then .null else .ref (g.2.1 85), if (mSI M 80 3 1).1 80 5 = 0 then .null else .ref (g.2.1 87), if (mSI M 80 3 1).1 80 6 = 0 then .null else .ref (g.2.1 89)] := by first | (simp [mSI, mSL, upd, vp_updL]; done) | rfl
theorem sC_85_0 (g : GB) (M : Mem) : ([if M.1 85 0 = 0 then .null else .ref (g.2.1 86)] : List Value).set 0 (.ref (g.2.1 86)) = [if (mSI M 85 0 1).1 85 0 = 0 then .null else .ref (g.2.1 86)] := by first | (simp [mSI, mSL, upd, vp_updL]; done) | rfl
def FI_Row_85 (M : Mem) : Mem := (mSI M 85 0 1)
theorem FIk_Row_85 {M : Mem} {k : Nat} (h : k < 85) : (FI_Row_85 M).1 k = M.1 k := by
  unfold FI_Row_85
  rw [mSI_1ne (a := 85) (by omega)]
theorem FrI_Row_85 {M : Mem} (hz : Fr 86 M) : Fr 87 (FI_Row_85 M) := by
  have hz := hz.mono (Nat.le_succ _)
  have hz := hz.sI (k := 85) (j := 0) (v := 1) (Nat.le_of_ble_eq_true rfl)
  exact hz
set_option maxRecDepth 100000 in
set_option maxHeartbeats 4000000 in
theorem KI_Row_85 (l : Launch) (g : GB) (M : Mem) (hz : Fr 86 M) : CC l g yX7_init (.code yX7_init cX7_init 2 none :: wAll) { frames := 1, cells := 1, slots := 8, locals := 40 } [.ref (g.2.1 85), .int 8] 86 M 87 (FI_Row_85 M) := by
  refine CC.of [(0, .ref (g.2.1 85)), (1, .int 8)] (by decide) (Nat.le_of_ble_eq_true rfl) rfl ?_
  intro p e s m args below meth c K hr hin
  refine GC_aload_n rfl 0 rfl K dX7_init_0 ?_
  refine GC_objInit K dX7_init_1 wd_47 wd_34 wd_35 (Nat.le_of_ble_eq_true rfl) (Nat.le_of_ble_eq_true rfl) ?_
  refine GC_aload_n rfl 0 rfl K dX7_init_4 ?_
  refine GC_iload_n rfl 1 rfl K dX7_init_5 ?_
  refine GC_iconst (v := 0) rfl K dX7_init_6 ?_
  refine GC_max (v := 8) (by decide) K dX7_init_7 wd_48 wd_49 wd_4 wd_50 (Nat.le_of_ble_eq_true rfl) (Nat.le_of_ble_eq_true rfl) ⟨Nat.le_of_ble_eq_true rfl, Nat.le_of_ble_eq_true rfl⟩ ?_
  refine GC_newa_long (N := 8) K dX7_init_10 wd_55 (by decide) (by decide) (by decide) rfl (Nat.le_of_ble_eq_true rfl) (frC_86 g _ hz) (by decide) ?_
  have hz := hz.mono (Nat.le_succ _)
  refine GC_putFR (ci := 7) (k := 0) (ty := (.array .long)) K rfl in_X7 tyX7 tyX7_ok nmX7 wd_51 rfl rfl hin rfl (by decide +kernel) rfl rfl dX7_init_12 (Nat.le_of_ble_eq_true rfl) (Nat.le_of_ble_eq_true rfl) (shC_85 g _) (shC_85 g _) (Nat.le_of_ble_eq_true rfl) (Nat.le_of_ble_eq_true rfl) (sC_85_0 g _) ?_
  have hz := hz.sI (k := 85) (j := 0) (v := 1) (Nat.le_of_ble_eq_true rfl)
  exact GC_vret K hr dX7_init_15 (Nat.le_of_ble_eq_true rfl) (Nat.le_of_ble_eq_true rfl) ⟨rfl, rfl⟩
theorem sC_80_4 (g : GB) (M : Mem) : ([if M.1 80 0 = 0 then .null else .ref (g.2.1 1), if M.1 80 1 = 0 then .null else .ref (g.2.1 79), if M.1 80 2 = 0 then .null else .ref (g.2.1 81), if M.1 80 3 = 0 then .null else .ref (g.2.1 83), if M.1 80 4 = 0 then .null else .ref (g.2.1 85), if M.1 80 5 = 0 then .null else .ref (g.2.1 87), if M.1 80 6 = 0 then .null else .ref (g.2.1 89)] : List Value).set 4 (.ref (g.2.1 85)) = [if (mSI M 80 4 1).1 80 0 = 0 then .null else .ref (g.2.1 1), if (mSI M 80 4 1).1 80 1 = 0 then .null else .ref (g.2.1 79), if (mSI M 80 4 1).1 80 2 = 0 then .null else .ref (g.2.1 81), if (mSI M 80 4 1).1 80 3 = 0 then .null else .ref (g.2.1 83), if (mSI M 80 4 1).1 80 4 = 0 then .null else .ref (g.2.1 85), if (mSI M 80 4 1).1 80 5 = 0 then .null else .ref (g.2.1 87), if (mSI M 80 4 1).1 80 6 = 0 then .null else .ref (g.2.1 89)] := by first | (simp [mSI, mSL, upd, vp_updL]; done) | rfl
theorem sC_87_0 (g : GB) (M : Mem) : ([if M.1 87 0 = 0 then .null else .ref (g.2.1 88)] : List Value).set 0 (.ref (g.2.1 88)) = [if (mSI M 87 0 1).1 87 0 = 0 then .null else .ref (g.2.1 88)] := by first | (simp [mSI, mSL, upd, vp_updL]; done) | rfl
def FI_Row_87 (M : Mem) : Mem := (mSI M 87 0 1)
theorem FIk_Row_87 {M : Mem} {k : Nat} (h : k < 87) : (FI_Row_87 M).1 k = M.1 k := by
  unfold FI_Row_87
  rw [mSI_1ne (a := 87) (by omega)]
theorem FrI_Row_87 {M : Mem} (hz : Fr 88 M) : Fr 89 (FI_Row_87 M) := by
  have hz := hz.mono (Nat.le_succ _)
  have hz := hz.sI (k := 87) (j := 0) (v := 1) (Nat.le_of_ble_eq_true rfl)
  exact hz
set_option maxRecDepth 100000 in
set_option maxHeartbeats 4000000 in
theorem KI_Row_87 (l : Launch) (g : GB) (M : Mem) (hz : Fr 88 M) : CC l g yX7_init (.code yX7_init cX7_init 2 none :: wAll) { frames := 1, cells := 1, slots := 8, locals := 40 } [.ref (g.2.1 87), .int 8] 88 M 89 (FI_Row_87 M) := by
  refine CC.of [(0, .ref (g.2.1 87)), (1, .int 8)] (by decide) (Nat.le_of_ble_eq_true rfl) rfl ?_
  intro p e s m args below meth c K hr hin
  refine GC_aload_n rfl 0 rfl K dX7_init_0 ?_
  refine GC_objInit K dX7_init_1 wd_47 wd_34 wd_35 (Nat.le_of_ble_eq_true rfl) (Nat.le_of_ble_eq_true rfl) ?_
  refine GC_aload_n rfl 0 rfl K dX7_init_4 ?_
  refine GC_iload_n rfl 1 rfl K dX7_init_5 ?_
  refine GC_iconst (v := 0) rfl K dX7_init_6 ?_
  refine GC_max (v := 8) (by decide) K dX7_init_7 wd_48 wd_49 wd_4 wd_50 (Nat.le_of_ble_eq_true rfl) (Nat.le_of_ble_eq_true rfl) ⟨Nat.le_of_ble_eq_true rfl, Nat.le_of_ble_eq_true rfl⟩ ?_
  refine GC_newa_long (N := 8) K dX7_init_10 wd_55 (by decide) (by decide) (by decide) rfl (Nat.le_of_ble_eq_true rfl) (frC_88 g _ hz) (by decide) ?_
  have hz := hz.mono (Nat.le_succ _)
  refine GC_putFR (ci := 7) (k := 0) (ty := (.array .long)) K rfl in_X7 tyX7 tyX7_ok nmX7 wd_51 rfl rfl hin rfl (by decide +kernel) rfl rfl dX7_init_12 (Nat.le_of_ble_eq_true rfl) (Nat.le_of_ble_eq_true rfl) (shC_87 g _) (shC_87 g _) (Nat.le_of_ble_eq_true rfl) (Nat.le_of_ble_eq_true rfl) (sC_87_0 g _) ?_
  have hz := hz.sI (k := 87) (j := 0) (v := 1) (Nat.le_of_ble_eq_true rfl)
  exact GC_vret K hr dX7_init_15 (Nat.le_of_ble_eq_true rfl) (Nat.le_of_ble_eq_true rfl) ⟨rfl, rfl⟩
theorem sC_80_5 (g : GB) (M : Mem) : ([if M.1 80 0 = 0 then .null else .ref (g.2.1 1), if M.1 80 1 = 0 then .null else .ref (g.2.1 79), if M.1 80 2 = 0 then .null else .ref (g.2.1 81), if M.1 80 3 = 0 then .null else .ref (g.2.1 83), if M.1 80 4 = 0 then .null else .ref (g.2.1 85), if M.1 80 5 = 0 then .null else .ref (g.2.1 87), if M.1 80 6 = 0 then .null else .ref (g.2.1 89)] : List Value).set 5 (.ref (g.2.1 87)) = [if (mSI M 80 5 1).1 80 0 = 0 then .null else .ref (g.2.1 1), if (mSI M 80 5 1).1 80 1 = 0 then .null else .ref (g.2.1 79), if (mSI M 80 5 1).1 80 2 = 0 then .null else .ref (g.2.1 81), if (mSI M 80 5 1).1 80 3 = 0 then .null else .ref (g.2.1 83), if (mSI M 80 5 1).1 80 4 = 0 then .null else .ref (g.2.1 85), if (mSI M 80 5 1).1 80 5 = 0 then .null else .ref (g.2.1 87), if (mSI M 80 5 1).1 80 6 = 0 then .null else .ref (g.2.1 89)] := by first | (simp [mSI, mSL, upd, vp_updL]; done) | rfl
theorem sC_89_0 (g : GB) (M : Mem) : ([if M.1 89 0 = 0 then .null else .ref (g.2.1 90)] : List Value).set 0 (.ref (g.2.1 90)) = [if (mSI M 89 0 1).1 89 0 = 0 then .null else .ref (g.2.1 90)] := by first | (simp [mSI, mSL, upd, vp_updL]; done) | rfl
def FI_Row_89 (M : Mem) : Mem := (mSI M 89 0 1)
theorem FIk_Row_89 {M : Mem} {k : Nat} (h : k < 89) : (FI_Row_89 M).1 k = M.1 k := by
  unfold FI_Row_89
  rw [mSI_1ne (a := 89) (by omega)]
theorem FrI_Row_89 {M : Mem} (hz : Fr 90 M) : Fr 91 (FI_Row_89 M) := by
  have hz := hz.mono (Nat.le_succ _)
  have hz := hz.sI (k := 89) (j := 0) (v := 1) (Nat.le_of_ble_eq_true rfl)
  exact hz
set_option maxRecDepth 100000 in
set_option maxHeartbeats 4000000 in
theorem KI_Row_89 (l : Launch) (g : GB) (M : Mem) (hz : Fr 90 M) : CC l g yX7_init (.code yX7_init cX7_init 2 none :: wAll) { frames := 1, cells := 1, slots := 8, locals := 40 } [.ref (g.2.1 89), .int 8] 90 M 91 (FI_Row_89 M) := by
  refine CC.of [(0, .ref (g.2.1 89)), (1, .int 8)] (by decide) (Nat.le_of_ble_eq_true rfl) rfl ?_
  intro p e s m args below meth c K hr hin
  refine GC_aload_n rfl 0 rfl K dX7_init_0 ?_
  refine GC_objInit K dX7_init_1 wd_47 wd_34 wd_35 (Nat.le_of_ble_eq_true rfl) (Nat.le_of_ble_eq_true rfl) ?_
  refine GC_aload_n rfl 0 rfl K dX7_init_4 ?_
  refine GC_iload_n rfl 1 rfl K dX7_init_5 ?_
  refine GC_iconst (v := 0) rfl K dX7_init_6 ?_
  refine GC_max (v := 8) (by decide) K dX7_init_7 wd_48 wd_49 wd_4 wd_50 (Nat.le_of_ble_eq_true rfl) (Nat.le_of_ble_eq_true rfl) ⟨Nat.le_of_ble_eq_true rfl, Nat.le_of_ble_eq_true rfl⟩ ?_
  refine GC_newa_long (N := 8) K dX7_init_10 wd_55 (by decide) (by decide) (by decide) rfl (Nat.le_of_ble_eq_true rfl) (frC_90 g _ hz) (by decide) ?_
  have hz := hz.mono (Nat.le_succ _)
  refine GC_putFR (ci := 7) (k := 0) (ty := (.array .long)) K rfl in_X7 tyX7 tyX7_ok nmX7 wd_51 rfl rfl hin rfl (by decide +kernel) rfl rfl dX7_init_12 (Nat.le_of_ble_eq_true rfl) (Nat.le_of_ble_eq_true rfl) (shC_89 g _) (shC_89 g _) (Nat.le_of_ble_eq_true rfl) (Nat.le_of_ble_eq_true rfl) (sC_89_0 g _) ?_
  have hz := hz.sI (k := 89) (j := 0) (v := 1) (Nat.le_of_ble_eq_true rfl)
  exact GC_vret K hr dX7_init_15 (Nat.le_of_ble_eq_true rfl) (Nat.le_of_ble_eq_true rfl) ⟨rfl, rfl⟩
theorem sC_80_6 (g : GB) (M : Mem) : ([if M.1 80 0 = 0 then .null else .ref (g.2.1 1), if M.1 80 1 = 0 then .null else .ref (g.2.1 79), if M.1 80 2 = 0 then .null else .ref (g.2.1 81), if M.1 80 3 = 0 then .null else .ref (g.2.1 83), if M.1 80 4 = 0 then .null else .ref (g.2.1 85), if M.1 80 5 = 0 then .null else .ref (g.2.1 87), if M.1 80 6 = 0 then .null else .ref (g.2.1 89)] : List Value).set 6 (.ref (g.2.1 89)) = [if (mSI M 80 6 1).1 80 0 = 0 then .null else .ref (g.2.1 1), if (mSI M 80 6 1).1 80 1 = 0 then .null else .ref (g.2.1 79), if (mSI M 80 6 1).1 80 2 = 0 then .null else .ref (g.2.1 81), if (mSI M 80 6 1).1 80 3 = 0 then .null else .ref (g.2.1 83), if (mSI M 80 6 1).1 80 4 = 0 then .null else .ref (g.2.1 85), if (mSI M 80 6 1).1 80 5 = 0 then .null else .ref (g.2.1 87), if (mSI M 80 6 1).1 80 6 = 0 then .null else .ref (g.2.1 89)] := by first | (simp [mSI, mSL, upd, vp_updL]; done) | rfl
theorem sC_80_0 (g : GB) (M : Mem) : ([if M.1 80 0 = 0 then .null else .ref (g.2.1 1), if M.1 80 1 = 0 then .null else .ref (g.2.1 79), if M.1 80 2 = 0 then .null else .ref (g.2.1 81), if M.1 80 3 = 0 then .null else .ref (g.2.1 83), if M.1 80 4 = 0 then .null else .ref (g.2.1 85), if M.1 80 5 = 0 then .null else .ref (g.2.1 87), if M.1 80 6 = 0 then .null else .ref (g.2.1 89)] : List Value).set 0 (.ref (g.2.1 1)) = [if (mSI M 80 0 1).1 80 0 = 0 then .null else .ref (g.2.1 1), if (mSI M 80 0 1).1 80 1 = 0 then .null else .ref (g.2.1 79), if (mSI M 80 0 1).1 80 2 = 0 then .null else .ref (g.2.1 81), if (mSI M 80 0 1).1 80 3 = 0 then .null else .ref (g.2.1 83), if (mSI M 80 0 1).1 80 4 = 0 then .null else .ref (g.2.1 85), if (mSI M 80 0 1).1 80 5 = 0 then .null else .ref (g.2.1 87), if (mSI M 80 0 1).1 80 6 = 0 then .null else .ref (g.2.1 89)] := by first | (simp [mSI, mSL, upd, vp_updL]; done) | rfl
theorem sC_80_1 (g : GB) (M : Mem) : ([if M.1 80 0 = 0 then .null else .ref (g.2.1 1), if M.1 80 1 = 0 then .null else .ref (g.2.1 79), if M.1 80 2 = 0 then .null else .ref (g.2.1 81), if M.1 80 3 = 0 then .null else .ref (g.2.1 83), if M.1 80 4 = 0 then .null else .ref (g.2.1 85), if M.1 80 5 = 0 then .null else .ref (g.2.1 87), if M.1 80 6 = 0 then .null else .ref (g.2.1 89)] : List Value).set 1 (.ref (g.2.1 79)) = [if (mSI M 80 1 1).1 80 0 = 0 then .null else .ref (g.2.1 1), if (mSI M 80 1 1).1 80 1 = 0 then .null else .ref (g.2.1 79), if (mSI M 80 1 1).1 80 2 = 0 then .null else .ref (g.2.1 81), if (mSI M 80 1 1).1 80 3 = 0 then .null else .ref (g.2.1 83), if (mSI M 80 1 1).1 80 4 = 0 then .null else .ref (g.2.1 85), if (mSI M 80 1 1).1 80 5 = 0 then .null else .ref (g.2.1 87), if (mSI M 80 1 1).1 80 6 = 0 then .null else .ref (g.2.1 89)] := by first | (simp [mSI, mSL, upd, vp_updL]; done) | rfl
def on_X3_init : Nat := 0xb12600b52c2a2200b52b2a1f00b50d00b70810590900bb2a1c00b50d00b70810590900bb2a1900b50d00b70810590900bb2a1600b50d00b74010590900bb2a1000b50d00b70810590900bb2a0300b72a
theorem ob_X3_init : OKB cX3_init on_X3_init 80 := ⟨by decide +kernel, by decide +kernel⟩
theorem dX3_init_0 : dc cX3_init 0 1 (.aload_n 0) 1 := o_42 ob_X3_init rfl rfl rfl
theorem dX3_init_1 : dc cX3_init 1 4 (.invokespecial 3) 3 := o_183 ob_X3_init rfl rfl rfl rfl
theorem dX3_init_4 : dc cX3_init 4 5 (.aload_n 0) 1 := o_42 ob_X3_init rfl rfl rfl
theorem dX3_init_5 : dc cX3_init 5 8 (.new 9) 3 := o_187 ob_X3_init rfl rfl rfl rfl
theorem dX3_init_8 : dc cX3_init 8 9 .dup 1 := o_89 ob_X3_init rfl rfl rfl
theorem dX3_init_9 : dc cX3_init 9 11 (.bipush 8) 2 := o_16 ob_X3_init rfl rfl rfl rfl
theorem dX3_init_11 : dc cX3_init 11 14 (.invokespecial 13) 3 := o_183 ob_X3_init rfl rfl rfl rfl
theorem dX3_init_14 : dc cX3_init 14 17 (.putfield 16) 3 := o_181 ob_X3_init rfl rfl rfl rfl
theorem dX3_init_17 : dc cX3_init 17 18 (.aload_n 0) 1 := o_42 ob_X3_init rfl rfl rfl
theorem dX3_init_18 : dc cX3_init 18 21 (.new 9) 3 := o_187 ob_X3_init rfl rfl rfl rfl
theorem dX3_init_21 : dc cX3_init 21 22 .dup 1 := o_89 ob_X3_init rfl rfl rfl
theorem dX3_init_22 : dc cX3_init 22 24 (.bipush 64) 2 := o_16 ob_X3_init rfl rfl rfl rfl
theorem dX3_init_24 : dc cX3_init 24 27 (.invokespecial 13) 3 := o_183 ob_X3_init rfl rfl rfl rfl
theorem dX3_init_27 : dc cX3_init 27 30 (.putfield 22) 3 := o_181 ob_X3_init rfl rfl rfl rfl
theorem dX3_init_30 : dc cX3_init 30 31 (.aload_n 0) 1 := o_42 ob_X3_init rfl rfl rfl
theorem dX3_init_31 : dc cX3_init 31 34 (.new 9) 3 := o_187 ob_X3_init rfl rfl rfl rfl
theorem dX3_init_34 : dc cX3_init 34 35 .dup 1 := o_89 ob_X3_init rfl rfl rfl
theorem dX3_init_35 : dc cX3_init 35 37 (.bipush 8) 2 := o_16 ob_X3_init rfl rfl rfl rfl
theorem dX3_init_37 : dc cX3_init 37 40 (.invokespecial 13) 3 := o_183 ob_X3_init rfl rfl rfl rfl
theorem dX3_init_40 : dc cX3_init 40 43 (.putfield 25) 3 := o_181 ob_X3_init rfl rfl rfl rfl
theorem dX3_init_43 : dc cX3_init 43 44 (.aload_n 0) 1 := o_42 ob_X3_init rfl rfl rfl
theorem dX3_init_44 : dc cX3_init 44 47 (.new 9) 3 := o_187 ob_X3_init rfl rfl rfl rfl
theorem dX3_init_47 : dc cX3_init 47 48 .dup 1 := o_89 ob_X3_init rfl rfl rfl
theorem dX3_init_48 : dc cX3_init 48 50 (.bipush 8) 2 := o_16 ob_X3_init rfl rfl rfl rfl
theorem dX3_init_50 : dc cX3_init 50 53 (.invokespecial 13) 3 := o_183 ob_X3_init rfl rfl rfl rfl
theorem dX3_init_53 : dc cX3_init 53 56 (.putfield 28) 3 := o_181 ob_X3_init rfl rfl rfl rfl
theorem dX3_init_56 : dc cX3_init 56 57 (.aload_n 0) 1 := o_42 ob_X3_init rfl rfl rfl
theorem dX3_init_57 : dc cX3_init 57 60 (.new 9) 3 := o_187 ob_X3_init rfl rfl rfl rfl
theorem dX3_init_60 : dc cX3_init 60 61 .dup 1 := o_89 ob_X3_init rfl rfl rfl
theorem dX3_init_61 : dc cX3_init 61 63 (.bipush 8) 2 := o_16 ob_X3_init rfl rfl rfl rfl
theorem dX3_init_63 : dc cX3_init 63 66 (.invokespecial 13) 3 := o_183 ob_X3_init rfl rfl rfl rfl
theorem dX3_init_66 : dc cX3_init 66 69 (.putfield 31) 3 := o_181 ob_X3_init rfl rfl rfl rfl
theorem dX3_init_69 : dc cX3_init 69 70 (.aload_n 0) 1 := o_42 ob_X3_init rfl rfl rfl
theorem dX3_init_70 : dc cX3_init 70 71 (.aload_n 1) 1 := o_43 ob_X3_init rfl rfl rfl
theorem dX3_init_71 : dc cX3_init 71 74 (.putfield 34) 3 := o_181 ob_X3_init rfl rfl rfl rfl
theorem dX3_init_74 : dc cX3_init 74 75 (.aload_n 0) 1 := o_42 ob_X3_init rfl rfl rfl
theorem dX3_init_75 : dc cX3_init 75 76 (.aload_n 2) 1 := o_44 ob_X3_init rfl rfl rfl
theorem dX3_init_76 : dc cX3_init 76 79 (.putfield 38) 3 := o_181 ob_X3_init rfl rfl rfl rfl
theorem dX3_init_79 : dc cX3_init 79 80 .return_ 1 := o_177 ob_X3_init rfl rfl rfl
def FI_Crowd_80 (M : Mem) : Mem := (mSI ((mSI ((mSI ((FI_Row_89 ((mSI ((FI_Row_87 ((mSI ((FI_Row_85 ((mSI ((FI_Row_83 ((mSI ((FI_Row_81 M)) 80 2 1)))) 80 3 1)))) 80 4 1)))) 80 5 1)))) 80 6 1)) 80 0 1)) 80 1 1)
theorem FIk_Crowd_80 {M : Mem} {k : Nat} (h : k < 80) : (FI_Crowd_80 M).1 k = M.1 k := by
  unfold FI_Crowd_80
  rw [mSI_1ne (a := 80) (by omega), mSI_1ne (a := 80) (by omega), mSI_1ne (a := 80) (by omega), FIk_Row_89 (k := k) (by omega), mSI_1ne (a := 80) (by omega), FIk_Row_87 (k := k) (by omega), mSI_1ne (a := 80) (by omega), FIk_Row_85 (k := k) (by omega), mSI_1ne (a := 80) (by omega), FIk_Row_83 (k := k) (by omega), mSI_1ne (a := 80) (by omega), FIk_Row_81 (k := k) (by omega)]
theorem FrI_Crowd_80 {M : Mem} (hz : Fr 81 M) : Fr 91 (FI_Crowd_80 M) := by
  have hz := hz.mono (Nat.le_succ _)
  have hz := FrI_Row_81 hz
  have hz := hz.sI (k := 80) (j := 2) (v := 1) (Nat.le_of_ble_eq_true rfl)
  have hz := hz.mono (Nat.le_succ _)
  have hz := FrI_Row_83 hz
  have hz := hz.sI (k := 80) (j := 3) (v := 1) (Nat.le_of_ble_eq_true rfl)
  have hz := hz.mono (Nat.le_succ _)
  have hz := FrI_Row_85 hz
  have hz := hz.sI (k := 80) (j := 4) (v := 1) (Nat.le_of_ble_eq_true rfl)
  have hz := hz.mono (Nat.le_succ _)
  have hz := FrI_Row_87 hz
  have hz := hz.sI (k := 80) (j := 5) (v := 1) (Nat.le_of_ble_eq_true rfl)
  have hz := hz.mono (Nat.le_succ _)
  have hz := FrI_Row_89 hz
  have hz := hz.sI (k := 80) (j := 6) (v := 1) (Nat.le_of_ble_eq_true rfl)
  have hz := hz.sI (k := 80) (j := 0) (v := 1) (Nat.le_of_ble_eq_true rfl)
  have hz := hz.sI (k := 80) (j := 1) (v := 1) (Nat.le_of_ble_eq_true rfl)
  exact hz
set_option maxRecDepth 100000 in
set_option maxHeartbeats 4000000 in
theorem KI_Crowd_80 (l : Launch) (g : GB) (M : Mem) (hz : Fr 81 M) : CC l g yX3_init (.code yX3_init cX3_init 3 none :: wAll) { frames := 2, cells := 10, slots := 101, locals := 61 } [.ref (g.2.1 80), .ref (g.2.1 1), .ref (g.2.1 79)] 81 M 91 (FI_Crowd_80 M) := by
  refine CC.of [(0, .ref (g.2.1 80)), (1, .ref (g.2.1 1)), (2, .ref (g.2.1 79))] (by decide) (Nat.le_of_ble_eq_true rfl) rfl ?_
  intro p e s m args below meth c K hr hin
  refine GC_aload_n rfl 0 rfl K dX3_init_0 ?_
  refine GC_objInit K dX3_init_1 wd_343 wd_34 wd_35 (Nat.le_of_ble_eq_true rfl) (Nat.le_of_ble_eq_true rfl) ?_
  refine GC_aload_n rfl 0 rfl K dX3_init_4 ?_
  refine GC_new (ci := 7) tyX7 tyX7_ok K rfl in_X7 wd_344 wd_43 wd_3 dX3_init_5 rfl (Nat.le_of_ble_eq_true rfl) (frC_81 g _ hz) (fun j hj => by revert j; decide +kernel) (by decide) ?_
  have hz := hz.mono (Nat.le_succ _)
  refine GC_dup rfl K dX3_init_8 ?_
  refine GC_bipush (v := 8) rfl K dX3_init_9 ?_
  refine GC_callI (y := yX7_init) [.int 8] [.ref (g.2.1 81), .ref (g.2.1 80)] K dX3_init_11 wd_345 wd_45 wd_3 wd_46 rfl ydc_X7_init (by decide) (by decide) rfl (Nat.le_of_ble_eq_true rfl) rfl rfl (Nat.le_of_ble_eq_true rfl) (KI_Row_81 l g _ hz) ?_
  have hz := FrI_Row_81 hz
  refine GC_putFR (ci := 3) (k := 2) (ty := (.object "KeptWell$Row")) K rfl in_X3 tyX3 tyX3_ok nmX3 wd_348 rfl rfl hin rfl (by decide +kernel) rfl rfl dX3_init_14 (Nat.le_of_ble_eq_true rfl) (Nat.le_of_ble_eq_true rfl) (shC_80 g _) (shC_80 g _) (Nat.le_of_ble_eq_true rfl) (Nat.le_of_ble_eq_true rfl) (sC_80_2 g _) ?_
  have hz := hz.sI (k := 80) (j := 2) (v := 1) (Nat.le_of_ble_eq_true rfl)
  refine GC_aload_n rfl 0 rfl K dX3_init_17 ?_
  refine GC_new (ci := 7) tyX7 tyX7_ok K rfl in_X7 wd_344 wd_43 wd_3 dX3_init_18 rfl (Nat.le_of_ble_eq_true rfl) (frC_83 g _ hz) (fun j hj => by revert j; decide +kernel) (by decide) ?_
  have hz := hz.mono (Nat.le_succ _)
  refine GC_dup rfl K dX3_init_21 ?_
  refine GC_bipush (v := 64) rfl K dX3_init_22 ?_
  refine GC_callI (y := yX7_init) [.int 64] [.ref (g.2.1 83), .ref (g.2.1 80)] K dX3_init_24 wd_345 wd_45 wd_3 wd_46 rfl ydc_X7_init (by decide) (by decide) rfl (Nat.le_of_ble_eq_true rfl) rfl rfl (Nat.le_of_ble_eq_true rfl) (KI_Row_83 l g _ hz) ?_
  have hz := FrI_Row_83 hz
  refine GC_putFR (ci := 3) (k := 3) (ty := (.object "KeptWell$Row")) K rfl in_X3 tyX3 tyX3_ok nmX3 wd_349 rfl rfl hin rfl (by decide +kernel) rfl rfl dX3_init_27 (Nat.le_of_ble_eq_true rfl) (Nat.le_of_ble_eq_true rfl) (shC_80 g _) (shC_80 g _) (Nat.le_of_ble_eq_true rfl) (Nat.le_of_ble_eq_true rfl) (sC_80_3 g _) ?_
  have hz := hz.sI (k := 80) (j := 3) (v := 1) (Nat.le_of_ble_eq_true rfl)
  refine GC_aload_n rfl 0 rfl K dX3_init_30 ?_
  refine GC_new (ci := 7) tyX7 tyX7_ok K rfl in_X7 wd_344 wd_43 wd_3 dX3_init_31 rfl (Nat.le_of_ble_eq_true rfl) (frC_85 g _ hz) (fun j hj => by revert j; decide +kernel) (by decide) ?_
  have hz := hz.mono (Nat.le_succ _)
  refine GC_dup rfl K dX3_init_34 ?_
  refine GC_bipush (v := 8) rfl K dX3_init_35 ?_
  refine GC_callI (y := yX7_init) [.int 8] [.ref (g.2.1 85), .ref (g.2.1 80)] K dX3_init_37 wd_345 wd_45 wd_3 wd_46 rfl ydc_X7_init (by decide) (by decide) rfl (Nat.le_of_ble_eq_true rfl) rfl rfl (Nat.le_of_ble_eq_true rfl) (KI_Row_85 l g _ hz) ?_
  have hz := FrI_Row_85 hz
  refine GC_putFR (ci := 3) (k := 4) (ty := (.object "KeptWell$Row")) K rfl in_X3 tyX3 tyX3_ok nmX3 wd_350 rfl rfl hin rfl (by decide +kernel) rfl rfl dX3_init_40 (Nat.le_of_ble_eq_true rfl) (Nat.le_of_ble_eq_true rfl) (shC_80 g _) (shC_80 g _) (Nat.le_of_ble_eq_true rfl) (Nat.le_of_ble_eq_true rfl) (sC_80_4 g _) ?_
  have hz := hz.sI (k := 80) (j := 4) (v := 1) (Nat.le_of_ble_eq_true rfl)
  refine GC_aload_n rfl 0 rfl K dX3_init_43 ?_
  refine GC_new (ci := 7) tyX7 tyX7_ok K rfl in_X7 wd_344 wd_43 wd_3 dX3_init_44 rfl (Nat.le_of_ble_eq_true rfl) (frC_87 g _ hz) (fun j hj => by revert j; decide +kernel) (by decide) ?_
  have hz := hz.mono (Nat.le_succ _)
  refine GC_dup rfl K dX3_init_47 ?_
  refine GC_bipush (v := 8) rfl K dX3_init_48 ?_
  refine GC_callI (y := yX7_init) [.int 8] [.ref (g.2.1 87), .ref (g.2.1 80)] K dX3_init_50 wd_345 wd_45 wd_3 wd_46 rfl ydc_X7_init (by decide) (by decide) rfl (Nat.le_of_ble_eq_true rfl) rfl rfl (Nat.le_of_ble_eq_true rfl) (KI_Row_87 l g _ hz) ?_
  have hz := FrI_Row_87 hz
  refine GC_putFR (ci := 3) (k := 5) (ty := (.object "KeptWell$Row")) K rfl in_X3 tyX3 tyX3_ok nmX3 wd_351 rfl rfl hin rfl (by decide +kernel) rfl rfl dX3_init_53 (Nat.le_of_ble_eq_true rfl) (Nat.le_of_ble_eq_true rfl) (shC_80 g _) (shC_80 g _) (Nat.le_of_ble_eq_true rfl) (Nat.le_of_ble_eq_true rfl) (sC_80_5 g _) ?_
  have hz := hz.sI (k := 80) (j := 5) (v := 1) (Nat.le_of_ble_eq_true rfl)
  refine GC_aload_n rfl 0 rfl K dX3_init_56 ?_
  refine GC_new (ci := 7) tyX7 tyX7_ok K rfl in_X7 wd_344 wd_43 wd_3 dX3_init_57 rfl (Nat.le_of_ble_eq_true rfl) (frC_89 g _ hz) (fun j hj => by revert j; decide +kernel) (by decide) ?_
  have hz := hz.mono (Nat.le_succ _)
  refine GC_dup rfl K dX3_init_60 ?_
  refine GC_bipush (v := 8) rfl K dX3_init_61 ?_
  refine GC_callI (y := yX7_init) [.int 8] [.ref (g.2.1 89), .ref (g.2.1 80)] K dX3_init_63 wd_345 wd_45 wd_3 wd_46 rfl ydc_X7_init (by decide) (by decide) rfl (Nat.le_of_ble_eq_true rfl) rfl rfl (Nat.le_of_ble_eq_true rfl) (KI_Row_89 l g _ hz) ?_
  have hz := FrI_Row_89 hz
  refine GC_putFR (ci := 3) (k := 6) (ty := (.object "KeptWell$Row")) K rfl in_X3 tyX3 tyX3_ok nmX3 wd_352 rfl rfl hin rfl (by decide +kernel) rfl rfl dX3_init_66 (Nat.le_of_ble_eq_true rfl) (Nat.le_of_ble_eq_true rfl) (shC_80 g _) (shC_80 g _) (Nat.le_of_ble_eq_true rfl) (Nat.le_of_ble_eq_true rfl) (sC_80_6 g _) ?_
  have hz := hz.sI (k := 80) (j := 6) (v := 1) (Nat.le_of_ble_eq_true rfl)
  refine GC_aload_n rfl 0 rfl K dX3_init_69 ?_
  refine GC_aload_n rfl 1 rfl K dX3_init_70 ?_
  refine GC_putFR (ci := 3) (k := 0) (ty := (.object "KeptWell$Well")) K rfl in_X3 tyX3 tyX3_ok nmX3 wd_346 rfl rfl hin rfl (by decide +kernel) rfl rfl dX3_init_71 (Nat.le_of_ble_eq_true rfl) (Nat.le_of_ble_eq_true rfl) (shC_80 g _) (shC_80 g _) (Nat.le_of_ble_eq_true rfl) (Nat.le_of_ble_eq_true rfl) (sC_80_0 g _) ?_
  have hz := hz.sI (k := 80) (j := 0) (v := 1) (Nat.le_of_ble_eq_true rfl)
  refine GC_aload_n rfl 0 rfl K dX3_init_74 ?_
  refine GC_aload_n rfl 2 rfl K dX3_init_75 ?_
  refine GC_putFR (ci := 3) (k := 1) (ty := (.object "KeptWell$Walk")) K rfl in_X3 tyX3 tyX3_ok nmX3 wd_347 rfl rfl hin rfl (by decide +kernel) rfl rfl dX3_init_76 (Nat.le_of_ble_eq_true rfl) (Nat.le_of_ble_eq_true rfl) (shC_80 g _) (shC_80 g _) (Nat.le_of_ble_eq_true rfl) (Nat.le_of_ble_eq_true rfl) (sC_80_1 g _) ?_
  have hz := hz.sI (k := 80) (j := 1) (v := 1) (Nat.le_of_ble_eq_true rfl)
  exact GC_vret K hr dX3_init_79 (Nat.le_of_ble_eq_true rfl) (Nat.le_of_ble_eq_true rfl) ⟨rfl, rfl⟩
theorem ydc_X3_init : ydN yX3_init 2 := ⟨by decide, by decide, by decide +kernel⟩
theorem sC_0_9 (g : GB) (M : Mem) : ([if M.1 0 0 = 0 then .null else .ref (g.2.1 1), if M.1 0 1 = 0 then .null else .ref (g.2.1 14), .int (M.1 0 2), if M.1 0 3 = 0 then .null else .ref (g.2.1 27), .int (M.1 0 4), if M.1 0 5 = 0 then .null else .ref (g.2.1 34), if M.1 0 6 = 0 then .null else .ref (g.2.1 52), if M.1 0 7 = 0 then .null else .ref (g.2.1 68), if M.1 0 8 = 0 then .null else .ref (g.2.1 79), if M.1 0 9 = 0 then .null else .ref (g.2.1 80), if M.1 0 10 = 0 then .null else .ref (g.2.1 91), if M.1 0 11 = 0 then .null else .ref (g.2.1 93)] : List Value).set 9 (.ref (g.2.1 80)) = [if (mSI M 0 9 1).1 0 0 = 0 then .null else .ref (g.2.1 1), if (mSI M 0 9 1).1 0 1 = 0 then .null else .ref (g.2.1 14), .int ((mSI M 0 9 1).1 0 2), if (mSI M 0 9 1).1 0 3 = 0 then .null else .ref (g.2.1 27), .int ((mSI M 0 9 1).1 0 4), if (mSI M 0 9 1).1 0 5 = 0 then .null else .ref (g.2.1 34), if (mSI M 0 9 1).1 0 6 = 0 then .null else .ref (g.2.1 52), if (mSI M 0 9 1).1 0 7 = 0 then .null else .ref (g.2.1 68), if (mSI M 0 9 1).1 0 8 = 0 then .null else .ref (g.2.1 79), if (mSI M 0 9 1).1 0 9 = 0 then .null else .ref (g.2.1 80), if (mSI M 0 9 1).1 0 10 = 0 then .null else .ref (g.2.1 91), if (mSI M 0 9 1).1 0 11 = 0 then .null else .ref (g.2.1 93)] := by first | (simp [mSI, mSL, upd, vp_updL]; done) | rfl
theorem sC_92_0 (g : GB) (M : Mem) (v : Int64) : ([.long (M.2 92 0), .long (M.2 92 1)] : List Value).set 0 (.long v) = [.long ((mSL M 92 0 v).2 92 0), .long ((mSL M 92 0 v).2 92 1)] := by first | (simp [mSI, mSL, upd, vp_updL]; done) | rfl
theorem sC_92_1 (g : GB) (M : Mem) (v : Int64) : ([.long (M.2 92 0), .long (M.2 92 1)] : List Value).set 1 (.long v) = [.long ((mSL M 92 1 v).2 92 0), .long ((mSL M 92 1 v).2 92 1)] := by first | (simp [mSI, mSL, upd, vp_updL]; done) | rfl
def on_X5_init : Nat := 0xb10d00b50a2a0700b5092a0100b72a
theorem ob_X5_init : OKB cX5_init on_X5_init 15 := ⟨by decide +kernel, by decide +kernel⟩
theorem dX5_init_0 : dc cX5_init 0 1 (.aload_n 0) 1 := o_42 ob_X5_init rfl rfl rfl
theorem dX5_init_1 : dc cX5_init 1 4 (.invokespecial 1) 3 := o_183 ob_X5_init rfl rfl rfl rfl
theorem dX5_init_4 : dc cX5_init 4 5 (.aload_n 0) 1 := o_42 ob_X5_init rfl rfl rfl
theorem dX5_init_5 : dc cX5_init 5 6 (.lconst 0) 1 := o_9 ob_X5_init rfl rfl rfl
theorem dX5_init_6 : dc cX5_init 6 9 (.putfield 7) 3 := o_181 ob_X5_init rfl rfl rfl rfl
theorem dX5_init_9 : dc cX5_init 9 10 (.aload_n 0) 1 := o_42 ob_X5_init rfl rfl rfl
theorem dX5_init_10 : dc cX5_init 10 11 (.lconst 1) 1 := o_10 ob_X5_init rfl rfl rfl
theorem dX5_init_11 : dc cX5_init 11 14 (.putfield 13) 3 := o_181 ob_X5_init rfl rfl rfl rfl
theorem dX5_init_14 : dc cX5_init 14 15 .return_ 1 := o_177 ob_X5_init rfl rfl rfl
def FI_Fraction_92 (M : Mem) : Mem := (mSL ((mSL M 92 0 0)) 92 1 1)
theorem FIk_Fraction_92 {M : Mem} {k : Nat} (h : k < 92) : (FI_Fraction_92 M).1 k = M.1 k := by
  unfold FI_Fraction_92
  rw [mSL_1k, mSL_1k]
theorem FrI_Fraction_92 {M : Mem} (hz : Fr 93 M) : Fr 93 (FI_Fraction_92 M) := by
  have hz := hz.sL (k := 92) (j := 0) (v := 0) (Nat.le_of_ble_eq_true rfl)
  have hz := hz.sL (k := 92) (j := 1) (v := 1) (Nat.le_of_ble_eq_true rfl)
  exact hz
set_option maxRecDepth 100000 in
set_option maxHeartbeats 4000000 in
theorem KI_Fraction_92 (l : Launch) (g : GB) (M : Mem) (hz : Fr 93 M) : CC l g yX5_init (.code yX5_init cX5_init 1 none :: wAll) { frames := 1, cells := 0, slots := 0, locals := 12 } [.ref (g.2.1 92)] 93 M 93 (FI_Fraction_92 M) := by
  refine CC.of [(0, .ref (g.2.1 92))] (by decide) (Nat.le_of_ble_eq_true rfl) rfl ?_
  intro p e s m args below meth c K hr hin
  refine GC_aload_n rfl 0 rfl K dX5_init_0 ?_
  refine GC_objInit K dX5_init_1 wd_379 wd_34 wd_35 (Nat.le_of_ble_eq_true rfl) (Nat.le_of_ble_eq_true rfl) ?_
  refine GC_aload_n rfl 0 rfl K dX5_init_4 ?_
  refine GC_lconst (v := 0) rfl K dX5_init_5 ?_
  refine GC_putL (ci := 5) (k := 0) (ty := .long) K rfl in_X5 tyX5 tyX5_ok nmX5 wd_380 rfl rfl (by decide +kernel) rfl rfl dX5_init_6 (Nat.le_of_ble_eq_true rfl) (Nat.le_of_ble_eq_true rfl) (shC_92 g _) (shC_92 g _) (Nat.le_of_ble_eq_true rfl) (Nat.le_of_ble_eq_true rfl) (sC_92_0 g _ _) ?_
  have hz := hz.sL (k := 92) (j := 0) (v := 0) (Nat.le_of_ble_eq_true rfl)
  refine GC_aload_n rfl 0 rfl K dX5_init_9 ?_
  refine GC_lconst (v := 1) rfl K dX5_init_10 ?_
  refine GC_putL (ci := 5) (k := 1) (ty := .long) K rfl in_X5 tyX5 tyX5_ok nmX5 wd_384 rfl rfl (by decide +kernel) rfl rfl dX5_init_11 (Nat.le_of_ble_eq_true rfl) (Nat.le_of_ble_eq_true rfl) (shC_92 g _) (shC_92 g _) (Nat.le_of_ble_eq_true rfl) (Nat.le_of_ble_eq_true rfl) (sC_92_1 g _ _) ?_
  have hz := hz.sL (k := 92) (j := 1) (v := 1) (Nat.le_of_ble_eq_true rfl)
  exact GC_vret K hr dX5_init_14 (Nat.le_of_ble_eq_true rfl) (Nat.le_of_ble_eq_true rfl) ⟨rfl, rfl⟩
theorem ydc_X5_init : ydN yX5_init 0 := ⟨by decide, by decide, by decide +kernel⟩
theorem sC_91_1 (g : GB) (M : Mem) : ([if M.1 91 0 = 0 then .null else .ref (g.2.1 1), if M.1 91 1 = 0 then .null else .ref (g.2.1 92)] : List Value).set 1 (.ref (g.2.1 92)) = [if (mSI M 91 1 1).1 91 0 = 0 then .null else .ref (g.2.1 1), if (mSI M 91 1 1).1 91 1 = 0 then .null else .ref (g.2.1 92)] := by first | (simp [mSI, mSL, upd, vp_updL]; done) | rfl
theorem sC_91_0 (g : GB) (M : Mem) : ([if M.1 91 0 = 0 then .null else .ref (g.2.1 1), if M.1 91 1 = 0 then .null else .ref (g.2.1 92)] : List Value).set 0 (.ref (g.2.1 1)) = [if (mSI M 91 0 1).1 91 0 = 0 then .null else .ref (g.2.1 1), if (mSI M 91 0 1).1 91 1 = 0 then .null else .ref (g.2.1 92)] := by first | (simp [mSI, mSL, upd, vp_updL]; done) | rfl
def on_X1_init : Nat := 0xb11200b52b2a0c00b50b00b7590900bb2a0300b72a
theorem ob_X1_init : OKB cX1_init on_X1_init 21 := ⟨by decide +kernel, by decide +kernel⟩
theorem dX1_init_0 : dc cX1_init 0 1 (.aload_n 0) 1 := o_42 ob_X1_init rfl rfl rfl
theorem dX1_init_1 : dc cX1_init 1 4 (.invokespecial 3) 3 := o_183 ob_X1_init rfl rfl rfl rfl
theorem dX1_init_4 : dc cX1_init 4 5 (.aload_n 0) 1 := o_42 ob_X1_init rfl rfl rfl
theorem dX1_init_5 : dc cX1_init 5 8 (.new 9) 3 := o_187 ob_X1_init rfl rfl rfl rfl
theorem dX1_init_8 : dc cX1_init 8 9 .dup 1 := o_89 ob_X1_init rfl rfl rfl
theorem dX1_init_9 : dc cX1_init 9 12 (.invokespecial 11) 3 := o_183 ob_X1_init rfl rfl rfl rfl
theorem dX1_init_12 : dc cX1_init 12 15 (.putfield 12) 3 := o_181 ob_X1_init rfl rfl rfl rfl
theorem dX1_init_15 : dc cX1_init 15 16 (.aload_n 0) 1 := o_42 ob_X1_init rfl rfl rfl
theorem dX1_init_16 : dc cX1_init 16 17 (.aload_n 1) 1 := o_43 ob_X1_init rfl rfl rfl
theorem dX1_init_17 : dc cX1_init 17 20 (.putfield 18) 3 := o_181 ob_X1_init rfl rfl rfl rfl
theorem dX1_init_20 : dc cX1_init 20 21 .return_ 1 := o_177 ob_X1_init rfl rfl rfl
def FI_Bridge_91 (M : Mem) : Mem := (mSI ((mSI ((FI_Fraction_92 M)) 91 1 1)) 91 0 1)
theorem FIk_Bridge_91 {M : Mem} {k : Nat} (h : k < 91) : (FI_Bridge_91 M).1 k = M.1 k := by
  unfold FI_Bridge_91
  rw [mSI_1ne (a := 91) (by omega), mSI_1ne (a := 91) (by omega), FIk_Fraction_92 (k := k) (by omega)]
theorem FrI_Bridge_91 {M : Mem} (hz : Fr 92 M) : Fr 93 (FI_Bridge_91 M) := by
  have hz := hz.mono (Nat.le_succ _)
  have hz := FrI_Fraction_92 hz
  have hz := hz.sI (k := 91) (j := 1) (v := 1) (Nat.le_of_ble_eq_true rfl)
  have hz := hz.sI (k := 91) (j := 0) (v := 1) (Nat.le_of_ble_eq_true rfl)
  exact hz
set_option maxRecDepth 100000 in
set_option maxHeartbeats 4000000 in
theorem KI_Bridge_91 (l : Launch) (g : GB) (M : Mem) (hz : Fr 92 M) : CC l g yX1_init (.code yX1_init cX1_init 2 none :: wAll) { frames := 2, cells := 1, slots := 2, locals := 32 } [.ref (g.2.1 91), .ref (g.2.1 1)] 92 M 93 (FI_Bridge_91 M) := by
  refine CC.of [(0, .ref (g.2.1 91)), (1, .ref (g.2.1 1))] (by decide) (Nat.le_of_ble_eq_true rfl) rfl ?_
  intro p e s m args below meth c K hr hin
  refine GC_aload_n rfl 0 rfl K dX1_init_0 ?_
  refine GC_objInit K dX1_init_1 wd_373 wd_34 wd_35 (Nat.le_of_ble_eq_true rfl) (Nat.le_of_ble_eq_true rfl) ?_
  refine GC_aload_n rfl 0 rfl K dX1_init_4 ?_
  refine GC_new (ci := 5) tyX5 tyX5_ok K rfl in_X5 wd_374 wd_375 wd_13 dX1_init_5 rfl (Nat.le_of_ble_eq_true rfl) (frC_92 g _ hz) (fun j hj => by revert j; decide +kernel) (by decide) ?_
  have hz := hz.mono (Nat.le_succ _)
  refine GC_dup rfl K dX1_init_8 ?_
  refine GC_callIN (host := "KeptWell") (y := yX5_init) [] [.ref (g.2.1 92), .ref (g.2.1 91)] K dX1_init_9 (by decide +kernel) wd_377 wd_13 wd_378 rfl ydc_X5_init (by decide) (by decide) rfl (Nat.le_of_ble_eq_true rfl) rfl rfl (Nat.le_of_ble_eq_true rfl) (KI_Fraction_92 l g _ hz) ?_
  have hz := FrI_Fraction_92 hz
  refine GC_putFR (ci := 1) (k := 1) (ty := (.object "KeptWell$Fraction")) K rfl in_X1 tyX1 tyX1_ok nmX1 wd_394 rfl rfl hin rfl (by decide +kernel) rfl rfl dX1_init_12 (Nat.le_of_ble_eq_true rfl) (Nat.le_of_ble_eq_true rfl) (shC_91 g _) (shC_91 g _) (Nat.le_of_ble_eq_true rfl) (Nat.le_of_ble_eq_true rfl) (sC_91_1 g _) ?_
  have hz := hz.sI (k := 91) (j := 1) (v := 1) (Nat.le_of_ble_eq_true rfl)
  refine GC_aload_n rfl 0 rfl K dX1_init_15 ?_
  refine GC_aload_n rfl 1 rfl K dX1_init_16 ?_
  refine GC_putFR (ci := 1) (k := 0) (ty := (.object "KeptWell$Well")) K rfl in_X1 tyX1 tyX1_ok nmX1 wd_393 rfl rfl hin rfl (by decide +kernel) rfl rfl dX1_init_17 (Nat.le_of_ble_eq_true rfl) (Nat.le_of_ble_eq_true rfl) (shC_91 g _) (shC_91 g _) (Nat.le_of_ble_eq_true rfl) (Nat.le_of_ble_eq_true rfl) (sC_91_0 g _) ?_
  have hz := hz.sI (k := 91) (j := 0) (v := 1) (Nat.le_of_ble_eq_true rfl)
  exact GC_vret K hr dX1_init_20 (Nat.le_of_ble_eq_true rfl) (Nat.le_of_ble_eq_true rfl) ⟨rfl, rfl⟩
theorem ydc_X1_init : ydN yX1_init 1 := ⟨by decide, by decide, by decide +kernel⟩
theorem sC_0_10 (g : GB) (M : Mem) : ([if M.1 0 0 = 0 then .null else .ref (g.2.1 1), if M.1 0 1 = 0 then .null else .ref (g.2.1 14), .int (M.1 0 2), if M.1 0 3 = 0 then .null else .ref (g.2.1 27), .int (M.1 0 4), if M.1 0 5 = 0 then .null else .ref (g.2.1 34), if M.1 0 6 = 0 then .null else .ref (g.2.1 52), if M.1 0 7 = 0 then .null else .ref (g.2.1 68), if M.1 0 8 = 0 then .null else .ref (g.2.1 79), if M.1 0 9 = 0 then .null else .ref (g.2.1 80), if M.1 0 10 = 0 then .null else .ref (g.2.1 91), if M.1 0 11 = 0 then .null else .ref (g.2.1 93)] : List Value).set 10 (.ref (g.2.1 91)) = [if (mSI M 0 10 1).1 0 0 = 0 then .null else .ref (g.2.1 1), if (mSI M 0 10 1).1 0 1 = 0 then .null else .ref (g.2.1 14), .int ((mSI M 0 10 1).1 0 2), if (mSI M 0 10 1).1 0 3 = 0 then .null else .ref (g.2.1 27), .int ((mSI M 0 10 1).1 0 4), if (mSI M 0 10 1).1 0 5 = 0 then .null else .ref (g.2.1 34), if (mSI M 0 10 1).1 0 6 = 0 then .null else .ref (g.2.1 52), if (mSI M 0 10 1).1 0 7 = 0 then .null else .ref (g.2.1 68), if (mSI M 0 10 1).1 0 8 = 0 then .null else .ref (g.2.1 79), if (mSI M 0 10 1).1 0 9 = 0 then .null else .ref (g.2.1 80), if (mSI M 0 10 1).1 0 10 = 0 then .null else .ref (g.2.1 91), if (mSI M 0 10 1).1 0 11 = 0 then .null else .ref (g.2.1 93)] := by first | (simp [mSI, mSL, upd, vp_updL]; done) | rfl
theorem sC_93_0 (g : GB) (M : Mem) (v : Int64) : ([.long (M.2 93 0), .long (M.2 93 1)] : List Value).set 0 (.long v) = [.long ((mSL M 93 0 v).2 93 0), .long ((mSL M 93 0 v).2 93 1)] := by first | (simp [mSI, mSL, upd, vp_updL]; done) | rfl
theorem sC_93_1 (g : GB) (M : Mem) (v : Int64) : ([.long (M.2 93 0), .long (M.2 93 1)] : List Value).set 1 (.long v) = [.long ((mSL M 93 1 v).2 93 0), .long ((mSL M 93 1 v).2 93 1)] := by first | (simp [mSI, mSL, upd, vp_updL]; done) | rfl
def FI_Fraction_93 (M : Mem) : Mem := (mSL ((mSL M 93 0 0)) 93 1 1)
theorem FIk_Fraction_93 {M : Mem} {k : Nat} (h : k < 93) : (FI_Fraction_93 M).1 k = M.1 k := by
  unfold FI_Fraction_93
  rw [mSL_1k, mSL_1k]
theorem FrI_Fraction_93 {M : Mem} (hz : Fr 94 M) : Fr 94 (FI_Fraction_93 M) := by
  have hz := hz.sL (k := 93) (j := 0) (v := 0) (Nat.le_of_ble_eq_true rfl)
  have hz := hz.sL (k := 93) (j := 1) (v := 1) (Nat.le_of_ble_eq_true rfl)
  exact hz
set_option maxRecDepth 100000 in
set_option maxHeartbeats 4000000 in
theorem KI_Fraction_93 (l : Launch) (g : GB) (M : Mem) (hz : Fr 94 M) : CC l g yX5_init (.code yX5_init cX5_init 1 none :: wAll) { frames := 1, cells := 0, slots := 0, locals := 12 } [.ref (g.2.1 93)] 94 M 94 (FI_Fraction_93 M) := by
  refine CC.of [(0, .ref (g.2.1 93))] (by decide) (Nat.le_of_ble_eq_true rfl) rfl ?_
  intro p e s m args below meth c K hr hin
  refine GC_aload_n rfl 0 rfl K dX5_init_0 ?_
  refine GC_objInit K dX5_init_1 wd_379 wd_34 wd_35 (Nat.le_of_ble_eq_true rfl) (Nat.le_of_ble_eq_true rfl) ?_
  refine GC_aload_n rfl 0 rfl K dX5_init_4 ?_
  refine GC_lconst (v := 0) rfl K dX5_init_5 ?_
  refine GC_putL (ci := 5) (k := 0) (ty := .long) K rfl in_X5 tyX5 tyX5_ok nmX5 wd_380 rfl rfl (by decide +kernel) rfl rfl dX5_init_6 (Nat.le_of_ble_eq_true rfl) (Nat.le_of_ble_eq_true rfl) (shC_93 g _) (shC_93 g _) (Nat.le_of_ble_eq_true rfl) (Nat.le_of_ble_eq_true rfl) (sC_93_0 g _ _) ?_
  have hz := hz.sL (k := 93) (j := 0) (v := 0) (Nat.le_of_ble_eq_true rfl)
  refine GC_aload_n rfl 0 rfl K dX5_init_9 ?_
  refine GC_lconst (v := 1) rfl K dX5_init_10 ?_
  refine GC_putL (ci := 5) (k := 1) (ty := .long) K rfl in_X5 tyX5 tyX5_ok nmX5 wd_384 rfl rfl (by decide +kernel) rfl rfl dX5_init_11 (Nat.le_of_ble_eq_true rfl) (Nat.le_of_ble_eq_true rfl) (shC_93 g _) (shC_93 g _) (Nat.le_of_ble_eq_true rfl) (Nat.le_of_ble_eq_true rfl) (sC_93_1 g _ _) ?_
  have hz := hz.sL (k := 93) (j := 1) (v := 1) (Nat.le_of_ble_eq_true rfl)
  exact GC_vret K hr dX5_init_14 (Nat.le_of_ble_eq_true rfl) (Nat.le_of_ble_eq_true rfl) ⟨rfl, rfl⟩
theorem sC_0_11 (g : GB) (M : Mem) : ([if M.1 0 0 = 0 then .null else .ref (g.2.1 1), if M.1 0 1 = 0 then .null else .ref (g.2.1 14), .int (M.1 0 2), if M.1 0 3 = 0 then .null else .ref (g.2.1 27), .int (M.1 0 4), if M.1 0 5 = 0 then .null else .ref (g.2.1 34), if M.1 0 6 = 0 then .null else .ref (g.2.1 52), if M.1 0 7 = 0 then .null else .ref (g.2.1 68), if M.1 0 8 = 0 then .null else .ref (g.2.1 79), if M.1 0 9 = 0 then .null else .ref (g.2.1 80), if M.1 0 10 = 0 then .null else .ref (g.2.1 91), if M.1 0 11 = 0 then .null else .ref (g.2.1 93)] : List Value).set 11 (.ref (g.2.1 93)) = [if (mSI M 0 11 1).1 0 0 = 0 then .null else .ref (g.2.1 1), if (mSI M 0 11 1).1 0 1 = 0 then .null else .ref (g.2.1 14), .int ((mSI M 0 11 1).1 0 2), if (mSI M 0 11 1).1 0 3 = 0 then .null else .ref (g.2.1 27), .int ((mSI M 0 11 1).1 0 4), if (mSI M 0 11 1).1 0 5 = 0 then .null else .ref (g.2.1 34), if (mSI M 0 11 1).1 0 6 = 0 then .null else .ref (g.2.1 52), if (mSI M 0 11 1).1 0 7 = 0 then .null else .ref (g.2.1 68), if (mSI M 0 11 1).1 0 8 = 0 then .null else .ref (g.2.1 79), if (mSI M 0 11 1).1 0 9 = 0 then .null else .ref (g.2.1 80), if (mSI M 0 11 1).1 0 10 = 0 then .null else .ref (g.2.1 91), if (mSI M 0 11 1).1 0 11 = 0 then .null else .ref (g.2.1 93)] := by first | (simp [mSI, mSL, upd, vp_updL]; done) | rfl
def on_X11_init : Nat := 0xb15300b55200b7595000bb2a4c00b54b00b70a00b42a594900bb2a4500b54200b73c00b42a0a00b42a594000bb2a3c00b53b00b70a00b42a593900bb2a3500b53400b70a00b42a593200bb2a2e00b52d00b70a00b42a592b00bb2a2700b52400b70a00b42a592200bb2a1e00b5022a1a00b51900b7591700bb2a1300b5032a1000b50900b7590700bb2a0a00b50900b7590700bb2a0100b72a
theorem ob_X11_init : OKB cX11_init on_X11_init 153 := ⟨by decide +kernel, by decide +kernel⟩
theorem dX11_init_0 : dc cX11_init 0 1 (.aload_n 0) 1 := o_42 ob_X11_init rfl rfl rfl
theorem dX11_init_1 : dc cX11_init 1 4 (.invokespecial 1) 3 := o_183 ob_X11_init rfl rfl rfl rfl
theorem dX11_init_4 : dc cX11_init 4 5 (.aload_n 0) 1 := o_42 ob_X11_init rfl rfl rfl
theorem dX11_init_5 : dc cX11_init 5 8 (.new 7) 3 := o_187 ob_X11_init rfl rfl rfl rfl
theorem dX11_init_8 : dc cX11_init 8 9 .dup 1 := o_89 ob_X11_init rfl rfl rfl
theorem dX11_init_9 : dc cX11_init 9 12 (.invokespecial 9) 3 := o_183 ob_X11_init rfl rfl rfl rfl
theorem dX11_init_12 : dc cX11_init 12 15 (.putfield 10) 3 := o_181 ob_X11_init rfl rfl rfl rfl
theorem dX11_init_15 : dc cX11_init 15 16 (.aload_n 0) 1 := o_42 ob_X11_init rfl rfl rfl
theorem dX11_init_16 : dc cX11_init 16 19 (.new 7) 3 := o_187 ob_X11_init rfl rfl rfl rfl
theorem dX11_init_19 : dc cX11_init 19 20 .dup 1 := o_89 ob_X11_init rfl rfl rfl
theorem dX11_init_20 : dc cX11_init 20 23 (.invokespecial 9) 3 := o_183 ob_X11_init rfl rfl rfl rfl
theorem dX11_init_23 : dc cX11_init 23 26 (.putfield 16) 3 := o_181 ob_X11_init rfl rfl rfl rfl
theorem dX11_init_26 : dc cX11_init 26 27 (.aload_n 0) 1 := o_42 ob_X11_init rfl rfl rfl
theorem dX11_init_27 : dc cX11_init 27 28 (.iconst 0) 1 := o_3 ob_X11_init rfl rfl rfl
theorem dX11_init_28 : dc cX11_init 28 31 (.putfield 19) 3 := o_181 ob_X11_init rfl rfl rfl rfl
theorem dX11_init_31 : dc cX11_init 31 32 (.aload_n 0) 1 := o_42 ob_X11_init rfl rfl rfl
theorem dX11_init_32 : dc cX11_init 32 35 (.new 23) 3 := o_187 ob_X11_init rfl rfl rfl rfl
theorem dX11_init_35 : dc cX11_init 35 36 .dup 1 := o_89 ob_X11_init rfl rfl rfl
theorem dX11_init_36 : dc cX11_init 36 39 (.invokespecial 25) 3 := o_183 ob_X11_init rfl rfl rfl rfl
theorem dX11_init_39 : dc cX11_init 39 42 (.putfield 26) 3 := o_181 ob_X11_init rfl rfl rfl rfl
theorem dX11_init_42 : dc cX11_init 42 43 (.aload_n 0) 1 := o_42 ob_X11_init rfl rfl rfl
theorem dX11_init_43 : dc cX11_init 43 44 (.iconst (-1)) 1 := o_2 ob_X11_init rfl rfl rfl
theorem dX11_init_44 : dc cX11_init 44 47 (.putfield 30) 3 := o_181 ob_X11_init rfl rfl rfl rfl
theorem dX11_init_47 : dc cX11_init 47 48 (.aload_n 0) 1 := o_42 ob_X11_init rfl rfl rfl
theorem dX11_init_48 : dc cX11_init 48 51 (.new 34) 3 := o_187 ob_X11_init rfl rfl rfl rfl
theorem dX11_init_51 : dc cX11_init 51 52 .dup 1 := o_89 ob_X11_init rfl rfl rfl
theorem dX11_init_52 : dc cX11_init 52 53 (.aload_n 0) 1 := o_42 ob_X11_init rfl rfl rfl
theorem dX11_init_53 : dc cX11_init 53 56 (.getfield 10) 3 := o_180 ob_X11_init rfl rfl rfl rfl
theorem dX11_init_56 : dc cX11_init 56 59 (.invokespecial 36) 3 := o_183 ob_X11_init rfl rfl rfl rfl
theorem dX11_init_59 : dc cX11_init 59 62 (.putfield 39) 3 := o_181 ob_X11_init rfl rfl rfl rfl
theorem dX11_init_62 : dc cX11_init 62 63 (.aload_n 0) 1 := o_42 ob_X11_init rfl rfl rfl
theorem dX11_init_63 : dc cX11_init 63 66 (.new 43) 3 := o_187 ob_X11_init rfl rfl rfl rfl
theorem dX11_init_66 : dc cX11_init 66 67 .dup 1 := o_89 ob_X11_init rfl rfl rfl
theorem dX11_init_67 : dc cX11_init 67 68 (.aload_n 0) 1 := o_42 ob_X11_init rfl rfl rfl
theorem dX11_init_68 : dc cX11_init 68 71 (.getfield 10) 3 := o_180 ob_X11_init rfl rfl rfl rfl
theorem dX11_init_71 : dc cX11_init 71 74 (.invokespecial 45) 3 := o_183 ob_X11_init rfl rfl rfl rfl
theorem dX11_init_74 : dc cX11_init 74 77 (.putfield 46) 3 := o_181 ob_X11_init rfl rfl rfl rfl
theorem dX11_init_77 : dc cX11_init 77 78 (.aload_n 0) 1 := o_42 ob_X11_init rfl rfl rfl
theorem dX11_init_78 : dc cX11_init 78 81 (.new 50) 3 := o_187 ob_X11_init rfl rfl rfl rfl
theorem dX11_init_81 : dc cX11_init 81 82 .dup 1 := o_89 ob_X11_init rfl rfl rfl
theorem dX11_init_82 : dc cX11_init 82 83 (.aload_n 0) 1 := o_42 ob_X11_init rfl rfl rfl
theorem dX11_init_83 : dc cX11_init 83 86 (.getfield 10) 3 := o_180 ob_X11_init rfl rfl rfl rfl
theorem dX11_init_86 : dc cX11_init 86 89 (.invokespecial 52) 3 := o_183 ob_X11_init rfl rfl rfl rfl
theorem dX11_init_89 : dc cX11_init 89 92 (.putfield 53) 3 := o_181 ob_X11_init rfl rfl rfl rfl
theorem dX11_init_92 : dc cX11_init 92 93 (.aload_n 0) 1 := o_42 ob_X11_init rfl rfl rfl
theorem dX11_init_93 : dc cX11_init 93 96 (.new 57) 3 := o_187 ob_X11_init rfl rfl rfl rfl
theorem dX11_init_96 : dc cX11_init 96 97 .dup 1 := o_89 ob_X11_init rfl rfl rfl
theorem dX11_init_97 : dc cX11_init 97 98 (.aload_n 0) 1 := o_42 ob_X11_init rfl rfl rfl
theorem dX11_init_98 : dc cX11_init 98 101 (.getfield 10) 3 := o_180 ob_X11_init rfl rfl rfl rfl
theorem dX11_init_101 : dc cX11_init 101 104 (.invokespecial 59) 3 := o_183 ob_X11_init rfl rfl rfl rfl
theorem dX11_init_104 : dc cX11_init 104 107 (.putfield 60) 3 := o_181 ob_X11_init rfl rfl rfl rfl
theorem dX11_init_107 : dc cX11_init 107 108 (.aload_n 0) 1 := o_42 ob_X11_init rfl rfl rfl
theorem dX11_init_108 : dc cX11_init 108 111 (.new 64) 3 := o_187 ob_X11_init rfl rfl rfl rfl
theorem dX11_init_111 : dc cX11_init 111 112 .dup 1 := o_89 ob_X11_init rfl rfl rfl
theorem dX11_init_112 : dc cX11_init 112 113 (.aload_n 0) 1 := o_42 ob_X11_init rfl rfl rfl
theorem dX11_init_113 : dc cX11_init 113 116 (.getfield 10) 3 := o_180 ob_X11_init rfl rfl rfl rfl
theorem dX11_init_116 : dc cX11_init 116 117 (.aload_n 0) 1 := o_42 ob_X11_init rfl rfl rfl
theorem dX11_init_117 : dc cX11_init 117 120 (.getfield 60) 3 := o_180 ob_X11_init rfl rfl rfl rfl
theorem dX11_init_120 : dc cX11_init 120 123 (.invokespecial 66) 3 := o_183 ob_X11_init rfl rfl rfl rfl
theorem dX11_init_123 : dc cX11_init 123 126 (.putfield 69) 3 := o_181 ob_X11_init rfl rfl rfl rfl
theorem dX11_init_126 : dc cX11_init 126 127 (.aload_n 0) 1 := o_42 ob_X11_init rfl rfl rfl
theorem dX11_init_127 : dc cX11_init 127 130 (.new 73) 3 := o_187 ob_X11_init rfl rfl rfl rfl
theorem dX11_init_130 : dc cX11_init 130 131 .dup 1 := o_89 ob_X11_init rfl rfl rfl
theorem dX11_init_131 : dc cX11_init 131 132 (.aload_n 0) 1 := o_42 ob_X11_init rfl rfl rfl
theorem dX11_init_132 : dc cX11_init 132 135 (.getfield 10) 3 := o_180 ob_X11_init rfl rfl rfl rfl
theorem dX11_init_135 : dc cX11_init 135 138 (.invokespecial 75) 3 := o_183 ob_X11_init rfl rfl rfl rfl
theorem dX11_init_138 : dc cX11_init 138 141 (.putfield 76) 3 := o_181 ob_X11_init rfl rfl rfl rfl
theorem dX11_init_141 : dc cX11_init 141 142 (.aload_n 0) 1 := o_42 ob_X11_init rfl rfl rfl
theorem dX11_init_142 : dc cX11_init 142 145 (.new 80) 3 := o_187 ob_X11_init rfl rfl rfl rfl
theorem dX11_init_145 : dc cX11_init 145 146 .dup 1 := o_89 ob_X11_init rfl rfl rfl
theorem dX11_init_146 : dc cX11_init 146 149 (.invokespecial 82) 3 := o_183 ob_X11_init rfl rfl rfl rfl
theorem dX11_init_149 : dc cX11_init 149 152 (.putfield 83) 3 := o_181 ob_X11_init rfl rfl rfl rfl
theorem dX11_init_152 : dc cX11_init 152 153 .return_ 1 := o_177 ob_X11_init rfl rfl rfl
def FI_KW_0 (M : Mem) : Mem := (mSI ((FI_Fraction_93 ((mSI ((FI_Bridge_91 ((mSI ((FI_Crowd_80 ((mSI ((FI_Walk_79 ((mSI ((FI_Day_68 ((mSI ((FI_Answer_52 ((mSI ((FI_Pair_34 ((mSI ((mSI ((FI_Tape_27 ((mSI ((mSI ((FI_Well_14 ((mSI ((FI_Well_1 M)) 0 0 1)))) 0 1 1)) 0 2 0)))) 0 3 1)) 0 4 (-1))))) 0 5 1)))) 0 6 1)))) 0 7 1)))) 0 8 1)))) 0 9 1)))) 0 10 1)))) 0 11 1)
theorem FIk_KW_0 {M : Mem} {k : Nat} (h : k < 0) : (FI_KW_0 M).1 k = M.1 k := by
  unfold FI_KW_0
  rw [mSI_1ne (a := 0) (by omega), FIk_Fraction_93 (k := k) (by omega), mSI_1ne (a := 0) (by omega), FIk_Bridge_91 (k := k) (by omega), mSI_1ne (a := 0) (by omega), FIk_Crowd_80 (k := k) (by omega), mSI_1ne (a := 0) (by omega), FIk_Walk_79 (k := k) (by omega), mSI_1ne (a := 0) (by omega), FIk_Day_68 (k := k) (by omega), mSI_1ne (a := 0) (by omega), FIk_Answer_52 (k := k) (by omega), mSI_1ne (a := 0) (by omega), FIk_Pair_34 (k := k) (by omega), mSI_1ne (a := 0) (by omega), mSI_1ne (a := 0) (by omega), FIk_Tape_27 (k := k) (by omega), mSI_1ne (a := 0) (by omega), mSI_1ne (a := 0) (by omega), FIk_Well_14 (k := k) (by omega), mSI_1ne (a := 0) (by omega), FIk_Well_1 (k := k) (by omega)]
theorem FrI_KW_0 {M : Mem} (hz : Fr 1 M) : Fr 94 (FI_KW_0 M) := by
  have hz := hz.mono (Nat.le_succ _)
  have hz := FrI_Well_1 hz
  have hz := hz.sI (k := 0) (j := 0) (v := 1) (Nat.le_of_ble_eq_true rfl)
  have hz := hz.mono (Nat.le_succ _)
  have hz := FrI_Well_14 hz
  have hz := hz.sI (k := 0) (j := 1) (v := 1) (Nat.le_of_ble_eq_true rfl)
  have hz := hz.sI (k := 0) (j := 2) (v := 0) (Nat.le_of_ble_eq_true rfl)
  have hz := hz.mono (Nat.le_succ _)
  have hz := FrI_Tape_27 hz
  have hz := hz.sI (k := 0) (j := 3) (v := 1) (Nat.le_of_ble_eq_true rfl)
  have hz := hz.sI (k := 0) (j := 4) (v := (-1)) (Nat.le_of_ble_eq_true rfl)
  have hz := hz.mono (Nat.le_succ _)
  have hz := FrI_Pair_34 hz
  have hz := hz.sI (k := 0) (j := 5) (v := 1) (Nat.le_of_ble_eq_true rfl)
  have hz := hz.mono (Nat.le_succ _)
  have hz := FrI_Answer_52 hz
  have hz := hz.sI (k := 0) (j := 6) (v := 1) (Nat.le_of_ble_eq_true rfl)
  have hz := hz.mono (Nat.le_succ _)
  have hz := FrI_Day_68 hz
  have hz := hz.sI (k := 0) (j := 7) (v := 1) (Nat.le_of_ble_eq_true rfl)
  have hz := hz.mono (Nat.le_succ _)
  have hz := FrI_Walk_79 hz
  have hz := hz.sI (k := 0) (j := 8) (v := 1) (Nat.le_of_ble_eq_true rfl)
  have hz := hz.mono (Nat.le_succ _)
  have hz := FrI_Crowd_80 hz
  have hz := hz.sI (k := 0) (j := 9) (v := 1) (Nat.le_of_ble_eq_true rfl)
  have hz := hz.mono (Nat.le_succ _)
  have hz := FrI_Bridge_91 hz
  have hz := hz.sI (k := 0) (j := 10) (v := 1) (Nat.le_of_ble_eq_true rfl)
  have hz := hz.mono (Nat.le_succ _)
  have hz := FrI_Fraction_93 hz
  have hz := hz.sI (k := 0) (j := 11) (v := 1) (Nat.le_of_ble_eq_true rfl)
  exact hz
set_option maxRecDepth 100000 in
set_option maxHeartbeats 4000000 in
theorem KI_KW_0 (l : Launch) (g : GB) (M : Mem) (hz : Fr 1 M) : CC l g yX11_init (.code yX11_init cX11_init 1 none :: wAll) { frames := 4, cells := 93, slots := 1969, locals := 102 } [.ref (g.2.1 0)] 1 M 94 (FI_KW_0 M) := by
  refine CC.of [(0, .ref (g.2.1 0))] (by decide) (Nat.le_of_ble_eq_true rfl) rfl ?_
  intro p e s m args below meth c K hr hin
  refine GC_aload_n rfl 0 rfl K dX11_init_0 ?_
  refine GC_objInit K dX11_init_1 wd_33 wd_34 wd_35 (Nat.le_of_ble_eq_true rfl) (Nat.le_of_ble_eq_true rfl) ?_
  refine GC_aload_n rfl 0 rfl K dX11_init_4 ?_
  refine GC_new (ci := 10) tyX10 tyX10_ok K rfl in_X10 wd_36 wd_37 wd_2 dX11_init_5 rfl (Nat.le_of_ble_eq_true rfl) (frC_1 g _ hz) (fun j hj => by revert j; decide +kernel) (by decide) ?_
  have hz := hz.mono (Nat.le_succ _)
  refine GC_dup rfl K dX11_init_8 ?_
  refine GC_callIN (host := "KeptWell") (y := yX10_init) [] [.ref (g.2.1 1), .ref (g.2.1 0)] K dX11_init_9 (by decide +kernel) wd_39 wd_2 wd_40 rfl ydc_X10_init (by decide) (by decide) rfl (Nat.le_of_ble_eq_true rfl) rfl rfl (Nat.le_of_ble_eq_true rfl) (KI_Well_1 l g _ hz) ?_
  have hz := FrI_Well_1 hz
  refine GC_putFR (ci := 11) (k := 0) (ty := (.object "KeptWell$Well")) K rfl in_X11 tyX11 tyX11_ok nmX11 wd_402 rfl rfl hin rfl (by decide +kernel) rfl rfl dX11_init_12 (Nat.le_of_ble_eq_true rfl) (Nat.le_of_ble_eq_true rfl) (shC_0 g _) (shC_0 g _) (Nat.le_of_ble_eq_true rfl) (Nat.le_of_ble_eq_true rfl) (sC_0_0 g _) ?_
  have hz := hz.sI (k := 0) (j := 0) (v := 1) (Nat.le_of_ble_eq_true rfl)
  refine GC_aload_n rfl 0 rfl K dX11_init_15 ?_
  refine GC_new (ci := 10) tyX10 tyX10_ok K rfl in_X10 wd_36 wd_37 wd_2 dX11_init_16 rfl (Nat.le_of_ble_eq_true rfl) (frC_14 g _ hz) (fun j hj => by revert j; decide +kernel) (by decide) ?_
  have hz := hz.mono (Nat.le_succ _)
  refine GC_dup rfl K dX11_init_19 ?_
  refine GC_callIN (host := "KeptWell") (y := yX10_init) [] [.ref (g.2.1 14), .ref (g.2.1 0)] K dX11_init_20 (by decide +kernel) wd_39 wd_2 wd_40 rfl ydc_X10_init (by decide) (by decide) rfl (Nat.le_of_ble_eq_true rfl) rfl rfl (Nat.le_of_ble_eq_true rfl) (KI_Well_14 l g _ hz) ?_
  have hz := FrI_Well_14 hz
  refine GC_putFR (ci := 11) (k := 1) (ty := (.object "KeptWell$Well")) K rfl in_X11 tyX11 tyX11_ok nmX11 wd_403 rfl rfl hin rfl (by decide +kernel) rfl rfl dX11_init_23 (Nat.le_of_ble_eq_true rfl) (Nat.le_of_ble_eq_true rfl) (shC_0 g _) (shC_0 g _) (Nat.le_of_ble_eq_true rfl) (Nat.le_of_ble_eq_true rfl) (sC_0_1 g _) ?_
  have hz := hz.sI (k := 0) (j := 1) (v := 1) (Nat.le_of_ble_eq_true rfl)
  refine GC_aload_n rfl 0 rfl K dX11_init_26 ?_
  refine GC_iconst (v := 0) rfl K dX11_init_27 ?_
  refine GC_putI (ci := 11) (k := 2) (ty := .boolean) K rfl in_X11 tyX11 tyX11_ok nmX11 wd_404 rfl rfl (by decide +kernel) rfl rfl dX11_init_28 (Nat.le_of_ble_eq_true rfl) (Nat.le_of_ble_eq_true rfl) (shC_0 g _) (shC_0 g _) (Nat.le_of_ble_eq_true rfl) (Nat.le_of_ble_eq_true rfl) (sC_0_2 g _ _) ?_
  have hz := hz.sI (k := 0) (j := 2) (v := 0) (Nat.le_of_ble_eq_true rfl)
  refine GC_aload_n rfl 0 rfl K dX11_init_31 ?_
  refine GC_new (ci := 8) tyX8 tyX8_ok K rfl in_X8 wd_139 wd_140 wd_5 dX11_init_32 rfl (Nat.le_of_ble_eq_true rfl) (frC_27 g _ hz) (fun j hj => by revert j; decide +kernel) (by decide) ?_
  have hz := hz.mono (Nat.le_succ _)
  refine GC_dup rfl K dX11_init_35 ?_
  refine GC_callIN (host := "KeptWell") (y := yX8_init) [] [.ref (g.2.1 27), .ref (g.2.1 0)] K dX11_init_36 (by decide +kernel) wd_142 wd_5 wd_143 rfl ydc_X8_init (by decide) (by decide) rfl (Nat.le_of_ble_eq_true rfl) rfl rfl (Nat.le_of_ble_eq_true rfl) (KI_Tape_27 l g _ hz) ?_
  have hz := FrI_Tape_27 hz
  refine GC_putFR (ci := 11) (k := 3) (ty := (.object "KeptWell$Tape")) K rfl in_X11 tyX11 tyX11_ok nmX11 wd_405 rfl rfl hin rfl (by decide +kernel) rfl rfl dX11_init_39 (Nat.le_of_ble_eq_true rfl) (Nat.le_of_ble_eq_true rfl) (shC_0 g _) (shC_0 g _) (Nat.le_of_ble_eq_true rfl) (Nat.le_of_ble_eq_true rfl) (sC_0_3 g _) ?_
  have hz := hz.sI (k := 0) (j := 3) (v := 1) (Nat.le_of_ble_eq_true rfl)
  refine GC_aload_n rfl 0 rfl K dX11_init_42 ?_
  refine GC_iconst (v := (-1)) rfl K dX11_init_43 ?_
  refine GC_putI (ci := 11) (k := 4) (ty := .int) K rfl in_X11 tyX11 tyX11_ok nmX11 wd_406 rfl rfl (by decide +kernel) rfl rfl dX11_init_44 (Nat.le_of_ble_eq_true rfl) (Nat.le_of_ble_eq_true rfl) (shC_0 g _) (shC_0 g _) (Nat.le_of_ble_eq_true rfl) (Nat.le_of_ble_eq_true rfl) (sC_0_4 g _ _) ?_
  have hz := hz.sI (k := 0) (j := 4) (v := (-1)) (Nat.le_of_ble_eq_true rfl)
  refine GC_aload_n rfl 0 rfl K dX11_init_47 ?_
  refine GC_new (ci := 6) tyX6 tyX6_ok K rfl in_X6 wd_175 wd_176 wd_6 dX11_init_48 rfl (Nat.le_of_ble_eq_true rfl) (frC_34 g _ hz) (fun j hj => by revert j; decide +kernel) (by decide) ?_
  have hz := hz.mono (Nat.le_succ _)
  refine GC_dup rfl K dX11_init_51 ?_
  refine GC_aload_n rfl 0 rfl K dX11_init_52 ?_
  refine GC_get (ci := 11) (k := 0) (v := .ref (g.2.1 1)) K rfl in_X11 wd_402 rfl dX11_init_53 (Nat.le_of_ble_eq_true rfl) (shC_0 g _) (Nat.le_of_ble_eq_true rfl) (gC_0_0 g _ (by simp [FIk_Tape_27, FIk_Well_14, FIk_Well_1, mSI, mSL, upd])) ?_
  refine GC_callI (y := yX6_init) [.ref (g.2.1 1)] [.ref (g.2.1 34), .ref (g.2.1 0)] K dX11_init_56 wd_177 wd_178 wd_6 wd_179 rfl ydc_X6_init (by decide) (by decide) rfl (Nat.le_of_ble_eq_true rfl) rfl rfl (Nat.le_of_ble_eq_true rfl) (KI_Pair_34 l g _ hz) ?_
  have hz := FrI_Pair_34 hz
  refine GC_putFR (ci := 11) (k := 5) (ty := (.object "KeptWell$Pair")) K rfl in_X11 tyX11 tyX11_ok nmX11 wd_407 rfl rfl hin rfl (by decide +kernel) rfl rfl dX11_init_59 (Nat.le_of_ble_eq_true rfl) (Nat.le_of_ble_eq_true rfl) (shC_0 g _) (shC_0 g _) (Nat.le_of_ble_eq_true rfl) (Nat.le_of_ble_eq_true rfl) (sC_0_5 g _) ?_
  have hz := hz.sI (k := 0) (j := 5) (v := 1) (Nat.le_of_ble_eq_true rfl)
  refine GC_aload_n rfl 0 rfl K dX11_init_62 ?_
  refine GC_new (ci := 0) tyX0 tyX0_ok K rfl in_X0 wd_245 wd_246 wd_8 dX11_init_63 rfl (Nat.le_of_ble_eq_true rfl) (frC_52 g _ hz) (fun j hj => by revert j; decide +kernel) (by decide) ?_
  have hz := hz.mono (Nat.le_succ _)
  refine GC_dup rfl K dX11_init_66 ?_
  refine GC_aload_n rfl 0 rfl K dX11_init_67 ?_
  refine GC_get (ci := 11) (k := 0) (v := .ref (g.2.1 1)) K rfl in_X11 wd_402 rfl dX11_init_68 (Nat.le_of_ble_eq_true rfl) (shC_0 g _) (Nat.le_of_ble_eq_true rfl) (gC_0_0 g _ (by simp [FIk_Pair_34, FIk_Tape_27, FIk_Well_14, FIk_Well_1, mSI, mSL, upd])) ?_
  refine GC_callI (y := yX0_init) [.ref (g.2.1 1)] [.ref (g.2.1 52), .ref (g.2.1 0)] K dX11_init_71 wd_247 wd_248 wd_8 wd_249 rfl ydc_X0_init (by decide) (by decide) rfl (Nat.le_of_ble_eq_true rfl) rfl rfl (Nat.le_of_ble_eq_true rfl) (KI_Answer_52 l g _ hz) ?_
  have hz := FrI_Answer_52 hz
  refine GC_putFR (ci := 11) (k := 6) (ty := (.object "KeptWell$Answer")) K rfl in_X11 tyX11 tyX11_ok nmX11 wd_408 rfl rfl hin rfl (by decide +kernel) rfl rfl dX11_init_74 (Nat.le_of_ble_eq_true rfl) (Nat.le_of_ble_eq_true rfl) (shC_0 g _) (shC_0 g _) (Nat.le_of_ble_eq_true rfl) (Nat.le_of_ble_eq_true rfl) (sC_0_6 g _) ?_
  have hz := hz.sI (k := 0) (j := 6) (v := 1) (Nat.le_of_ble_eq_true rfl)
  refine GC_aload_n rfl 0 rfl K dX11_init_77 ?_
  refine GC_new (ci := 4) tyX4 tyX4_ok K rfl in_X4 wd_274 wd_275 wd_9 dX11_init_78 rfl (Nat.le_of_ble_eq_true rfl) (frC_68 g _ hz) (fun j hj => by revert j; decide +kernel) (by decide) ?_
  have hz := hz.mono (Nat.le_succ _)
  refine GC_dup rfl K dX11_init_81 ?_
  refine GC_aload_n rfl 0 rfl K dX11_init_82 ?_
  refine GC_get (ci := 11) (k := 0) (v := .ref (g.2.1 1)) K rfl in_X11 wd_402 rfl dX11_init_83 (Nat.le_of_ble_eq_true rfl) (shC_0 g _) (Nat.le_of_ble_eq_true rfl) (gC_0_0 g _ (by simp [FIk_Answer_52, FIk_Pair_34, FIk_Tape_27, FIk_Well_14, FIk_Well_1, mSI, mSL, upd])) ?_
  refine GC_callI (y := yX4_init) [.ref (g.2.1 1)] [.ref (g.2.1 68), .ref (g.2.1 0)] K dX11_init_86 wd_276 wd_277 wd_9 wd_278 rfl ydc_X4_init (by decide) (by decide) rfl (Nat.le_of_ble_eq_true rfl) rfl rfl (Nat.le_of_ble_eq_true rfl) (KI_Day_68 l g _ hz) ?_
  have hz := FrI_Day_68 hz
  refine GC_putFR (ci := 11) (k := 7) (ty := (.object "KeptWell$Day")) K rfl in_X11 tyX11 tyX11_ok nmX11 wd_409 rfl rfl hin rfl (by decide +kernel) rfl rfl dX11_init_89 (Nat.le_of_ble_eq_true rfl) (Nat.le_of_ble_eq_true rfl) (shC_0 g _) (shC_0 g _) (Nat.le_of_ble_eq_true rfl) (Nat.le_of_ble_eq_true rfl) (sC_0_7 g _) ?_
  have hz := hz.sI (k := 0) (j := 7) (v := 1) (Nat.le_of_ble_eq_true rfl)
  refine GC_aload_n rfl 0 rfl K dX11_init_92 ?_
  refine GC_new (ci := 9) tyX9 tyX9_ok K rfl in_X9 wd_313 wd_314 wd_10 dX11_init_93 rfl (Nat.le_of_ble_eq_true rfl) (frC_79 g _ hz) (fun j hj => by revert j; decide +kernel) (by decide) ?_
  have hz := hz.mono (Nat.le_succ _)
  refine GC_dup rfl K dX11_init_96 ?_
  refine GC_aload_n rfl 0 rfl K dX11_init_97 ?_
  refine GC_get (ci := 11) (k := 0) (v := .ref (g.2.1 1)) K rfl in_X11 wd_402 rfl dX11_init_98 (Nat.le_of_ble_eq_true rfl) (shC_0 g _) (Nat.le_of_ble_eq_true rfl) (gC_0_0 g _ (by simp [FIk_Day_68, FIk_Answer_52, FIk_Pair_34, FIk_Tape_27, FIk_Well_14, FIk_Well_1, mSI, mSL, upd])) ?_
  refine GC_callI (y := yX9_init) [.ref (g.2.1 1)] [.ref (g.2.1 79), .ref (g.2.1 0)] K dX11_init_101 wd_315 wd_316 wd_10 wd_317 rfl ydc_X9_init (by decide) (by decide) rfl (Nat.le_of_ble_eq_true rfl) rfl rfl (Nat.le_of_ble_eq_true rfl) (KI_Walk_79 l g _ hz) ?_
  have hz := FrI_Walk_79 hz
  refine GC_putFR (ci := 11) (k := 8) (ty := (.object "KeptWell$Walk")) K rfl in_X11 tyX11 tyX11_ok nmX11 wd_410 rfl rfl hin rfl (by decide +kernel) rfl rfl dX11_init_104 (Nat.le_of_ble_eq_true rfl) (Nat.le_of_ble_eq_true rfl) (shC_0 g _) (shC_0 g _) (Nat.le_of_ble_eq_true rfl) (Nat.le_of_ble_eq_true rfl) (sC_0_8 g _) ?_
  have hz := hz.sI (k := 0) (j := 8) (v := 1) (Nat.le_of_ble_eq_true rfl)
  refine GC_aload_n rfl 0 rfl K dX11_init_107 ?_
  refine GC_new (ci := 3) tyX3 tyX3_ok K rfl in_X3 wd_338 wd_339 wd_11 dX11_init_108 rfl (Nat.le_of_ble_eq_true rfl) (frC_80 g _ hz) (fun j hj => by revert j; decide +kernel) (by decide) ?_
  have hz := hz.mono (Nat.le_succ _)
  refine GC_dup rfl K dX11_init_111 ?_
  refine GC_aload_n rfl 0 rfl K dX11_init_112 ?_
  refine GC_get (ci := 11) (k := 0) (v := .ref (g.2.1 1)) K rfl in_X11 wd_402 rfl dX11_init_113 (Nat.le_of_ble_eq_true rfl) (shC_0 g _) (Nat.le_of_ble_eq_true rfl) (gC_0_0 g _ (by simp [FIk_Walk_79, FIk_Day_68, FIk_Answer_52, FIk_Pair_34, FIk_Tape_27, FIk_Well_14, FIk_Well_1, mSI, mSL, upd])) ?_
  refine GC_aload_n rfl 0 rfl K dX11_init_116 ?_
  refine GC_get (ci := 11) (k := 8) (v := .ref (g.2.1 79)) K rfl in_X11 wd_410 rfl dX11_init_117 (Nat.le_of_ble_eq_true rfl) (shC_0 g _) (Nat.le_of_ble_eq_true rfl) (gC_0_8 g _ (by simp [FIk_Walk_79, FIk_Day_68, FIk_Answer_52, FIk_Pair_34, FIk_Tape_27, FIk_Well_14, FIk_Well_1, mSI, mSL, upd])) ?_
  refine GC_callI (y := yX3_init) [.ref (g.2.1 1), .ref (g.2.1 79)] [.ref (g.2.1 80), .ref (g.2.1 0)] K dX11_init_120 wd_340 wd_341 wd_11 wd_342 rfl ydc_X3_init (by decide) (by decide) rfl (Nat.le_of_ble_eq_true rfl) rfl rfl (Nat.le_of_ble_eq_true rfl) (KI_Crowd_80 l g _ hz) ?_
  have hz := FrI_Crowd_80 hz
  refine GC_putFR (ci := 11) (k := 9) (ty := (.object "KeptWell$Crowd")) K rfl in_X11 tyX11 tyX11_ok nmX11 wd_411 rfl rfl hin rfl (by decide +kernel) rfl rfl dX11_init_123 (Nat.le_of_ble_eq_true rfl) (Nat.le_of_ble_eq_true rfl) (shC_0 g _) (shC_0 g _) (Nat.le_of_ble_eq_true rfl) (Nat.le_of_ble_eq_true rfl) (sC_0_9 g _) ?_
  have hz := hz.sI (k := 0) (j := 9) (v := 1) (Nat.le_of_ble_eq_true rfl)
  refine GC_aload_n rfl 0 rfl K dX11_init_126 ?_
  refine GC_new (ci := 1) tyX1 tyX1_ok K rfl in_X1 wd_368 wd_369 wd_12 dX11_init_127 rfl (Nat.le_of_ble_eq_true rfl) (frC_91 g _ hz) (fun j hj => by revert j; decide +kernel) (by decide) ?_
  have hz := hz.mono (Nat.le_succ _)
  refine GC_dup rfl K dX11_init_130 ?_
  refine GC_aload_n rfl 0 rfl K dX11_init_131 ?_
  refine GC_get (ci := 11) (k := 0) (v := .ref (g.2.1 1)) K rfl in_X11 wd_402 rfl dX11_init_132 (Nat.le_of_ble_eq_true rfl) (shC_0 g _) (Nat.le_of_ble_eq_true rfl) (gC_0_0 g _ (by simp [FIk_Crowd_80, FIk_Walk_79, FIk_Day_68, FIk_Answer_52, FIk_Pair_34, FIk_Tape_27, FIk_Well_14, FIk_Well_1, mSI, mSL, upd])) ?_
  refine GC_callI (y := yX1_init) [.ref (g.2.1 1)] [.ref (g.2.1 91), .ref (g.2.1 0)] K dX11_init_135 wd_370 wd_371 wd_12 wd_372 rfl ydc_X1_init (by decide) (by decide) rfl (Nat.le_of_ble_eq_true rfl) rfl rfl (Nat.le_of_ble_eq_true rfl) (KI_Bridge_91 l g _ hz) ?_
  have hz := FrI_Bridge_91 hz
  refine GC_putFR (ci := 11) (k := 10) (ty := (.object "KeptWell$Bridge")) K rfl in_X11 tyX11 tyX11_ok nmX11 wd_412 rfl rfl hin rfl (by decide +kernel) rfl rfl dX11_init_138 (Nat.le_of_ble_eq_true rfl) (Nat.le_of_ble_eq_true rfl) (shC_0 g _) (shC_0 g _) (Nat.le_of_ble_eq_true rfl) (Nat.le_of_ble_eq_true rfl) (sC_0_10 g _) ?_
  have hz := hz.sI (k := 0) (j := 10) (v := 1) (Nat.le_of_ble_eq_true rfl)
  refine GC_aload_n rfl 0 rfl K dX11_init_141 ?_
  refine GC_new (ci := 5) tyX5 tyX5_ok K rfl in_X5 wd_400 wd_375 wd_13 dX11_init_142 rfl (Nat.le_of_ble_eq_true rfl) (frC_93 g _ hz) (fun j hj => by revert j; decide +kernel) (by decide) ?_
  have hz := hz.mono (Nat.le_succ _)
  refine GC_dup rfl K dX11_init_145 ?_
  refine GC_callIN (host := "KeptWell") (y := yX5_init) [] [.ref (g.2.1 93), .ref (g.2.1 0)] K dX11_init_146 (by decide +kernel) wd_377 wd_13 wd_378 rfl ydc_X5_init (by decide) (by decide) rfl (Nat.le_of_ble_eq_true rfl) rfl rfl (Nat.le_of_ble_eq_true rfl) (KI_Fraction_93 l g _ hz) ?_
  have hz := FrI_Fraction_93 hz
  refine GC_putFR (ci := 11) (k := 11) (ty := (.object "KeptWell$Fraction")) K rfl in_X11 tyX11 tyX11_ok nmX11 wd_413 rfl rfl hin rfl (by decide +kernel) rfl rfl dX11_init_149 (Nat.le_of_ble_eq_true rfl) (Nat.le_of_ble_eq_true rfl) (shC_0 g _) (shC_0 g _) (Nat.le_of_ble_eq_true rfl) (Nat.le_of_ble_eq_true rfl) (sC_0_11 g _) ?_
  have hz := hz.sI (k := 0) (j := 11) (v := 1) (Nat.le_of_ble_eq_true rfl)
  exact GC_vret K hr dX11_init_152 (Nat.le_of_ble_eq_true rfl) (Nat.le_of_ble_eq_true rfl) ⟨rfl, rfl⟩
theorem sC_94_1 (g : GB) (M : Mem) : ([.int (M.1 94 0), if M.1 94 1 = 0 then .null else .ref (g.2.1 95), if M.1 94 2 = 0 then .null else .ref (g.2.1 96), .int (M.1 94 3), if M.1 94 4 = 0 then .null else .ref (g.2.1 97), .int (M.1 94 5), .int (M.1 94 6), .int (M.1 94 7), .int (M.1 94 8), .int (M.1 94 9), if M.1 94 10 = 0 then .null else .ref (g.2.1 98), if M.1 94 11 = 0 then .null else .ref (g.2.1 99), if M.1 94 12 = 0 then .null else .ref (g.2.1 100), if M.1 94 13 = 0 then .null else .ref (g.2.1 101), .int (M.1 94 14), .long (M.2 94 15), .long (M.2 94 16), if M.1 94 17 = 0 then .null else .ref (g.2.1 102), if M.1 94 18 = 0 then .null else .ref (g.2.1 103), .int (M.1 94 19), .int (M.1 94 20), if M.1 94 21 = 0 then .null else .ref (g.2.1 104), if M.1 94 22 = 0 then .null else .ref (g.2.1 105), if M.1 94 23 = 0 then .null else .ref (g.2.1 106), if M.1 94 24 = 0 then .null else .ref (g.2.1 107), if M.1 94 25 = 0 then .null else .ref (g.2.1 108), if M.1 94 26 = 0 then .null else .ref (g.2.1 109), if M.1 94 27 = 0 then .null else .ref (g.2.1 110), if M.1 94 28 = 0 then .null else .ref (g.2.1 111), if M.1 94 29 = 0 then .null else .ref (g.2.1 112), if M.1 94 30 = 0 then .null else .ref (g.2.1 113), if M.1 94 31 = 0 then .null else .ref (g.2.1 114), if M.1 94 32 = 0 then .null else .ref (g.2.1 115), if M.1 94 33 = 0 then .null else .ref (g.2.1 116), if M.1 94 34 = 0 then .null else .ref (g.2.1 117), .int (M.1 94 35), .int (M.1 94 36), .int (M.1 94 37), if M.1 94 38 = 0 then .null else .ref (g.2.1 118), if M.1 94 39 = 0 then .null else .ref (g.2.1 119), if M.1 94 40 = 0 then .null else .ref (g.2.1 120)] : List Value).set 1 (.ref (g.2.1 95)) = [.int ((mSI M 94 1 1).1 94 0), if (mSI M 94 1 1).1 94 1 = 0 then .null else .ref (g.2.1 95), if (mSI M 94 1 1).1 94 2 = 0 then .null else .ref (g.2.1 96), .int ((mSI M 94 1 1).1 94 3), if (mSI M 94 1 1).1 94 4 = 0 then .null else .ref (g.2.1 97), .int ((mSI M 94 1 1).1 94 5), .int ((mSI M 94 1 1).1 94 6), .int ((mSI M 94 1 1).1 94 7), .int ((mSI M 94 1 1).1 94 8), .int ((mSI M 94 1 1).1 94 9), if (mSI M 94 1 1).1 94 10 = 0 then .null else .ref (g.2.1 98), if (mSI M 94 1 1).1 94 11 = 0 then .null else .ref (g.2.1 99), if (mSI M 94 1 1).1 94 12 = 0 then .null else .ref (g.2.1 100), if (mSI M 94 1 1).1 94 13 = 0 then .null else .ref (g.2.1 101), .int ((mSI M 94 1 1).1 94 14), .long ((mSI M 94 1 1).2 94 15), .long ((mSI M 94 1 1).2 94 16), if (mSI M 94 1 1).1 94 17 = 0 then .null else .ref (g.2.1 102), if (mSI M 94 1 1).1 94 18 = 0 then .null else .ref (g.2.1 103), .int ((mSI M 94 1 1).1 94 19), .int ((mSI M 94 1 1).1 94 20), if (mSI M 94 1 1).1 94 21 = 0 then .null else .ref (g.2.1 104), if (mSI M 94 1 1).1 94 22 = 0 then .null else .ref (g.2.1 105), if (mSI M 94 1 1).1 94 23 = 0 then .null else .ref (g.2.1 106), if (mSI M 94 1 1).1 94 24 = 0 then .null else .ref (g.2.1 107), if (mSI M 94 1 1).1 94 25 = 0 then .null else .ref (g.2.1 108), if (mSI M 94 1 1).1 94 26 = 0 then .null else .ref (g.2.1 109), if (mSI M 94 1 1).1 94 27 = 0 then .null else .ref (g.2.1 110), if (mSI M 94 1 1).1 94 28 = 0 then .null else .ref (g.2.1 111), if (mSI M 94 1 1).1 94 29 = 0 then .null else .ref (g.2.1 112), if (mSI M 94 1 1).1 94 30 = 0 then .null else .ref (g.2.1 113), if (mSI M 94 1 1).1 94 31 = 0 then .null else .ref (g.2.1 114), if (mSI M 94 1 1).1 94 32 = 0 then .null else .ref (g.2.1 115), if (mSI M 94 1 1).1 94 33 = 0 then .null else .ref (g.2.1 116), if (mSI M 94 1 1).1 94 34 = 0 then .null else .ref (g.2.1 117), .int ((mSI M 94 1 1).1 94 35), .int ((mSI M 94 1 1).1 94 36), .int ((mSI M 94 1 1).1 94 37), if (mSI M 94 1 1).1 94 38 = 0 then .null else .ref (g.2.1 118), if (mSI M 94 1 1).1 94 39 = 0 then .null else .ref (g.2.1 119), if (mSI M 94 1 1).1 94 40 = 0 then .null else .ref (g.2.1 120)] := by first | (simp [mSI, mSL, upd, vp_updL]; done) | rfl
theorem sC_94_2 (g : GB) (M : Mem) : ([.int (M.1 94 0), if M.1 94 1 = 0 then .null else .ref (g.2.1 95), if M.1 94 2 = 0 then .null else .ref (g.2.1 96), .int (M.1 94 3), if M.1 94 4 = 0 then .null else .ref (g.2.1 97), .int (M.1 94 5), .int (M.1 94 6), .int (M.1 94 7), .int (M.1 94 8), .int (M.1 94 9), if M.1 94 10 = 0 then .null else .ref (g.2.1 98), if M.1 94 11 = 0 then .null else .ref (g.2.1 99), if M.1 94 12 = 0 then .null else .ref (g.2.1 100), if M.1 94 13 = 0 then .null else .ref (g.2.1 101), .int (M.1 94 14), .long (M.2 94 15), .long (M.2 94 16), if M.1 94 17 = 0 then .null else .ref (g.2.1 102), if M.1 94 18 = 0 then .null else .ref (g.2.1 103), .int (M.1 94 19), .int (M.1 94 20), if M.1 94 21 = 0 then .null else .ref (g.2.1 104), if M.1 94 22 = 0 then .null else .ref (g.2.1 105), if M.1 94 23 = 0 then .null else .ref (g.2.1 106), if M.1 94 24 = 0 then .null else .ref (g.2.1 107), if M.1 94 25 = 0 then .null else .ref (g.2.1 108), if M.1 94 26 = 0 then .null else .ref (g.2.1 109), if M.1 94 27 = 0 then .null else .ref (g.2.1 110), if M.1 94 28 = 0 then .null else .ref (g.2.1 111), if M.1 94 29 = 0 then .null else .ref (g.2.1 112), if M.1 94 30 = 0 then .null else .ref (g.2.1 113), if M.1 94 31 = 0 then .null else .ref (g.2.1 114), if M.1 94 32 = 0 then .null else .ref (g.2.1 115), if M.1 94 33 = 0 then .null else .ref (g.2.1 116), if M.1 94 34 = 0 then .null else .ref (g.2.1 117), .int (M.1 94 35), .int (M.1 94 36), .int (M.1 94 37), if M.1 94 38 = 0 then .null else .ref (g.2.1 118), if M.1 94 39 = 0 then .null else .ref (g.2.1 119), if M.1 94 40 = 0 then .null else .ref (g.2.1 120)] : List Value).set 2 (.ref (g.2.1 96)) = [.int ((mSI M 94 2 1).1 94 0), if (mSI M 94 2 1).1 94 1 = 0 then .null else .ref (g.2.1 95), if (mSI M 94 2 1).1 94 2 = 0 then .null else .ref (g.2.1 96), .int ((mSI M 94 2 1).1 94 3), if (mSI M 94 2 1).1 94 4 = 0 then .null else .ref (g.2.1 97), .int ((mSI M 94 2 1).1 94 5), .int ((mSI M 94 2 1).1 94 6), .int ((mSI M 94 2 1).1 94 7), .int ((mSI M 94 2 1).1 94 8), .int ((mSI M 94 2 1).1 94 9), if (mSI M 94 2 1).1 94 10 = 0 then .null else .ref (g.2.1 98), if (mSI M 94 2 1).1 94 11 = 0 then .null else .ref (g.2.1 99), if (mSI M 94 2 1).1 94 12 = 0 then .null else .ref (g.2.1 100), if (mSI M 94 2 1).1 94 13 = 0 then .null else .ref (g.2.1 101), .int ((mSI M 94 2 1).1 94 14), .long ((mSI M 94 2 1).2 94 15), .long ((mSI M 94 2 1).2 94 16), if (mSI M 94 2 1).1 94 17 = 0 then .null else .ref (g.2.1 102), if (mSI M 94 2 1).1 94 18 = 0 then .null else .ref (g.2.1 103), .int ((mSI M 94 2 1).1 94 19), .int ((mSI M 94 2 1).1 94 20), if (mSI M 94 2 1).1 94 21 = 0 then .null else .ref (g.2.1 104), if (mSI M 94 2 1).1 94 22 = 0 then .null else .ref (g.2.1 105), if (mSI M 94 2 1).1 94 23 = 0 then .null else .ref (g.2.1 106), if (mSI M 94 2 1).1 94 24 = 0 then .null else .ref (g.2.1 107), if (mSI M 94 2 1).1 94 25 = 0 then .null else .ref (g.2.1 108), if (mSI M 94 2 1).1 94 26 = 0 then .null else .ref (g.2.1 109), if (mSI M 94 2 1).1 94 27 = 0 then .null else .ref (g.2.1 110), if (mSI M 94 2 1).1 94 28 = 0 then .null else .ref (g.2.1 111), if (mSI M 94 2 1).1 94 29 = 0 then .null else .ref (g.2.1 112), if (mSI M 94 2 1).1 94 30 = 0 then .null else .ref (g.2.1 113), if (mSI M 94 2 1).1 94 31 = 0 then .null else .ref (g.2.1 114), if (mSI M 94 2 1).1 94 32 = 0 then .null else .ref (g.2.1 115), if (mSI M 94 2 1).1 94 33 = 0 then .null else .ref (g.2.1 116), if (mSI M 94 2 1).1 94 34 = 0 then .null else .ref (g.2.1 117), .int ((mSI M 94 2 1).1 94 35), .int ((mSI M 94 2 1).1 94 36), .int ((mSI M 94 2 1).1 94 37), if (mSI M 94 2 1).1 94 38 = 0 then .null else .ref (g.2.1 118), if (mSI M 94 2 1).1 94 39 = 0 then .null else .ref (g.2.1 119), if (mSI M 94 2 1).1 94 40 = 0 then .null else .ref (g.2.1 120)] := by first | (simp [mSI, mSL, upd, vp_updL]; done) | rfl
theorem sC_94_4 (g : GB) (M : Mem) : ([.int (M.1 94 0), if M.1 94 1 = 0 then .null else .ref (g.2.1 95), if M.1 94 2 = 0 then .null else .ref (g.2.1 96), .int (M.1 94 3), if M.1 94 4 = 0 then .null else .ref (g.2.1 97), .int (M.1 94 5), .int (M.1 94 6), .int (M.1 94 7), .int (M.1 94 8), .int (M.1 94 9), if M.1 94 10 = 0 then .null else .ref (g.2.1 98), if M.1 94 11 = 0 then .null else .ref (g.2.1 99), if M.1 94 12 = 0 then .null else .ref (g.2.1 100), if M.1 94 13 = 0 then .null else .ref (g.2.1 101), .int (M.1 94 14), .long (M.2 94 15), .long (M.2 94 16), if M.1 94 17 = 0 then .null else .ref (g.2.1 102), if M.1 94 18 = 0 then .null else .ref (g.2.1 103), .int (M.1 94 19), .int (M.1 94 20), if M.1 94 21 = 0 then .null else .ref (g.2.1 104), if M.1 94 22 = 0 then .null else .ref (g.2.1 105), if M.1 94 23 = 0 then .null else .ref (g.2.1 106), if M.1 94 24 = 0 then .null else .ref (g.2.1 107), if M.1 94 25 = 0 then .null else .ref (g.2.1 108), if M.1 94 26 = 0 then .null else .ref (g.2.1 109), if M.1 94 27 = 0 then .null else .ref (g.2.1 110), if M.1 94 28 = 0 then .null else .ref (g.2.1 111), if M.1 94 29 = 0 then .null else .ref (g.2.1 112), if M.1 94 30 = 0 then .null else .ref (g.2.1 113), if M.1 94 31 = 0 then .null else .ref (g.2.1 114), if M.1 94 32 = 0 then .null else .ref (g.2.1 115), if M.1 94 33 = 0 then .null else .ref (g.2.1 116), if M.1 94 34 = 0 then .null else .ref (g.2.1 117), .int (M.1 94 35), .int (M.1 94 36), .int (M.1 94 37), if M.1 94 38 = 0 then .null else .ref (g.2.1 118), if M.1 94 39 = 0 then .null else .ref (g.2.1 119), if M.1 94 40 = 0 then .null else .ref (g.2.1 120)] : List Value).set 4 (.ref (g.2.1 97)) = [.int ((mSI M 94 4 1).1 94 0), if (mSI M 94 4 1).1 94 1 = 0 then .null else .ref (g.2.1 95), if (mSI M 94 4 1).1 94 2 = 0 then .null else .ref (g.2.1 96), .int ((mSI M 94 4 1).1 94 3), if (mSI M 94 4 1).1 94 4 = 0 then .null else .ref (g.2.1 97), .int ((mSI M 94 4 1).1 94 5), .int ((mSI M 94 4 1).1 94 6), .int ((mSI M 94 4 1).1 94 7), .int ((mSI M 94 4 1).1 94 8), .int ((mSI M 94 4 1).1 94 9), if (mSI M 94 4 1).1 94 10 = 0 then .null else .ref (g.2.1 98), if (mSI M 94 4 1).1 94 11 = 0 then .null else .ref (g.2.1 99), if (mSI M 94 4 1).1 94 12 = 0 then .null else .ref (g.2.1 100), if (mSI M 94 4 1).1 94 13 = 0 then .null else .ref (g.2.1 101), .int ((mSI M 94 4 1).1 94 14), .long ((mSI M 94 4 1).2 94 15), .long ((mSI M 94 4 1).2 94 16), if (mSI M 94 4 1).1 94 17 = 0 then .null else .ref (g.2.1 102), if (mSI M 94 4 1).1 94 18 = 0 then .null else .ref (g.2.1 103), .int ((mSI M 94 4 1).1 94 19), .int ((mSI M 94 4 1).1 94 20), if (mSI M 94 4 1).1 94 21 = 0 then .null else .ref (g.2.1 104), if (mSI M 94 4 1).1 94 22 = 0 then .null else .ref (g.2.1 105), if (mSI M 94 4 1).1 94 23 = 0 then .null else .ref (g.2.1 106), if (mSI M 94 4 1).1 94 24 = 0 then .null else .ref (g.2.1 107), if (mSI M 94 4 1).1 94 25 = 0 then .null else .ref (g.2.1 108), if (mSI M 94 4 1).1 94 26 = 0 then .null else .ref (g.2.1 109), if (mSI M 94 4 1).1 94 27 = 0 then .null else .ref (g.2.1 110), if (mSI M 94 4 1).1 94 28 = 0 then .null else .ref (g.2.1 111), if (mSI M 94 4 1).1 94 29 = 0 then .null else .ref (g.2.1 112), if (mSI M 94 4 1).1 94 30 = 0 then .null else .ref (g.2.1 113), if (mSI M 94 4 1).1 94 31 = 0 then .null else .ref (g.2.1 114), if (mSI M 94 4 1).1 94 32 = 0 then .null else .ref (g.2.1 115), if (mSI M 94 4 1).1 94 33 = 0 then .null else .ref (g.2.1 116), if (mSI M 94 4 1).1 94 34 = 0 then .null else .ref (g.2.1 117), .int ((mSI M 94 4 1).1 94 35), .int ((mSI M 94 4 1).1 94 36), .int ((mSI M 94 4 1).1 94 37), if (mSI M 94 4 1).1 94 38 = 0 then .null else .ref (g.2.1 118), if (mSI M 94 4 1).1 94 39 = 0 then .null else .ref (g.2.1 119), if (mSI M 94 4 1).1 94 40 = 0 then .null else .ref (g.2.1 120)] := by first | (simp [mSI, mSL, upd, vp_updL]; done) | rfl
theorem sC_94_9 (g : GB) (M : Mem) (v : Int32) : ([.int (M.1 94 0), if M.1 94 1 = 0 then .null else .ref (g.2.1 95), if M.1 94 2 = 0 then .null else .ref (g.2.1 96), .int (M.1 94 3), if M.1 94 4 = 0 then .null else .ref (g.2.1 97), .int (M.1 94 5), .int (M.1 94 6), .int (M.1 94 7), .int (M.1 94 8), .int (M.1 94 9), if M.1 94 10 = 0 then .null else .ref (g.2.1 98), if M.1 94 11 = 0 then .null else .ref (g.2.1 99), if M.1 94 12 = 0 then .null else .ref (g.2.1 100), if M.1 94 13 = 0 then .null else .ref (g.2.1 101), .int (M.1 94 14), .long (M.2 94 15), .long (M.2 94 16), if M.1 94 17 = 0 then .null else .ref (g.2.1 102), if M.1 94 18 = 0 then .null else .ref (g.2.1 103), .int (M.1 94 19), .int (M.1 94 20), if M.1 94 21 = 0 then .null else .ref (g.2.1 104), if M.1 94 22 = 0 then .null else .ref (g.2.1 105), if M.1 94 23 = 0 then .null else .ref (g.2.1 106), if M.1 94 24 = 0 then .null else .ref (g.2.1 107), if M.1 94 25 = 0 then .null else .ref (g.2.1 108), if M.1 94 26 = 0 then .null else .ref (g.2.1 109), if M.1 94 27 = 0 then .null else .ref (g.2.1 110), if M.1 94 28 = 0 then .null else .ref (g.2.1 111), if M.1 94 29 = 0 then .null else .ref (g.2.1 112), if M.1 94 30 = 0 then .null else .ref (g.2.1 113), if M.1 94 31 = 0 then .null else .ref (g.2.1 114), if M.1 94 32 = 0 then .null else .ref (g.2.1 115), if M.1 94 33 = 0 then .null else .ref (g.2.1 116), if M.1 94 34 = 0 then .null else .ref (g.2.1 117), .int (M.1 94 35), .int (M.1 94 36), .int (M.1 94 37), if M.1 94 38 = 0 then .null else .ref (g.2.1 118), if M.1 94 39 = 0 then .null else .ref (g.2.1 119), if M.1 94 40 = 0 then .null else .ref (g.2.1 120)] : List Value).set 9 (.int v) = [.int ((mSI M 94 9 v).1 94 0), if (mSI M 94 9 v).1 94 1 = 0 then .null else .ref (g.2.1 95), if (mSI M 94 9 v).1 94 2 = 0 then .null else .ref (g.2.1 96), .int ((mSI M 94 9 v).1 94 3), if (mSI M 94 9 v).1 94 4 = 0 then .null else .ref (g.2.1 97), .int ((mSI M 94 9 v).1 94 5), .int ((mSI M 94 9 v).1 94 6), .int ((mSI M 94 9 v).1 94 7), .int ((mSI M 94 9 v).1 94 8), .int ((mSI M 94 9 v).1 94 9), if (mSI M 94 9 v).1 94 10 = 0 then .null else .ref (g.2.1 98), if (mSI M 94 9 v).1 94 11 = 0 then .null else .ref (g.2.1 99), if (mSI M 94 9 v).1 94 12 = 0 then .null else .ref (g.2.1 100), if (mSI M 94 9 v).1 94 13 = 0 then .null else .ref (g.2.1 101), .int ((mSI M 94 9 v).1 94 14), .long ((mSI M 94 9 v).2 94 15), .long ((mSI M 94 9 v).2 94 16), if (mSI M 94 9 v).1 94 17 = 0 then .null else .ref (g.2.1 102), if (mSI M 94 9 v).1 94 18 = 0 then .null else .ref (g.2.1 103), .int ((mSI M 94 9 v).1 94 19), .int ((mSI M 94 9 v).1 94 20), if (mSI M 94 9 v).1 94 21 = 0 then .null else .ref (g.2.1 104), if (mSI M 94 9 v).1 94 22 = 0 then .null else .ref (g.2.1 105), if (mSI M 94 9 v).1 94 23 = 0 then .null else .ref (g.2.1 106), if (mSI M 94 9 v).1 94 24 = 0 then .null else .ref (g.2.1 107), if (mSI M 94 9 v).1 94 25 = 0 then .null else .ref (g.2.1 108), if (mSI M 94 9 v).1 94 26 = 0 then .null else .ref (g.2.1 109), if (mSI M 94 9 v).1 94 27 = 0 then .null else .ref (g.2.1 110), if (mSI M 94 9 v).1 94 28 = 0 then .null else .ref (g.2.1 111), if (mSI M 94 9 v).1 94 29 = 0 then .null else .ref (g.2.1 112), if (mSI M 94 9 v).1 94 30 = 0 then .null else .ref (g.2.1 113), if (mSI M 94 9 v).1 94 31 = 0 then .null else .ref (g.2.1 114), if (mSI M 94 9 v).1 94 32 = 0 then .null else .ref (g.2.1 115), if (mSI M 94 9 v).1 94 33 = 0 then .null else .ref (g.2.1 116), if (mSI M 94 9 v).1 94 34 = 0 then .null else .ref (g.2.1 117), .int ((mSI M 94 9 v).1 94 35), .int ((mSI M 94 9 v).1 94 36), .int ((mSI M 94 9 v).1 94 37), if (mSI M 94 9 v).1 94 38 = 0 then .null else .ref (g.2.1 118), if (mSI M 94 9 v).1 94 39 = 0 then .null else .ref (g.2.1 119), if (mSI M 94 9 v).1 94 40 = 0 then .null else .ref (g.2.1 120)] := by first | (simp [mSI, mSL, upd, vp_updL]; done) | rfl
theorem sC_94_10 (g : GB) (M : Mem) : ([.int (M.1 94 0), if M.1 94 1 = 0 then .null else .ref (g.2.1 95), if M.1 94 2 = 0 then .null else .ref (g.2.1 96), .int (M.1 94 3), if M.1 94 4 = 0 then .null else .ref (g.2.1 97), .int (M.1 94 5), .int (M.1 94 6), .int (M.1 94 7), .int (M.1 94 8), .int (M.1 94 9), if M.1 94 10 = 0 then .null else .ref (g.2.1 98), if M.1 94 11 = 0 then .null else .ref (g.2.1 99), if M.1 94 12 = 0 then .null else .ref (g.2.1 100), if M.1 94 13 = 0 then .null else .ref (g.2.1 101), .int (M.1 94 14), .long (M.2 94 15), .long (M.2 94 16), if M.1 94 17 = 0 then .null else .ref (g.2.1 102), if M.1 94 18 = 0 then .null else .ref (g.2.1 103), .int (M.1 94 19), .int (M.1 94 20), if M.1 94 21 = 0 then .null else .ref (g.2.1 104), if M.1 94 22 = 0 then .null else .ref (g.2.1 105), if M.1 94 23 = 0 then .null else .ref (g.2.1 106), if M.1 94 24 = 0 then .null else .ref (g.2.1 107), if M.1 94 25 = 0 then .null else .ref (g.2.1 108), if M.1 94 26 = 0 then .null else .ref (g.2.1 109), if M.1 94 27 = 0 then .null else .ref (g.2.1 110), if M.1 94 28 = 0 then .null else .ref (g.2.1 111), if M.1 94 29 = 0 then .null else .ref (g.2.1 112), if M.1 94 30 = 0 then .null else .ref (g.2.1 113), if M.1 94 31 = 0 then .null else .ref (g.2.1 114), if M.1 94 32 = 0 then .null else .ref (g.2.1 115), if M.1 94 33 = 0 then .null else .ref (g.2.1 116), if M.1 94 34 = 0 then .null else .ref (g.2.1 117), .int (M.1 94 35), .int (M.1 94 36), .int (M.1 94 37), if M.1 94 38 = 0 then .null else .ref (g.2.1 118), if M.1 94 39 = 0 then .null else .ref (g.2.1 119), if M.1 94 40 = 0 then .null else .ref (g.2.1 120)] : List Value).set 10 (.ref (g.2.1 98)) = [.int ((mSI M 94 10 1).1 94 0), if (mSI M 94 10 1).1 94 1 = 0 then .null else .ref (g.2.1 95), if (mSI M 94 10 1).1 94 2 = 0 then .null else .ref (g.2.1 96), .int ((mSI M 94 10 1).1 94 3), if (mSI M 94 10 1).1 94 4 = 0 then .null else .ref (g.2.1 97), .int ((mSI M 94 10 1).1 94 5), .int ((mSI M 94 10 1).1 94 6), .int ((mSI M 94 10 1).1 94 7), .int ((mSI M 94 10 1).1 94 8), .int ((mSI M 94 10 1).1 94 9), if (mSI M 94 10 1).1 94 10 = 0 then .null else .ref (g.2.1 98), if (mSI M 94 10 1).1 94 11 = 0 then .null else .ref (g.2.1 99), if (mSI M 94 10 1).1 94 12 = 0 then .null else .ref (g.2.1 100), if (mSI M 94 10 1).1 94 13 = 0 then .null else .ref (g.2.1 101), .int ((mSI M 94 10 1).1 94 14), .long ((mSI M 94 10 1).2 94 15), .long ((mSI M 94 10 1).2 94 16), if (mSI M 94 10 1).1 94 17 = 0 then .null else .ref (g.2.1 102), if (mSI M 94 10 1).1 94 18 = 0 then .null else .ref (g.2.1 103), .int ((mSI M 94 10 1).1 94 19), .int ((mSI M 94 10 1).1 94 20), if (mSI M 94 10 1).1 94 21 = 0 then .null else .ref (g.2.1 104), if (mSI M 94 10 1).1 94 22 = 0 then .null else .ref (g.2.1 105), if (mSI M 94 10 1).1 94 23 = 0 then .null else .ref (g.2.1 106), if (mSI M 94 10 1).1 94 24 = 0 then .null else .ref (g.2.1 107), if (mSI M 94 10 1).1 94 25 = 0 then .null else .ref (g.2.1 108), if (mSI M 94 10 1).1 94 26 = 0 then .null else .ref (g.2.1 109), if (mSI M 94 10 1).1 94 27 = 0 then .null else .ref (g.2.1 110), if (mSI M 94 10 1).1 94 28 = 0 then .null else .ref (g.2.1 111), if (mSI M 94 10 1).1 94 29 = 0 then .null else .ref (g.2.1 112), if (mSI M 94 10 1).1 94 30 = 0 then .null else .ref (g.2.1 113), if (mSI M 94 10 1).1 94 31 = 0 then .null else .ref (g.2.1 114), if (mSI M 94 10 1).1 94 32 = 0 then .null else .ref (g.2.1 115), if (mSI M 94 10 1).1 94 33 = 0 then .null else .ref (g.2.1 116), if (mSI M 94 10 1).1 94 34 = 0 then .null else .ref (g.2.1 117), .int ((mSI M 94 10 1).1 94 35), .int ((mSI M 94 10 1).1 94 36), .int ((mSI M 94 10 1).1 94 37), if (mSI M 94 10 1).1 94 38 = 0 then .null else .ref (g.2.1 118), if (mSI M 94 10 1).1 94 39 = 0 then .null else .ref (g.2.1 119), if (mSI M 94 10 1).1 94 40 = 0 then .null else .ref (g.2.1 120)] := by first | (simp [mSI, mSL, upd, vp_updL]; done) | rfl
theorem sC_94_11 (g : GB) (M : Mem) : ([.int (M.1 94 0), if M.1 94 1 = 0 then .null else .ref (g.2.1 95), if M.1 94 2 = 0 then .null else .ref (g.2.1 96), .int (M.1 94 3), if M.1 94 4 = 0 then .null else .ref (g.2.1 97), .int (M.1 94 5), .int (M.1 94 6), .int (M.1 94 7), .int (M.1 94 8), .int (M.1 94 9), if M.1 94 10 = 0 then .null else .ref (g.2.1 98), if M.1 94 11 = 0 then .null else .ref (g.2.1 99), if M.1 94 12 = 0 then .null else .ref (g.2.1 100), if M.1 94 13 = 0 then .null else .ref (g.2.1 101), .int (M.1 94 14), .long (M.2 94 15), .long (M.2 94 16), if M.1 94 17 = 0 then .null else .ref (g.2.1 102), if M.1 94 18 = 0 then .null else .ref (g.2.1 103), .int (M.1 94 19), .int (M.1 94 20), if M.1 94 21 = 0 then .null else .ref (g.2.1 104), if M.1 94 22 = 0 then .null else .ref (g.2.1 105), if M.1 94 23 = 0 then .null else .ref (g.2.1 106), if M.1 94 24 = 0 then .null else .ref (g.2.1 107), if M.1 94 25 = 0 then .null else .ref (g.2.1 108), if M.1 94 26 = 0 then .null else .ref (g.2.1 109), if M.1 94 27 = 0 then .null else .ref (g.2.1 110), if M.1 94 28 = 0 then .null else .ref (g.2.1 111), if M.1 94 29 = 0 then .null else .ref (g.2.1 112), if M.1 94 30 = 0 then .null else .ref (g.2.1 113), if M.1 94 31 = 0 then .null else .ref (g.2.1 114), if M.1 94 32 = 0 then .null else .ref (g.2.1 115), if M.1 94 33 = 0 then .null else .ref (g.2.1 116), if M.1 94 34 = 0 then .null else .ref (g.2.1 117), .int (M.1 94 35), .int (M.1 94 36), .int (M.1 94 37), if M.1 94 38 = 0 then .null else .ref (g.2.1 118), if M.1 94 39 = 0 then .null else .ref (g.2.1 119), if M.1 94 40 = 0 then .null else .ref (g.2.1 120)] : List Value).set 11 (.ref (g.2.1 99)) = [.int ((mSI M 94 11 1).1 94 0), if (mSI M 94 11 1).1 94 1 = 0 then .null else .ref (g.2.1 95), if (mSI M 94 11 1).1 94 2 = 0 then .null else .ref (g.2.1 96), .int ((mSI M 94 11 1).1 94 3), if (mSI M 94 11 1).1 94 4 = 0 then .null else .ref (g.2.1 97), .int ((mSI M 94 11 1).1 94 5), .int ((mSI M 94 11 1).1 94 6), .int ((mSI M 94 11 1).1 94 7), .int ((mSI M 94 11 1).1 94 8), .int ((mSI M 94 11 1).1 94 9), if (mSI M 94 11 1).1 94 10 = 0 then .null else .ref (g.2.1 98), if (mSI M 94 11 1).1 94 11 = 0 then .null else .ref (g.2.1 99), if (mSI M 94 11 1).1 94 12 = 0 then .null else .ref (g.2.1 100), if (mSI M 94 11 1).1 94 13 = 0 then .null else .ref (g.2.1 101), .int ((mSI M 94 11 1).1 94 14), .long ((mSI M 94 11 1).2 94 15), .long ((mSI M 94 11 1).2 94 16), if (mSI M 94 11 1).1 94 17 = 0 then .null else .ref (g.2.1 102), if (mSI M 94 11 1).1 94 18 = 0 then .null else .ref (g.2.1 103), .int ((mSI M 94 11 1).1 94 19), .int ((mSI M 94 11 1).1 94 20), if (mSI M 94 11 1).1 94 21 = 0 then .null else .ref (g.2.1 104), if (mSI M 94 11 1).1 94 22 = 0 then .null else .ref (g.2.1 105), if (mSI M 94 11 1).1 94 23 = 0 then .null else .ref (g.2.1 106), if (mSI M 94 11 1).1 94 24 = 0 then .null else .ref (g.2.1 107), if (mSI M 94 11 1).1 94 25 = 0 then .null else .ref (g.2.1 108), if (mSI M 94 11 1).1 94 26 = 0 then .null else .ref (g.2.1 109), if (mSI M 94 11 1).1 94 27 = 0 then .null else .ref (g.2.1 110), if (mSI M 94 11 1).1 94 28 = 0 then .null else .ref (g.2.1 111), if (mSI M 94 11 1).1 94 29 = 0 then .null else .ref (g.2.1 112), if (mSI M 94 11 1).1 94 30 = 0 then .null else .ref (g.2.1 113), if (mSI M 94 11 1).1 94 31 = 0 then .null else .ref (g.2.1 114), if (mSI M 94 11 1).1 94 32 = 0 then .null else .ref (g.2.1 115), if (mSI M 94 11 1).1 94 33 = 0 then .null else .ref (g.2.1 116), if (mSI M 94 11 1).1 94 34 = 0 then .null else .ref (g.2.1 117), .int ((mSI M 94 11 1).1 94 35), .int ((mSI M 94 11 1).1 94 36), .int ((mSI M 94 11 1).1 94 37), if (mSI M 94 11 1).1 94 38 = 0 then .null else .ref (g.2.1 118), if (mSI M 94 11 1).1 94 39 = 0 then .null else .ref (g.2.1 119), if (mSI M 94 11 1).1 94 40 = 0 then .null else .ref (g.2.1 120)] := by first | (simp [mSI, mSL, upd, vp_updL]; done) | rfl
theorem sC_94_12 (g : GB) (M : Mem) : ([.int (M.1 94 0), if M.1 94 1 = 0 then .null else .ref (g.2.1 95), if M.1 94 2 = 0 then .null else .ref (g.2.1 96), .int (M.1 94 3), if M.1 94 4 = 0 then .null else .ref (g.2.1 97), .int (M.1 94 5), .int (M.1 94 6), .int (M.1 94 7), .int (M.1 94 8), .int (M.1 94 9), if M.1 94 10 = 0 then .null else .ref (g.2.1 98), if M.1 94 11 = 0 then .null else .ref (g.2.1 99), if M.1 94 12 = 0 then .null else .ref (g.2.1 100), if M.1 94 13 = 0 then .null else .ref (g.2.1 101), .int (M.1 94 14), .long (M.2 94 15), .long (M.2 94 16), if M.1 94 17 = 0 then .null else .ref (g.2.1 102), if M.1 94 18 = 0 then .null else .ref (g.2.1 103), .int (M.1 94 19), .int (M.1 94 20), if M.1 94 21 = 0 then .null else .ref (g.2.1 104), if M.1 94 22 = 0 then .null else .ref (g.2.1 105), if M.1 94 23 = 0 then .null else .ref (g.2.1 106), if M.1 94 24 = 0 then .null else .ref (g.2.1 107), if M.1 94 25 = 0 then .null else .ref (g.2.1 108), if M.1 94 26 = 0 then .null else .ref (g.2.1 109), if M.1 94 27 = 0 then .null else .ref (g.2.1 110), if M.1 94 28 = 0 then .null else .ref (g.2.1 111), if M.1 94 29 = 0 then .null else .ref (g.2.1 112), if M.1 94 30 = 0 then .null else .ref (g.2.1 113), if M.1 94 31 = 0 then .null else .ref (g.2.1 114), if M.1 94 32 = 0 then .null else .ref (g.2.1 115), if M.1 94 33 = 0 then .null else .ref (g.2.1 116), if M.1 94 34 = 0 then .null else .ref (g.2.1 117), .int (M.1 94 35), .int (M.1 94 36), .int (M.1 94 37), if M.1 94 38 = 0 then .null else .ref (g.2.1 118), if M.1 94 39 = 0 then .null else .ref (g.2.1 119), if M.1 94 40 = 0 then .null else .ref (g.2.1 120)] : List Value).set 12 (.ref (g.2.1 100)) = [.int ((mSI M 94 12 1).1 94 0), if (mSI M 94 12 1).1 94 1 = 0 then .null else .ref (g.2.1 95), if (mSI M 94 12 1).1 94 2 = 0 then .null else .ref (g.2.1 96), .int ((mSI M 94 12 1).1 94 3), if (mSI M 94 12 1).1 94 4 = 0 then .null else .ref (g.2.1 97), .int ((mSI M 94 12 1).1 94 5), .int ((mSI M 94 12 1).1 94 6), .int ((mSI M 94 12 1).1 94 7), .int ((mSI M 94 12 1).1 94 8), .int ((mSI M 94 12 1).1 94 9), if (mSI M 94 12 1).1 94 10 = 0 then .null else .ref (g.2.1 98), if (mSI M 94 12 1).1 94 11 = 0 then .null else .ref (g.2.1 99), if (mSI M 94 12 1).1 94 12 = 0 then .null else .ref (g.2.1 100), if (mSI M 94 12 1).1 94 13 = 0 then .null else .ref (g.2.1 101), .int ((mSI M 94 12 1).1 94 14), .long ((mSI M 94 12 1).2 94 15), .long ((mSI M 94 12 1).2 94 16), if (mSI M 94 12 1).1 94 17 = 0 then .null else .ref (g.2.1 102), if (mSI M 94 12 1).1 94 18 = 0 then .null else .ref (g.2.1 103), .int ((mSI M 94 12 1).1 94 19), .int ((mSI M 94 12 1).1 94 20), if (mSI M 94 12 1).1 94 21 = 0 then .null else .ref (g.2.1 104), if (mSI M 94 12 1).1 94 22 = 0 then .null else .ref (g.2.1 105), if (mSI M 94 12 1).1 94 23 = 0 then .null else .ref (g.2.1 106), if (mSI M 94 12 1).1 94 24 = 0 then .null else .ref (g.2.1 107), if (mSI M 94 12 1).1 94 25 = 0 then .null else .ref (g.2.1 108), if (mSI M 94 12 1).1 94 26 = 0 then .null else .ref (g.2.1 109), if (mSI M 94 12 1).1 94 27 = 0 then .null else .ref (g.2.1 110), if (mSI M 94 12 1).1 94 28 = 0 then .null else .ref (g.2.1 111), if (mSI M 94 12 1).1 94 29 = 0 then .null else .ref (g.2.1 112), if (mSI M 94 12 1).1 94 30 = 0 then .null else .ref (g.2.1 113), if (mSI M 94 12 1).1 94 31 = 0 then .null else .ref (g.2.1 114), if (mSI M 94 12 1).1 94 32 = 0 then .null else .ref (g.2.1 115), if (mSI M 94 12 1).1 94 33 = 0 then .null else .ref (g.2.1 116), if (mSI M 94 12 1).1 94 34 = 0 then .null else .ref (g.2.1 117), .int ((mSI M 94 12 1).1 94 35), .int ((mSI M 94 12 1).1 94 36), .int ((mSI M 94 12 1).1 94 37), if (mSI M 94 12 1).1 94 38 = 0 then .null else .ref (g.2.1 118), if (mSI M 94 12 1).1 94 39 = 0 then .null else .ref (g.2.1 119), if (mSI M 94 12 1).1 94 40 = 0 then .null else .ref (g.2.1 120)] := by first | (simp [mSI, mSL, upd, vp_updL]; done) | rfl
theorem sC_94_13 (g : GB) (M : Mem) : ([.int (M.1 94 0), if M.1 94 1 = 0 then .null else .ref (g.2.1 95), if M.1 94 2 = 0 then .null else .ref (g.2.1 96), .int (M.1 94 3), if M.1 94 4 = 0 then .null else .ref (g.2.1 97), .int (M.1 94 5), .int (M.1 94 6), .int (M.1 94 7), .int (M.1 94 8), .int (M.1 94 9), if M.1 94 10 = 0 then .null else .ref (g.2.1 98), if M.1 94 11 = 0 then .null else .ref (g.2.1 99), if M.1 94 12 = 0 then .null else .ref (g.2.1 100), if M.1 94 13 = 0 then .null else .ref (g.2.1 101), .int (M.1 94 14), .long (M.2 94 15), .long (M.2 94 16), if M.1 94 17 = 0 then .null else .ref (g.2.1 102), if M.1 94 18 = 0 then .null else .ref (g.2.1 103), .int (M.1 94 19), .int (M.1 94 20), if M.1 94 21 = 0 then .null else .ref (g.2.1 104), if M.1 94 22 = 0 then .null else .ref (g.2.1 105), if M.1 94 23 = 0 then .null else .ref (g.2.1 106), if M.1 94 24 = 0 then .null else .ref (g.2.1 107), if M.1 94 25 = 0 then .null else .ref (g.2.1 108), if M.1 94 26 = 0 then .null else .ref (g.2.1 109), if M.1 94 27 = 0 then .null else .ref (g.2.1 110), if M.1 94 28 = 0 then .null else .ref (g.2.1 111), if M.1 94 29 = 0 then .null else .ref (g.2.1 112), if M.1 94 30 = 0 then .null else .ref (g.2.1 113), if M.1 94 31 = 0 then .null else .ref (g.2.1 114), if M.1 94 32 = 0 then .null else .ref (g.2.1 115), if M.1 94 33 = 0 then .null else .ref (g.2.1 116), if M.1 94 34 = 0 then .null else .ref (g.2.1 117), .int (M.1 94 35), .int (M.1 94 36), .int (M.1 94 37), if M.1 94 38 = 0 then .null else .ref (g.2.1 118), if M.1 94 39 = 0 then .null else .ref (g.2.1 119), if M.1 94 40 = 0 then .null else .ref (g.2.1 120)] : List Value).set 13 (.ref (g.2.1 101)) = [.int ((mSI M 94 13 1).1 94 0), if (mSI M 94 13 1).1 94 1 = 0 then .null else .ref (g.2.1 95), if (mSI M 94 13 1).1 94 2 = 0 then .null else .ref (g.2.1 96), .int ((mSI M 94 13 1).1 94 3), if (mSI M 94 13 1).1 94 4 = 0 then .null else .ref (g.2.1 97), .int ((mSI M 94 13 1).1 94 5), .int ((mSI M 94 13 1).1 94 6), .int ((mSI M 94 13 1).1 94 7), .int ((mSI M 94 13 1).1 94 8), .int ((mSI M 94 13 1).1 94 9), if (mSI M 94 13 1).1 94 10 = 0 then .null else .ref (g.2.1 98), if (mSI M 94 13 1).1 94 11 = 0 then .null else .ref (g.2.1 99), if (mSI M 94 13 1).1 94 12 = 0 then .null else .ref (g.2.1 100), if (mSI M 94 13 1).1 94 13 = 0 then .null else .ref (g.2.1 101), .int ((mSI M 94 13 1).1 94 14), .long ((mSI M 94 13 1).2 94 15), .long ((mSI M 94 13 1).2 94 16), if (mSI M 94 13 1).1 94 17 = 0 then .null else .ref (g.2.1 102), if (mSI M 94 13 1).1 94 18 = 0 then .null else .ref (g.2.1 103), .int ((mSI M 94 13 1).1 94 19), .int ((mSI M 94 13 1).1 94 20), if (mSI M 94 13 1).1 94 21 = 0 then .null else .ref (g.2.1 104), if (mSI M 94 13 1).1 94 22 = 0 then .null else .ref (g.2.1 105), if (mSI M 94 13 1).1 94 23 = 0 then .null else .ref (g.2.1 106), if (mSI M 94 13 1).1 94 24 = 0 then .null else .ref (g.2.1 107), if (mSI M 94 13 1).1 94 25 = 0 then .null else .ref (g.2.1 108), if (mSI M 94 13 1).1 94 26 = 0 then .null else .ref (g.2.1 109), if (mSI M 94 13 1).1 94 27 = 0 then .null else .ref (g.2.1 110), if (mSI M 94 13 1).1 94 28 = 0 then .null else .ref (g.2.1 111), if (mSI M 94 13 1).1 94 29 = 0 then .null else .ref (g.2.1 112), if (mSI M 94 13 1).1 94 30 = 0 then .null else .ref (g.2.1 113), if (mSI M 94 13 1).1 94 31 = 0 then .null else .ref (g.2.1 114), if (mSI M 94 13 1).1 94 32 = 0 then .null else .ref (g.2.1 115), if (mSI M 94 13 1).1 94 33 = 0 then .null else .ref (g.2.1 116), if (mSI M 94 13 1).1 94 34 = 0 then .null else .ref (g.2.1 117), .int ((mSI M 94 13 1).1 94 35), .int ((mSI M 94 13 1).1 94 36), .int ((mSI M 94 13 1).1 94 37), if (mSI M 94 13 1).1 94 38 = 0 then .null else .ref (g.2.1 118), if (mSI M 94 13 1).1 94 39 = 0 then .null else .ref (g.2.1 119), if (mSI M 94 13 1).1 94 40 = 0 then .null else .ref (g.2.1 120)] := by first | (simp [mSI, mSL, upd, vp_updL]; done) | rfl
theorem sC_94_17 (g : GB) (M : Mem) : ([.int (M.1 94 0), if M.1 94 1 = 0 then .null else .ref (g.2.1 95), if M.1 94 2 = 0 then .null else .ref (g.2.1 96), .int (M.1 94 3), if M.1 94 4 = 0 then .null else .ref (g.2.1 97), .int (M.1 94 5), .int (M.1 94 6), .int (M.1 94 7), .int (M.1 94 8), .int (M.1 94 9), if M.1 94 10 = 0 then .null else .ref (g.2.1 98), if M.1 94 11 = 0 then .null else .ref (g.2.1 99), if M.1 94 12 = 0 then .null else .ref (g.2.1 100), if M.1 94 13 = 0 then .null else .ref (g.2.1 101), .int (M.1 94 14), .long (M.2 94 15), .long (M.2 94 16), if M.1 94 17 = 0 then .null else .ref (g.2.1 102), if M.1 94 18 = 0 then .null else .ref (g.2.1 103), .int (M.1 94 19), .int (M.1 94 20), if M.1 94 21 = 0 then .null else .ref (g.2.1 104), if M.1 94 22 = 0 then .null else .ref (g.2.1 105), if M.1 94 23 = 0 then .null else .ref (g.2.1 106), if M.1 94 24 = 0 then .null else .ref (g.2.1 107), if M.1 94 25 = 0 then .null else .ref (g.2.1 108), if M.1 94 26 = 0 then .null else .ref (g.2.1 109), if M.1 94 27 = 0 then .null else .ref (g.2.1 110), if M.1 94 28 = 0 then .null else .ref (g.2.1 111), if M.1 94 29 = 0 then .null else .ref (g.2.1 112), if M.1 94 30 = 0 then .null else .ref (g.2.1 113), if M.1 94 31 = 0 then .null else .ref (g.2.1 114), if M.1 94 32 = 0 then .null else .ref (g.2.1 115), if M.1 94 33 = 0 then .null else .ref (g.2.1 116), if M.1 94 34 = 0 then .null else .ref (g.2.1 117), .int (M.1 94 35), .int (M.1 94 36), .int (M.1 94 37), if M.1 94 38 = 0 then .null else .ref (g.2.1 118), if M.1 94 39 = 0 then .null else .ref (g.2.1 119), if M.1 94 40 = 0 then .null else .ref (g.2.1 120)] : List Value).set 17 (.ref (g.2.1 102)) = [.int ((mSI M 94 17 1).1 94 0), if (mSI M 94 17 1).1 94 1 = 0 then .null else .ref (g.2.1 95), if (mSI M 94 17 1).1 94 2 = 0 then .null else .ref (g.2.1 96), .int ((mSI M 94 17 1).1 94 3), if (mSI M 94 17 1).1 94 4 = 0 then .null else .ref (g.2.1 97), .int ((mSI M 94 17 1).1 94 5), .int ((mSI M 94 17 1).1 94 6), .int ((mSI M 94 17 1).1 94 7), .int ((mSI M 94 17 1).1 94 8), .int ((mSI M 94 17 1).1 94 9), if (mSI M 94 17 1).1 94 10 = 0 then .null else .ref (g.2.1 98), if (mSI M 94 17 1).1 94 11 = 0 then .null else .ref (g.2.1 99), if (mSI M 94 17 1).1 94 12 = 0 then .null else .ref (g.2.1 100), if (mSI M 94 17 1).1 94 13 = 0 then .null else .ref (g.2.1 101), .int ((mSI M 94 17 1).1 94 14), .long ((mSI M 94 17 1).2 94 15), .long ((mSI M 94 17 1).2 94 16), if (mSI M 94 17 1).1 94 17 = 0 then .null else .ref (g.2.1 102), if (mSI M 94 17 1).1 94 18 = 0 then .null else .ref (g.2.1 103), .int ((mSI M 94 17 1).1 94 19), .int ((mSI M 94 17 1).1 94 20), if (mSI M 94 17 1).1 94 21 = 0 then .null else .ref (g.2.1 104), if (mSI M 94 17 1).1 94 22 = 0 then .null else .ref (g.2.1 105), if (mSI M 94 17 1).1 94 23 = 0 then .null else .ref (g.2.1 106), if (mSI M 94 17 1).1 94 24 = 0 then .null else .ref (g.2.1 107), if (mSI M 94 17 1).1 94 25 = 0 then .null else .ref (g.2.1 108), if (mSI M 94 17 1).1 94 26 = 0 then .null else .ref (g.2.1 109), if (mSI M 94 17 1).1 94 27 = 0 then .null else .ref (g.2.1 110), if (mSI M 94 17 1).1 94 28 = 0 then .null else .ref (g.2.1 111), if (mSI M 94 17 1).1 94 29 = 0 then .null else .ref (g.2.1 112), if (mSI M 94 17 1).1 94 30 = 0 then .null else .ref (g.2.1 113), if (mSI M 94 17 1).1 94 31 = 0 then .null else .ref (g.2.1 114), if (mSI M 94 17 1).1 94 32 = 0 then .null else .ref (g.2.1 115), if (mSI M 94 17 1).1 94 33 = 0 then .null else .ref (g.2.1 116), if (mSI M 94 17 1).1 94 34 = 0 then .null else .ref (g.2.1 117), .int ((mSI M 94 17 1).1 94 35), .int ((mSI M 94 17 1).1 94 36), .int ((mSI M 94 17 1).1 94 37), if (mSI M 94 17 1).1 94 38 = 0 then .null else .ref (g.2.1 118), if (mSI M 94 17 1).1 94 39 = 0 then .null else .ref (g.2.1 119), if (mSI M 94 17 1).1 94 40 = 0 then .null else .ref (g.2.1 120)] := by first | (simp [mSI, mSL, upd, vp_updL]; done) | rfl
theorem sC_94_18 (g : GB) (M : Mem) : ([.int (M.1 94 0), if M.1 94 1 = 0 then .null else .ref (g.2.1 95), if M.1 94 2 = 0 then .null else .ref (g.2.1 96), .int (M.1 94 3), if M.1 94 4 = 0 then .null else .ref (g.2.1 97), .int (M.1 94 5), .int (M.1 94 6), .int (M.1 94 7), .int (M.1 94 8), .int (M.1 94 9), if M.1 94 10 = 0 then .null else .ref (g.2.1 98), if M.1 94 11 = 0 then .null else .ref (g.2.1 99), if M.1 94 12 = 0 then .null else .ref (g.2.1 100), if M.1 94 13 = 0 then .null else .ref (g.2.1 101), .int (M.1 94 14), .long (M.2 94 15), .long (M.2 94 16), if M.1 94 17 = 0 then .null else .ref (g.2.1 102), if M.1 94 18 = 0 then .null else .ref (g.2.1 103), .int (M.1 94 19), .int (M.1 94 20), if M.1 94 21 = 0 then .null else .ref (g.2.1 104), if M.1 94 22 = 0 then .null else .ref (g.2.1 105), if M.1 94 23 = 0 then .null else .ref (g.2.1 106), if M.1 94 24 = 0 then .null else .ref (g.2.1 107), if M.1 94 25 = 0 then .null else .ref (g.2.1 108), if M.1 94 26 = 0 then .null else .ref (g.2.1 109), if M.1 94 27 = 0 then .null else .ref (g.2.1 110), if M.1 94 28 = 0 then .null else .ref (g.2.1 111), if M.1 94 29 = 0 then .null else .ref (g.2.1 112), if M.1 94 30 = 0 then .null else .ref (g.2.1 113), if M.1 94 31 = 0 then .null else .ref (g.2.1 114), if M.1 94 32 = 0 then .null else .ref (g.2.1 115), if M.1 94 33 = 0 then .null else .ref (g.2.1 116), if M.1 94 34 = 0 then .null else .ref (g.2.1 117), .int (M.1 94 35), .int (M.1 94 36), .int (M.1 94 37), if M.1 94 38 = 0 then .null else .ref (g.2.1 118), if M.1 94 39 = 0 then .null else .ref (g.2.1 119), if M.1 94 40 = 0 then .null else .ref (g.2.1 120)] : List Value).set 18 (.ref (g.2.1 103)) = [.int ((mSI M 94 18 1).1 94 0), if (mSI M 94 18 1).1 94 1 = 0 then .null else .ref (g.2.1 95), if (mSI M 94 18 1).1 94 2 = 0 then .null else .ref (g.2.1 96), .int ((mSI M 94 18 1).1 94 3), if (mSI M 94 18 1).1 94 4 = 0 then .null else .ref (g.2.1 97), .int ((mSI M 94 18 1).1 94 5), .int ((mSI M 94 18 1).1 94 6), .int ((mSI M 94 18 1).1 94 7), .int ((mSI M 94 18 1).1 94 8), .int ((mSI M 94 18 1).1 94 9), if (mSI M 94 18 1).1 94 10 = 0 then .null else .ref (g.2.1 98), if (mSI M 94 18 1).1 94 11 = 0 then .null else .ref (g.2.1 99), if (mSI M 94 18 1).1 94 12 = 0 then .null else .ref (g.2.1 100), if (mSI M 94 18 1).1 94 13 = 0 then .null else .ref (g.2.1 101), .int ((mSI M 94 18 1).1 94 14), .long ((mSI M 94 18 1).2 94 15), .long ((mSI M 94 18 1).2 94 16), if (mSI M 94 18 1).1 94 17 = 0 then .null else .ref (g.2.1 102), if (mSI M 94 18 1).1 94 18 = 0 then .null else .ref (g.2.1 103), .int ((mSI M 94 18 1).1 94 19), .int ((mSI M 94 18 1).1 94 20), if (mSI M 94 18 1).1 94 21 = 0 then .null else .ref (g.2.1 104), if (mSI M 94 18 1).1 94 22 = 0 then .null else .ref (g.2.1 105), if (mSI M 94 18 1).1 94 23 = 0 then .null else .ref (g.2.1 106), if (mSI M 94 18 1).1 94 24 = 0 then .null else .ref (g.2.1 107), if (mSI M 94 18 1).1 94 25 = 0 then .null else .ref (g.2.1 108), if (mSI M 94 18 1).1 94 26 = 0 then .null else .ref (g.2.1 109), if (mSI M 94 18 1).1 94 27 = 0 then .null else .ref (g.2.1 110), if (mSI M 94 18 1).1 94 28 = 0 then .null else .ref (g.2.1 111), if (mSI M 94 18 1).1 94 29 = 0 then .null else .ref (g.2.1 112), if (mSI M 94 18 1).1 94 30 = 0 then .null else .ref (g.2.1 113), if (mSI M 94 18 1).1 94 31 = 0 then .null else .ref (g.2.1 114), if (mSI M 94 18 1).1 94 32 = 0 then .null else .ref (g.2.1 115), if (mSI M 94 18 1).1 94 33 = 0 then .null else .ref (g.2.1 116), if (mSI M 94 18 1).1 94 34 = 0 then .null else .ref (g.2.1 117), .int ((mSI M 94 18 1).1 94 35), .int ((mSI M 94 18 1).1 94 36), .int ((mSI M 94 18 1).1 94 37), if (mSI M 94 18 1).1 94 38 = 0 then .null else .ref (g.2.1 118), if (mSI M 94 18 1).1 94 39 = 0 then .null else .ref (g.2.1 119), if (mSI M 94 18 1).1 94 40 = 0 then .null else .ref (g.2.1 120)] := by first | (simp [mSI, mSL, upd, vp_updL]; done) | rfl
theorem sC_94_21 (g : GB) (M : Mem) : ([.int (M.1 94 0), if M.1 94 1 = 0 then .null else .ref (g.2.1 95), if M.1 94 2 = 0 then .null else .ref (g.2.1 96), .int (M.1 94 3), if M.1 94 4 = 0 then .null else .ref (g.2.1 97), .int (M.1 94 5), .int (M.1 94 6), .int (M.1 94 7), .int (M.1 94 8), .int (M.1 94 9), if M.1 94 10 = 0 then .null else .ref (g.2.1 98), if M.1 94 11 = 0 then .null else .ref (g.2.1 99), if M.1 94 12 = 0 then .null else .ref (g.2.1 100), if M.1 94 13 = 0 then .null else .ref (g.2.1 101), .int (M.1 94 14), .long (M.2 94 15), .long (M.2 94 16), if M.1 94 17 = 0 then .null else .ref (g.2.1 102), if M.1 94 18 = 0 then .null else .ref (g.2.1 103), .int (M.1 94 19), .int (M.1 94 20), if M.1 94 21 = 0 then .null else .ref (g.2.1 104), if M.1 94 22 = 0 then .null else .ref (g.2.1 105), if M.1 94 23 = 0 then .null else .ref (g.2.1 106), if M.1 94 24 = 0 then .null else .ref (g.2.1 107), if M.1 94 25 = 0 then .null else .ref (g.2.1 108), if M.1 94 26 = 0 then .null else .ref (g.2.1 109), if M.1 94 27 = 0 then .null else .ref (g.2.1 110), if M.1 94 28 = 0 then .null else .ref (g.2.1 111), if M.1 94 29 = 0 then .null else .ref (g.2.1 112), if M.1 94 30 = 0 then .null else .ref (g.2.1 113), if M.1 94 31 = 0 then .null else .ref (g.2.1 114), if M.1 94 32 = 0 then .null else .ref (g.2.1 115), if M.1 94 33 = 0 then .null else .ref (g.2.1 116), if M.1 94 34 = 0 then .null else .ref (g.2.1 117), .int (M.1 94 35), .int (M.1 94 36), .int (M.1 94 37), if M.1 94 38 = 0 then .null else .ref (g.2.1 118), if M.1 94 39 = 0 then .null else .ref (g.2.1 119), if M.1 94 40 = 0 then .null else .ref (g.2.1 120)] : List Value).set 21 (.ref (g.2.1 104)) = [.int ((mSI M 94 21 1).1 94 0), if (mSI M 94 21 1).1 94 1 = 0 then .null else .ref (g.2.1 95), if (mSI M 94 21 1).1 94 2 = 0 then .null else .ref (g.2.1 96), .int ((mSI M 94 21 1).1 94 3), if (mSI M 94 21 1).1 94 4 = 0 then .null else .ref (g.2.1 97), .int ((mSI M 94 21 1).1 94 5), .int ((mSI M 94 21 1).1 94 6), .int ((mSI M 94 21 1).1 94 7), .int ((mSI M 94 21 1).1 94 8), .int ((mSI M 94 21 1).1 94 9), if (mSI M 94 21 1).1 94 10 = 0 then .null else .ref (g.2.1 98), if (mSI M 94 21 1).1 94 11 = 0 then .null else .ref (g.2.1 99), if (mSI M 94 21 1).1 94 12 = 0 then .null else .ref (g.2.1 100), if (mSI M 94 21 1).1 94 13 = 0 then .null else .ref (g.2.1 101), .int ((mSI M 94 21 1).1 94 14), .long ((mSI M 94 21 1).2 94 15), .long ((mSI M 94 21 1).2 94 16), if (mSI M 94 21 1).1 94 17 = 0 then .null else .ref (g.2.1 102), if (mSI M 94 21 1).1 94 18 = 0 then .null else .ref (g.2.1 103), .int ((mSI M 94 21 1).1 94 19), .int ((mSI M 94 21 1).1 94 20), if (mSI M 94 21 1).1 94 21 = 0 then .null else .ref (g.2.1 104), if (mSI M 94 21 1).1 94 22 = 0 then .null else .ref (g.2.1 105), if (mSI M 94 21 1).1 94 23 = 0 then .null else .ref (g.2.1 106), if (mSI M 94 21 1).1 94 24 = 0 then .null else .ref (g.2.1 107), if (mSI M 94 21 1).1 94 25 = 0 then .null else .ref (g.2.1 108), if (mSI M 94 21 1).1 94 26 = 0 then .null else .ref (g.2.1 109), if (mSI M 94 21 1).1 94 27 = 0 then .null else .ref (g.2.1 110), if (mSI M 94 21 1).1 94 28 = 0 then .null else .ref (g.2.1 111), if (mSI M 94 21 1).1 94 29 = 0 then .null else .ref (g.2.1 112), if (mSI M 94 21 1).1 94 30 = 0 then .null else .ref (g.2.1 113), if (mSI M 94 21 1).1 94 31 = 0 then .null else .ref (g.2.1 114), if (mSI M 94 21 1).1 94 32 = 0 then .null else .ref (g.2.1 115), if (mSI M 94 21 1).1 94 33 = 0 then .null else .ref (g.2.1 116), if (mSI M 94 21 1).1 94 34 = 0 then .null else .ref (g.2.1 117), .int ((mSI M 94 21 1).1 94 35), .int ((mSI M 94 21 1).1 94 36), .int ((mSI M 94 21 1).1 94 37), if (mSI M 94 21 1).1 94 38 = 0 then .null else .ref (g.2.1 118), if (mSI M 94 21 1).1 94 39 = 0 then .null else .ref (g.2.1 119), if (mSI M 94 21 1).1 94 40 = 0 then .null else .ref (g.2.1 120)] := by first | (simp [mSI, mSL, upd, vp_updL]; done) | rfl
theorem sC_94_22 (g : GB) (M : Mem) : ([.int (M.1 94 0), if M.1 94 1 = 0 then .null else .ref (g.2.1 95), if M.1 94 2 = 0 then .null else .ref (g.2.1 96), .int (M.1 94 3), if M.1 94 4 = 0 then .null else .ref (g.2.1 97), .int (M.1 94 5), .int (M.1 94 6), .int (M.1 94 7), .int (M.1 94 8), .int (M.1 94 9), if M.1 94 10 = 0 then .null else .ref (g.2.1 98), if M.1 94 11 = 0 then .null else .ref (g.2.1 99), if M.1 94 12 = 0 then .null else .ref (g.2.1 100), if M.1 94 13 = 0 then .null else .ref (g.2.1 101), .int (M.1 94 14), .long (M.2 94 15), .long (M.2 94 16), if M.1 94 17 = 0 then .null else .ref (g.2.1 102), if M.1 94 18 = 0 then .null else .ref (g.2.1 103), .int (M.1 94 19), .int (M.1 94 20), if M.1 94 21 = 0 then .null else .ref (g.2.1 104), if M.1 94 22 = 0 then .null else .ref (g.2.1 105), if M.1 94 23 = 0 then .null else .ref (g.2.1 106), if M.1 94 24 = 0 then .null else .ref (g.2.1 107), if M.1 94 25 = 0 then .null else .ref (g.2.1 108), if M.1 94 26 = 0 then .null else .ref (g.2.1 109), if M.1 94 27 = 0 then .null else .ref (g.2.1 110), if M.1 94 28 = 0 then .null else .ref (g.2.1 111), if M.1 94 29 = 0 then .null else .ref (g.2.1 112), if M.1 94 30 = 0 then .null else .ref (g.2.1 113), if M.1 94 31 = 0 then .null else .ref (g.2.1 114), if M.1 94 32 = 0 then .null else .ref (g.2.1 115), if M.1 94 33 = 0 then .null else .ref (g.2.1 116), if M.1 94 34 = 0 then .null else .ref (g.2.1 117), .int (M.1 94 35), .int (M.1 94 36), .int (M.1 94 37), if M.1 94 38 = 0 then .null else .ref (g.2.1 118), if M.1 94 39 = 0 then .null else .ref (g.2.1 119), if M.1 94 40 = 0 then .null else .ref (g.2.1 120)] : List Value).set 22 (.ref (g.2.1 105)) = [.int ((mSI M 94 22 1).1 94 0), if (mSI M 94 22 1).1 94 1 = 0 then .null else .ref (g.2.1 95), if (mSI M 94 22 1).1 94 2 = 0 then .null else .ref (g.2.1 96), .int ((mSI M 94 22 1).1 94 3), if (mSI M 94 22 1).1 94 4 = 0 then .null else .ref (g.2.1 97), .int ((mSI M 94 22 1).1 94 5), .int ((mSI M 94 22 1).1 94 6), .int ((mSI M 94 22 1).1 94 7), .int ((mSI M 94 22 1).1 94 8), .int ((mSI M 94 22 1).1 94 9), if (mSI M 94 22 1).1 94 10 = 0 then .null else .ref (g.2.1 98), if (mSI M 94 22 1).1 94 11 = 0 then .null else .ref (g.2.1 99), if (mSI M 94 22 1).1 94 12 = 0 then .null else .ref (g.2.1 100), if (mSI M 94 22 1).1 94 13 = 0 then .null else .ref (g.2.1 101), .int ((mSI M 94 22 1).1 94 14), .long ((mSI M 94 22 1).2 94 15), .long ((mSI M 94 22 1).2 94 16), if (mSI M 94 22 1).1 94 17 = 0 then .null else .ref (g.2.1 102), if (mSI M 94 22 1).1 94 18 = 0 then .null else .ref (g.2.1 103), .int ((mSI M 94 22 1).1 94 19), .int ((mSI M 94 22 1).1 94 20), if (mSI M 94 22 1).1 94 21 = 0 then .null else .ref (g.2.1 104), if (mSI M 94 22 1).1 94 22 = 0 then .null else .ref (g.2.1 105), if (mSI M 94 22 1).1 94 23 = 0 then .null else .ref (g.2.1 106), if (mSI M 94 22 1).1 94 24 = 0 then .null else .ref (g.2.1 107), if (mSI M 94 22 1).1 94 25 = 0 then .null else .ref (g.2.1 108), if (mSI M 94 22 1).1 94 26 = 0 then .null else .ref (g.2.1 109), if (mSI M 94 22 1).1 94 27 = 0 then .null else .ref (g.2.1 110), if (mSI M 94 22 1).1 94 28 = 0 then .null else .ref (g.2.1 111), if (mSI M 94 22 1).1 94 29 = 0 then .null else .ref (g.2.1 112), if (mSI M 94 22 1).1 94 30 = 0 then .null else .ref (g.2.1 113), if (mSI M 94 22 1).1 94 31 = 0 then .null else .ref (g.2.1 114), if (mSI M 94 22 1).1 94 32 = 0 then .null else .ref (g.2.1 115), if (mSI M 94 22 1).1 94 33 = 0 then .null else .ref (g.2.1 116), if (mSI M 94 22 1).1 94 34 = 0 then .null else .ref (g.2.1 117), .int ((mSI M 94 22 1).1 94 35), .int ((mSI M 94 22 1).1 94 36), .int ((mSI M 94 22 1).1 94 37), if (mSI M 94 22 1).1 94 38 = 0 then .null else .ref (g.2.1 118), if (mSI M 94 22 1).1 94 39 = 0 then .null else .ref (g.2.1 119), if (mSI M 94 22 1).1 94 40 = 0 then .null else .ref (g.2.1 120)] := by first | (simp [mSI, mSL, upd, vp_updL]; done) | rfl
theorem sC_94_23 (g : GB) (M : Mem) : ([.int (M.1 94 0), if M.1 94 1 = 0 then .null else .ref (g.2.1 95), if M.1 94 2 = 0 then .null else .ref (g.2.1 96), .int (M.1 94 3), if M.1 94 4 = 0 then .null else .ref (g.2.1 97), .int (M.1 94 5), .int (M.1 94 6), .int (M.1 94 7), .int (M.1 94 8), .int (M.1 94 9), if M.1 94 10 = 0 then .null else .ref (g.2.1 98), if M.1 94 11 = 0 then .null else .ref (g.2.1 99), if M.1 94 12 = 0 then .null else .ref (g.2.1 100), if M.1 94 13 = 0 then .null else .ref (g.2.1 101), .int (M.1 94 14), .long (M.2 94 15), .long (M.2 94 16), if M.1 94 17 = 0 then .null else .ref (g.2.1 102), if M.1 94 18 = 0 then .null else .ref (g.2.1 103), .int (M.1 94 19), .int (M.1 94 20), if M.1 94 21 = 0 then .null else .ref (g.2.1 104), if M.1 94 22 = 0 then .null else .ref (g.2.1 105), if M.1 94 23 = 0 then .null else .ref (g.2.1 106), if M.1 94 24 = 0 then .null else .ref (g.2.1 107), if M.1 94 25 = 0 then .null else .ref (g.2.1 108), if M.1 94 26 = 0 then .null else .ref (g.2.1 109), if M.1 94 27 = 0 then .null else .ref (g.2.1 110), if M.1 94 28 = 0 then .null else .ref (g.2.1 111), if M.1 94 29 = 0 then .null else .ref (g.2.1 112), if M.1 94 30 = 0 then .null else .ref (g.2.1 113), if M.1 94 31 = 0 then .null else .ref (g.2.1 114), if M.1 94 32 = 0 then .null else .ref (g.2.1 115), if M.1 94 33 = 0 then .null else .ref (g.2.1 116), if M.1 94 34 = 0 then .null else .ref (g.2.1 117), .int (M.1 94 35), .int (M.1 94 36), .int (M.1 94 37), if M.1 94 38 = 0 then .null else .ref (g.2.1 118), if M.1 94 39 = 0 then .null else .ref (g.2.1 119), if M.1 94 40 = 0 then .null else .ref (g.2.1 120)] : List Value).set 23 (.ref (g.2.1 106)) = [.int ((mSI M 94 23 1).1 94 0), if (mSI M 94 23 1).1 94 1 = 0 then .null else .ref (g.2.1 95), if (mSI M 94 23 1).1 94 2 = 0 then .null else .ref (g.2.1 96), .int ((mSI M 94 23 1).1 94 3), if (mSI M 94 23 1).1 94 4 = 0 then .null else .ref (g.2.1 97), .int ((mSI M 94 23 1).1 94 5), .int ((mSI M 94 23 1).1 94 6), .int ((mSI M 94 23 1).1 94 7), .int ((mSI M 94 23 1).1 94 8), .int ((mSI M 94 23 1).1 94 9), if (mSI M 94 23 1).1 94 10 = 0 then .null else .ref (g.2.1 98), if (mSI M 94 23 1).1 94 11 = 0 then .null else .ref (g.2.1 99), if (mSI M 94 23 1).1 94 12 = 0 then .null else .ref (g.2.1 100), if (mSI M 94 23 1).1 94 13 = 0 then .null else .ref (g.2.1 101), .int ((mSI M 94 23 1).1 94 14), .long ((mSI M 94 23 1).2 94 15), .long ((mSI M 94 23 1).2 94 16), if (mSI M 94 23 1).1 94 17 = 0 then .null else .ref (g.2.1 102), if (mSI M 94 23 1).1 94 18 = 0 then .null else .ref (g.2.1 103), .int ((mSI M 94 23 1).1 94 19), .int ((mSI M 94 23 1).1 94 20), if (mSI M 94 23 1).1 94 21 = 0 then .null else .ref (g.2.1 104), if (mSI M 94 23 1).1 94 22 = 0 then .null else .ref (g.2.1 105), if (mSI M 94 23 1).1 94 23 = 0 then .null else .ref (g.2.1 106), if (mSI M 94 23 1).1 94 24 = 0 then .null else .ref (g.2.1 107), if (mSI M 94 23 1).1 94 25 = 0 then .null else .ref (g.2.1 108), if (mSI M 94 23 1).1 94 26 = 0 then .null else .ref (g.2.1 109), if (mSI M 94 23 1).1 94 27 = 0 then .null else .ref (g.2.1 110), if (mSI M 94 23 1).1 94 28 = 0 then .null else .ref (g.2.1 111), if (mSI M 94 23 1).1 94 29 = 0 then .null else .ref (g.2.1 112), if (mSI M 94 23 1).1 94 30 = 0 then .null else .ref (g.2.1 113), if (mSI M 94 23 1).1 94 31 = 0 then .null else .ref (g.2.1 114), if (mSI M 94 23 1).1 94 32 = 0 then .null else .ref (g.2.1 115), if (mSI M 94 23 1).1 94 33 = 0 then .null else .ref (g.2.1 116), if (mSI M 94 23 1).1 94 34 = 0 then .null else .ref (g.2.1 117), .int ((mSI M 94 23 1).1 94 35), .int ((mSI M 94 23 1).1 94 36), .int ((mSI M 94 23 1).1 94 37), if (mSI M 94 23 1).1 94 38 = 0 then .null else .ref (g.2.1 118), if (mSI M 94 23 1).1 94 39 = 0 then .null else .ref (g.2.1 119), if (mSI M 94 23 1).1 94 40 = 0 then .null else .ref (g.2.1 120)] := by first | (simp [mSI, mSL, upd, vp_updL]; done) | rfl
theorem sC_94_24 (g : GB) (M : Mem) : ([.int (M.1 94 0), if M.1 94 1 = 0 then .null else .ref (g.2.1 95), if M.1 94 2 = 0 then .null else .ref (g.2.1 96), .int (M.1 94 3), if M.1 94 4 = 0 then .null else .ref (g.2.1 97), .int (M.1 94 5), .int (M.1 94 6), .int (M.1 94 7), .int (M.1 94 8), .int (M.1 94 9), if M.1 94 10 = 0 then .null else .ref (g.2.1 98), if M.1 94 11 = 0 then .null else .ref (g.2.1 99), if M.1 94 12 = 0 then .null else .ref (g.2.1 100), if M.1 94 13 = 0 then .null else .ref (g.2.1 101), .int (M.1 94 14), .long (M.2 94 15), .long (M.2 94 16), if M.1 94 17 = 0 then .null else .ref (g.2.1 102), if M.1 94 18 = 0 then .null else .ref (g.2.1 103), .int (M.1 94 19), .int (M.1 94 20), if M.1 94 21 = 0 then .null else .ref (g.2.1 104), if M.1 94 22 = 0 then .null else .ref (g.2.1 105), if M.1 94 23 = 0 then .null else .ref (g.2.1 106), if M.1 94 24 = 0 then .null else .ref (g.2.1 107), if M.1 94 25 = 0 then .null else .ref (g.2.1 108), if M.1 94 26 = 0 then .null else .ref (g.2.1 109), if M.1 94 27 = 0 then .null else .ref (g.2.1 110), if M.1 94 28 = 0 then .null else .ref (g.2.1 111), if M.1 94 29 = 0 then .null else .ref (g.2.1 112), if M.1 94 30 = 0 then .null else .ref (g.2.1 113), if M.1 94 31 = 0 then .null else .ref (g.2.1 114), if M.1 94 32 = 0 then .null else .ref (g.2.1 115), if M.1 94 33 = 0 then .null else .ref (g.2.1 116), if M.1 94 34 = 0 then .null else .ref (g.2.1 117), .int (M.1 94 35), .int (M.1 94 36), .int (M.1 94 37), if M.1 94 38 = 0 then .null else .ref (g.2.1 118), if M.1 94 39 = 0 then .null else .ref (g.2.1 119), if M.1 94 40 = 0 then .null else .ref (g.2.1 120)] : List Value).set 24 (.ref (g.2.1 107)) = [.int ((mSI M 94 24 1).1 94 0), if (mSI M 94 24 1).1 94 1 = 0 then .null else .ref (g.2.1 95), if (mSI M 94 24 1).1 94 2 = 0 then .null else .ref (g.2.1 96), .int ((mSI M 94 24 1).1 94 3), if (mSI M 94 24 1).1 94 4 = 0 then .null else .ref (g.2.1 97), .int ((mSI M 94 24 1).1 94 5), .int ((mSI M 94 24 1).1 94 6), .int ((mSI M 94 24 1).1 94 7), .int ((mSI M 94 24 1).1 94 8), .int ((mSI M 94 24 1).1 94 9), if (mSI M 94 24 1).1 94 10 = 0 then .null else .ref (g.2.1 98), if (mSI M 94 24 1).1 94 11 = 0 then .null else .ref (g.2.1 99), if (mSI M 94 24 1).1 94 12 = 0 then .null else .ref (g.2.1 100), if (mSI M 94 24 1).1 94 13 = 0 then .null else .ref (g.2.1 101), .int ((mSI M 94 24 1).1 94 14), .long ((mSI M 94 24 1).2 94 15), .long ((mSI M 94 24 1).2 94 16), if (mSI M 94 24 1).1 94 17 = 0 then .null else .ref (g.2.1 102), if (mSI M 94 24 1).1 94 18 = 0 then .null else .ref (g.2.1 103), .int ((mSI M 94 24 1).1 94 19), .int ((mSI M 94 24 1).1 94 20), if (mSI M 94 24 1).1 94 21 = 0 then .null else .ref (g.2.1 104), if (mSI M 94 24 1).1 94 22 = 0 then .null else .ref (g.2.1 105), if (mSI M 94 24 1).1 94 23 = 0 then .null else .ref (g.2.1 106), if (mSI M 94 24 1).1 94 24 = 0 then .null else .ref (g.2.1 107), if (mSI M 94 24 1).1 94 25 = 0 then .null else .ref (g.2.1 108), if (mSI M 94 24 1).1 94 26 = 0 then .null else .ref (g.2.1 109), if (mSI M 94 24 1).1 94 27 = 0 then .null else .ref (g.2.1 110), if (mSI M 94 24 1).1 94 28 = 0 then .null else .ref (g.2.1 111), if (mSI M 94 24 1).1 94 29 = 0 then .null else .ref (g.2.1 112), if (mSI M 94 24 1).1 94 30 = 0 then .null else .ref (g.2.1 113), if (mSI M 94 24 1).1 94 31 = 0 then .null else .ref (g.2.1 114), if (mSI M 94 24 1).1 94 32 = 0 then .null else .ref (g.2.1 115), if (mSI M 94 24 1).1 94 33 = 0 then .null else .ref (g.2.1 116), if (mSI M 94 24 1).1 94 34 = 0 then .null else .ref (g.2.1 117), .int ((mSI M 94 24 1).1 94 35), .int ((mSI M 94 24 1).1 94 36), .int ((mSI M 94 24 1).1 94 37), if (mSI M 94 24 1).1 94 38 = 0 then .null else .ref (g.2.1 118), if (mSI M 94 24 1).1 94 39 = 0 then .null else .ref (g.2.1 119), if (mSI M 94 24 1).1 94 40 = 0 then .null else .ref (g.2.1 120)] := by first | (simp [mSI, mSL, upd, vp_updL]; done) | rfl
theorem sC_94_25 (g : GB) (M : Mem) : ([.int (M.1 94 0), if M.1 94 1 = 0 then .null else .ref (g.2.1 95), if M.1 94 2 = 0 then .null else .ref (g.2.1 96), .int (M.1 94 3), if M.1 94 4 = 0 then .null else .ref (g.2.1 97), .int (M.1 94 5), .int (M.1 94 6), .int (M.1 94 7), .int (M.1 94 8), .int (M.1 94 9), if M.1 94 10 = 0 then .null else .ref (g.2.1 98), if M.1 94 11 = 0 then .null else .ref (g.2.1 99), if M.1 94 12 = 0 then .null else .ref (g.2.1 100), if M.1 94 13 = 0 then .null else .ref (g.2.1 101), .int (M.1 94 14), .long (M.2 94 15), .long (M.2 94 16), if M.1 94 17 = 0 then .null else .ref (g.2.1 102), if M.1 94 18 = 0 then .null else .ref (g.2.1 103), .int (M.1 94 19), .int (M.1 94 20), if M.1 94 21 = 0 then .null else .ref (g.2.1 104), if M.1 94 22 = 0 then .null else .ref (g.2.1 105), if M.1 94 23 = 0 then .null else .ref (g.2.1 106), if M.1 94 24 = 0 then .null else .ref (g.2.1 107), if M.1 94 25 = 0 then .null else .ref (g.2.1 108), if M.1 94 26 = 0 then .null else .ref (g.2.1 109), if M.1 94 27 = 0 then .null else .ref (g.2.1 110), if M.1 94 28 = 0 then .null else .ref (g.2.1 111), if M.1 94 29 = 0 then .null else .ref (g.2.1 112), if M.1 94 30 = 0 then .null else .ref (g.2.1 113), if M.1 94 31 = 0 then .null else .ref (g.2.1 114), if M.1 94 32 = 0 then .null else .ref (g.2.1 115), if M.1 94 33 = 0 then .null else .ref (g.2.1 116), if M.1 94 34 = 0 then .null else .ref (g.2.1 117), .int (M.1 94 35), .int (M.1 94 36), .int (M.1 94 37), if M.1 94 38 = 0 then .null else .ref (g.2.1 118), if M.1 94 39 = 0 then .null else .ref (g.2.1 119), if M.1 94 40 = 0 then .null else .ref (g.2.1 120)] : List Value).set 25 (.ref (g.2.1 108)) = [.int ((mSI M 94 25 1).1 94 0), if (mSI M 94 25 1).1 94 1 = 0 then .null else .ref (g.2.1 95), if (mSI M 94 25 1).1 94 2 = 0 then .null else .ref (g.2.1 96), .int ((mSI M 94 25 1).1 94 3), if (mSI M 94 25 1).1 94 4 = 0 then .null else .ref (g.2.1 97), .int ((mSI M 94 25 1).1 94 5), .int ((mSI M 94 25 1).1 94 6), .int ((mSI M 94 25 1).1 94 7), .int ((mSI M 94 25 1).1 94 8), .int ((mSI M 94 25 1).1 94 9), if (mSI M 94 25 1).1 94 10 = 0 then .null else .ref (g.2.1 98), if (mSI M 94 25 1).1 94 11 = 0 then .null else .ref (g.2.1 99), if (mSI M 94 25 1).1 94 12 = 0 then .null else .ref (g.2.1 100), if (mSI M 94 25 1).1 94 13 = 0 then .null else .ref (g.2.1 101), .int ((mSI M 94 25 1).1 94 14), .long ((mSI M 94 25 1).2 94 15), .long ((mSI M 94 25 1).2 94 16), if (mSI M 94 25 1).1 94 17 = 0 then .null else .ref (g.2.1 102), if (mSI M 94 25 1).1 94 18 = 0 then .null else .ref (g.2.1 103), .int ((mSI M 94 25 1).1 94 19), .int ((mSI M 94 25 1).1 94 20), if (mSI M 94 25 1).1 94 21 = 0 then .null else .ref (g.2.1 104), if (mSI M 94 25 1).1 94 22 = 0 then .null else .ref (g.2.1 105), if (mSI M 94 25 1).1 94 23 = 0 then .null else .ref (g.2.1 106), if (mSI M 94 25 1).1 94 24 = 0 then .null else .ref (g.2.1 107), if (mSI M 94 25 1).1 94 25 = 0 then .null else .ref (g.2.1 108), if (mSI M 94 25 1).1 94 26 = 0 then .null else .ref (g.2.1 109), if (mSI M 94 25 1).1 94 27 = 0 then .null else .ref (g.2.1 110), if (mSI M 94 25 1).1 94 28 = 0 then .null else .ref (g.2.1 111), if (mSI M 94 25 1).1 94 29 = 0 then .null else .ref (g.2.1 112), if (mSI M 94 25 1).1 94 30 = 0 then .null else .ref (g.2.1 113), if (mSI M 94 25 1).1 94 31 = 0 then .null else .ref (g.2.1 114), if (mSI M 94 25 1).1 94 32 = 0 then .null else .ref (g.2.1 115), if (mSI M 94 25 1).1 94 33 = 0 then .null else .ref (g.2.1 116), if (mSI M 94 25 1).1 94 34 = 0 then .null else .ref (g.2.1 117), .int ((mSI M 94 25 1).1 94 35), .int ((mSI M 94 25 1).1 94 36), .int ((mSI M 94 25 1).1 94 37), if (mSI M 94 25 1).1 94 38 = 0 then .null else .ref (g.2.1 118), if (mSI M 94 25 1).1 94 39 = 0 then .null else .ref (g.2.1 119), if (mSI M 94 25 1).1 94 40 = 0 then .null else .ref (g.2.1 120)] := by first | (simp [mSI, mSL, upd, vp_updL]; done) | rfl
theorem sC_94_26 (g : GB) (M : Mem) : ([.int (M.1 94 0), if M.1 94 1 = 0 then .null else .ref (g.2.1 95), if M.1 94 2 = 0 then .null else .ref (g.2.1 96), .int (M.1 94 3), if M.1 94 4 = 0 then .null else .ref (g.2.1 97), .int (M.1 94 5), .int (M.1 94 6), .int (M.1 94 7), .int (M.1 94 8), .int (M.1 94 9), if M.1 94 10 = 0 then .null else .ref (g.2.1 98), if M.1 94 11 = 0 then .null else .ref (g.2.1 99), if M.1 94 12 = 0 then .null else .ref (g.2.1 100), if M.1 94 13 = 0 then .null else .ref (g.2.1 101), .int (M.1 94 14), .long (M.2 94 15), .long (M.2 94 16), if M.1 94 17 = 0 then .null else .ref (g.2.1 102), if M.1 94 18 = 0 then .null else .ref (g.2.1 103), .int (M.1 94 19), .int (M.1 94 20), if M.1 94 21 = 0 then .null else .ref (g.2.1 104), if M.1 94 22 = 0 then .null else .ref (g.2.1 105), if M.1 94 23 = 0 then .null else .ref (g.2.1 106), if M.1 94 24 = 0 then .null else .ref (g.2.1 107), if M.1 94 25 = 0 then .null else .ref (g.2.1 108), if M.1 94 26 = 0 then .null else .ref (g.2.1 109), if M.1 94 27 = 0 then .null else .ref (g.2.1 110), if M.1 94 28 = 0 then .null else .ref (g.2.1 111), if M.1 94 29 = 0 then .null else .ref (g.2.1 112), if M.1 94 30 = 0 then .null else .ref (g.2.1 113), if M.1 94 31 = 0 then .null else .ref (g.2.1 114), if M.1 94 32 = 0 then .null else .ref (g.2.1 115), if M.1 94 33 = 0 then .null else .ref (g.2.1 116), if M.1 94 34 = 0 then .null else .ref (g.2.1 117), .int (M.1 94 35), .int (M.1 94 36), .int (M.1 94 37), if M.1 94 38 = 0 then .null else .ref (g.2.1 118), if M.1 94 39 = 0 then .null else .ref (g.2.1 119), if M.1 94 40 = 0 then .null else .ref (g.2.1 120)] : List Value).set 26 (.ref (g.2.1 109)) = [.int ((mSI M 94 26 1).1 94 0), if (mSI M 94 26 1).1 94 1 = 0 then .null else .ref (g.2.1 95), if (mSI M 94 26 1).1 94 2 = 0 then .null else .ref (g.2.1 96), .int ((mSI M 94 26 1).1 94 3), if (mSI M 94 26 1).1 94 4 = 0 then .null else .ref (g.2.1 97), .int ((mSI M 94 26 1).1 94 5), .int ((mSI M 94 26 1).1 94 6), .int ((mSI M 94 26 1).1 94 7), .int ((mSI M 94 26 1).1 94 8), .int ((mSI M 94 26 1).1 94 9), if (mSI M 94 26 1).1 94 10 = 0 then .null else .ref (g.2.1 98), if (mSI M 94 26 1).1 94 11 = 0 then .null else .ref (g.2.1 99), if (mSI M 94 26 1).1 94 12 = 0 then .null else .ref (g.2.1 100), if (mSI M 94 26 1).1 94 13 = 0 then .null else .ref (g.2.1 101), .int ((mSI M 94 26 1).1 94 14), .long ((mSI M 94 26 1).2 94 15), .long ((mSI M 94 26 1).2 94 16), if (mSI M 94 26 1).1 94 17 = 0 then .null else .ref (g.2.1 102), if (mSI M 94 26 1).1 94 18 = 0 then .null else .ref (g.2.1 103), .int ((mSI M 94 26 1).1 94 19), .int ((mSI M 94 26 1).1 94 20), if (mSI M 94 26 1).1 94 21 = 0 then .null else .ref (g.2.1 104), if (mSI M 94 26 1).1 94 22 = 0 then .null else .ref (g.2.1 105), if (mSI M 94 26 1).1 94 23 = 0 then .null else .ref (g.2.1 106), if (mSI M 94 26 1).1 94 24 = 0 then .null else .ref (g.2.1 107), if (mSI M 94 26 1).1 94 25 = 0 then .null else .ref (g.2.1 108), if (mSI M 94 26 1).1 94 26 = 0 then .null else .ref (g.2.1 109), if (mSI M 94 26 1).1 94 27 = 0 then .null else .ref (g.2.1 110), if (mSI M 94 26 1).1 94 28 = 0 then .null else .ref (g.2.1 111), if (mSI M 94 26 1).1 94 29 = 0 then .null else .ref (g.2.1 112), if (mSI M 94 26 1).1 94 30 = 0 then .null else .ref (g.2.1 113), if (mSI M 94 26 1).1 94 31 = 0 then .null else .ref (g.2.1 114), if (mSI M 94 26 1).1 94 32 = 0 then .null else .ref (g.2.1 115), if (mSI M 94 26 1).1 94 33 = 0 then .null else .ref (g.2.1 116), if (mSI M 94 26 1).1 94 34 = 0 then .null else .ref (g.2.1 117), .int ((mSI M 94 26 1).1 94 35), .int ((mSI M 94 26 1).1 94 36), .int ((mSI M 94 26 1).1 94 37), if (mSI M 94 26 1).1 94 38 = 0 then .null else .ref (g.2.1 118), if (mSI M 94 26 1).1 94 39 = 0 then .null else .ref (g.2.1 119), if (mSI M 94 26 1).1 94 40 = 0 then .null else .ref (g.2.1 120)] := by first | (simp [mSI, mSL, upd, vp_updL]; done) | rfl
theorem sC_94_27 (g : GB) (M : Mem) : ([.int (M.1 94 0), if M.1 94 1 = 0 then .null else .ref (g.2.1 95), if M.1 94 2 = 0 then .null else .ref (g.2.1 96), .int (M.1 94 3), if M.1 94 4 = 0 then .null else .ref (g.2.1 97), .int (M.1 94 5), .int (M.1 94 6), .int (M.1 94 7), .int (M.1 94 8), .int (M.1 94 9), if M.1 94 10 = 0 then .null else .ref (g.2.1 98), if M.1 94 11 = 0 then .null else .ref (g.2.1 99), if M.1 94 12 = 0 then .null else .ref (g.2.1 100), if M.1 94 13 = 0 then .null else .ref (g.2.1 101), .int (M.1 94 14), .long (M.2 94 15), .long (M.2 94 16), if M.1 94 17 = 0 then .null else .ref (g.2.1 102), if M.1 94 18 = 0 then .null else .ref (g.2.1 103), .int (M.1 94 19), .int (M.1 94 20), if M.1 94 21 = 0 then .null else .ref (g.2.1 104), if M.1 94 22 = 0 then .null else .ref (g.2.1 105), if M.1 94 23 = 0 then .null else .ref (g.2.1 106), if M.1 94 24 = 0 then .null else .ref (g.2.1 107), if M.1 94 25 = 0 then .null else .ref (g.2.1 108), if M.1 94 26 = 0 then .null else .ref (g.2.1 109), if M.1 94 27 = 0 then .null else .ref (g.2.1 110), if M.1 94 28 = 0 then .null else .ref (g.2.1 111), if M.1 94 29 = 0 then .null else .ref (g.2.1 112), if M.1 94 30 = 0 then .null else .ref (g.2.1 113), if M.1 94 31 = 0 then .null else .ref (g.2.1 114), if M.1 94 32 = 0 then .null else .ref (g.2.1 115), if M.1 94 33 = 0 then .null else .ref (g.2.1 116), if M.1 94 34 = 0 then .null else .ref (g.2.1 117), .int (M.1 94 35), .int (M.1 94 36), .int (M.1 94 37), if M.1 94 38 = 0 then .null else .ref (g.2.1 118), if M.1 94 39 = 0 then .null else .ref (g.2.1 119), if M.1 94 40 = 0 then .null else .ref (g.2.1 120)] : List Value).set 27 (.ref (g.2.1 110)) = [.int ((mSI M 94 27 1).1 94 0), if (mSI M 94 27 1).1 94 1 = 0 then .null else .ref (g.2.1 95), if (mSI M 94 27 1).1 94 2 = 0 then .null else .ref (g.2.1 96), .int ((mSI M 94 27 1).1 94 3), if (mSI M 94 27 1).1 94 4 = 0 then .null else .ref (g.2.1 97), .int ((mSI M 94 27 1).1 94 5), .int ((mSI M 94 27 1).1 94 6), .int ((mSI M 94 27 1).1 94 7), .int ((mSI M 94 27 1).1 94 8), .int ((mSI M 94 27 1).1 94 9), if (mSI M 94 27 1).1 94 10 = 0 then .null else .ref (g.2.1 98), if (mSI M 94 27 1).1 94 11 = 0 then .null else .ref (g.2.1 99), if (mSI M 94 27 1).1 94 12 = 0 then .null else .ref (g.2.1 100), if (mSI M 94 27 1).1 94 13 = 0 then .null else .ref (g.2.1 101), .int ((mSI M 94 27 1).1 94 14), .long ((mSI M 94 27 1).2 94 15), .long ((mSI M 94 27 1).2 94 16), if (mSI M 94 27 1).1 94 17 = 0 then .null else .ref (g.2.1 102), if (mSI M 94 27 1).1 94 18 = 0 then .null else .ref (g.2.1 103), .int ((mSI M 94 27 1).1 94 19), .int ((mSI M 94 27 1).1 94 20), if (mSI M 94 27 1).1 94 21 = 0 then .null else .ref (g.2.1 104), if (mSI M 94 27 1).1 94 22 = 0 then .null else .ref (g.2.1 105), if (mSI M 94 27 1).1 94 23 = 0 then .null else .ref (g.2.1 106), if (mSI M 94 27 1).1 94 24 = 0 then .null else .ref (g.2.1 107), if (mSI M 94 27 1).1 94 25 = 0 then .null else .ref (g.2.1 108), if (mSI M 94 27 1).1 94 26 = 0 then .null else .ref (g.2.1 109), if (mSI M 94 27 1).1 94 27 = 0 then .null else .ref (g.2.1 110), if (mSI M 94 27 1).1 94 28 = 0 then .null else .ref (g.2.1 111), if (mSI M 94 27 1).1 94 29 = 0 then .null else .ref (g.2.1 112), if (mSI M 94 27 1).1 94 30 = 0 then .null else .ref (g.2.1 113), if (mSI M 94 27 1).1 94 31 = 0 then .null else .ref (g.2.1 114), if (mSI M 94 27 1).1 94 32 = 0 then .null else .ref (g.2.1 115), if (mSI M 94 27 1).1 94 33 = 0 then .null else .ref (g.2.1 116), if (mSI M 94 27 1).1 94 34 = 0 then .null else .ref (g.2.1 117), .int ((mSI M 94 27 1).1 94 35), .int ((mSI M 94 27 1).1 94 36), .int ((mSI M 94 27 1).1 94 37), if (mSI M 94 27 1).1 94 38 = 0 then .null else .ref (g.2.1 118), if (mSI M 94 27 1).1 94 39 = 0 then .null else .ref (g.2.1 119), if (mSI M 94 27 1).1 94 40 = 0 then .null else .ref (g.2.1 120)] := by first | (simp [mSI, mSL, upd, vp_updL]; done) | rfl
theorem sC_94_28 (g : GB) (M : Mem) : ([.int (M.1 94 0), if M.1 94 1 = 0 then .null else .ref (g.2.1 95), if M.1 94 2 = 0 then .null else .ref (g.2.1 96), .int (M.1 94 3), if M.1 94 4 = 0 then .null else .ref (g.2.1 97), .int (M.1 94 5), .int (M.1 94 6), .int (M.1 94 7), .int (M.1 94 8), .int (M.1 94 9), if M.1 94 10 = 0 then .null else .ref (g.2.1 98), if M.1 94 11 = 0 then .null else .ref (g.2.1 99), if M.1 94 12 = 0 then .null else .ref (g.2.1 100), if M.1 94 13 = 0 then .null else .ref (g.2.1 101), .int (M.1 94 14), .long (M.2 94 15), .long (M.2 94 16), if M.1 94 17 = 0 then .null else .ref (g.2.1 102), if M.1 94 18 = 0 then .null else .ref (g.2.1 103), .int (M.1 94 19), .int (M.1 94 20), if M.1 94 21 = 0 then .null else .ref (g.2.1 104), if M.1 94 22 = 0 then .null else .ref (g.2.1 105), if M.1 94 23 = 0 then .null else .ref (g.2.1 106), if M.1 94 24 = 0 then .null else .ref (g.2.1 107), if M.1 94 25 = 0 then .null else .ref (g.2.1 108), if M.1 94 26 = 0 then .null else .ref (g.2.1 109), if M.1 94 27 = 0 then .null else .ref (g.2.1 110), if M.1 94 28 = 0 then .null else .ref (g.2.1 111), if M.1 94 29 = 0 then .null else .ref (g.2.1 112), if M.1 94 30 = 0 then .null else .ref (g.2.1 113), if M.1 94 31 = 0 then .null else .ref (g.2.1 114), if M.1 94 32 = 0 then .null else .ref (g.2.1 115), if M.1 94 33 = 0 then .null else .ref (g.2.1 116), if M.1 94 34 = 0 then .null else .ref (g.2.1 117), .int (M.1 94 35), .int (M.1 94 36), .int (M.1 94 37), if M.1 94 38 = 0 then .null else .ref (g.2.1 118), if M.1 94 39 = 0 then .null else .ref (g.2.1 119), if M.1 94 40 = 0 then .null else .ref (g.2.1 120)] : List Value).set 28 (.ref (g.2.1 111)) = [.int ((mSI M 94 28 1).1 94 0), if (mSI M 94 28 1).1 94 1 = 0 then .null else .ref (g.2.1 95), if (mSI M 94 28 1).1 94 2 = 0 then .null else .ref (g.2.1 96), .int ((mSI M 94 28 1).1 94 3), if (mSI M 94 28 1).1 94 4 = 0 then .null else .ref (g.2.1 97), .int ((mSI M 94 28 1).1 94 5), .int ((mSI M 94 28 1).1 94 6), .int ((mSI M 94 28 1).1 94 7), .int ((mSI M 94 28 1).1 94 8), .int ((mSI M 94 28 1).1 94 9), if (mSI M 94 28 1).1 94 10 = 0 then .null else .ref (g.2.1 98), if (mSI M 94 28 1).1 94 11 = 0 then .null else .ref (g.2.1 99), if (mSI M 94 28 1).1 94 12 = 0 then .null else .ref (g.2.1 100), if (mSI M 94 28 1).1 94 13 = 0 then .null else .ref (g.2.1 101), .int ((mSI M 94 28 1).1 94 14), .long ((mSI M 94 28 1).2 94 15), .long ((mSI M 94 28 1).2 94 16), if (mSI M 94 28 1).1 94 17 = 0 then .null else .ref (g.2.1 102), if (mSI M 94 28 1).1 94 18 = 0 then .null else .ref (g.2.1 103), .int ((mSI M 94 28 1).1 94 19), .int ((mSI M 94 28 1).1 94 20), if (mSI M 94 28 1).1 94 21 = 0 then .null else .ref (g.2.1 104), if (mSI M 94 28 1).1 94 22 = 0 then .null else .ref (g.2.1 105), if (mSI M 94 28 1).1 94 23 = 0 then .null else .ref (g.2.1 106), if (mSI M 94 28 1).1 94 24 = 0 then .null else .ref (g.2.1 107), if (mSI M 94 28 1).1 94 25 = 0 then .null else .ref (g.2.1 108), if (mSI M 94 28 1).1 94 26 = 0 then .null else .ref (g.2.1 109), if (mSI M 94 28 1).1 94 27 = 0 then .null else .ref (g.2.1 110), if (mSI M 94 28 1).1 94 28 = 0 then .null else .ref (g.2.1 111), if (mSI M 94 28 1).1 94 29 = 0 then .null else .ref (g.2.1 112), if (mSI M 94 28 1).1 94 30 = 0 then .null else .ref (g.2.1 113), if (mSI M 94 28 1).1 94 31 = 0 then .null else .ref (g.2.1 114), if (mSI M 94 28 1).1 94 32 = 0 then .null else .ref (g.2.1 115), if (mSI M 94 28 1).1 94 33 = 0 then .null else .ref (g.2.1 116), if (mSI M 94 28 1).1 94 34 = 0 then .null else .ref (g.2.1 117), .int ((mSI M 94 28 1).1 94 35), .int ((mSI M 94 28 1).1 94 36), .int ((mSI M 94 28 1).1 94 37), if (mSI M 94 28 1).1 94 38 = 0 then .null else .ref (g.2.1 118), if (mSI M 94 28 1).1 94 39 = 0 then .null else .ref (g.2.1 119), if (mSI M 94 28 1).1 94 40 = 0 then .null else .ref (g.2.1 120)] := by first | (simp [mSI, mSL, upd, vp_updL]; done) | rfl
theorem sC_94_29 (g : GB) (M : Mem) : ([.int (M.1 94 0), if M.1 94 1 = 0 then .null else .ref (g.2.1 95), if M.1 94 2 = 0 then .null else .ref (g.2.1 96), .int (M.1 94 3), if M.1 94 4 = 0 then .null else .ref (g.2.1 97), .int (M.1 94 5), .int (M.1 94 6), .int (M.1 94 7), .int (M.1 94 8), .int (M.1 94 9), if M.1 94 10 = 0 then .null else .ref (g.2.1 98), if M.1 94 11 = 0 then .null else .ref (g.2.1 99), if M.1 94 12 = 0 then .null else .ref (g.2.1 100), if M.1 94 13 = 0 then .null else .ref (g.2.1 101), .int (M.1 94 14), .long (M.2 94 15), .long (M.2 94 16), if M.1 94 17 = 0 then .null else .ref (g.2.1 102), if M.1 94 18 = 0 then .null else .ref (g.2.1 103), .int (M.1 94 19), .int (M.1 94 20), if M.1 94 21 = 0 then .null else .ref (g.2.1 104), if M.1 94 22 = 0 then .null else .ref (g.2.1 105), if M.1 94 23 = 0 then .null else .ref (g.2.1 106), if M.1 94 24 = 0 then .null else .ref (g.2.1 107), if M.1 94 25 = 0 then .null else .ref (g.2.1 108), if M.1 94 26 = 0 then .null else .ref (g.2.1 109), if M.1 94 27 = 0 then .null else .ref (g.2.1 110), if M.1 94 28 = 0 then .null else .ref (g.2.1 111), if M.1 94 29 = 0 then .null else .ref (g.2.1 112), if M.1 94 30 = 0 then .null else .ref (g.2.1 113), if M.1 94 31 = 0 then .null else .ref (g.2.1 114), if M.1 94 32 = 0 then .null else .ref (g.2.1 115), if M.1 94 33 = 0 then .null else .ref (g.2.1 116), if M.1 94 34 = 0 then .null else .ref (g.2.1 117), .int (M.1 94 35), .int (M.1 94 36), .int (M.1 94 37), if M.1 94 38 = 0 then .null else .ref (g.2.1 118), if M.1 94 39 = 0 then .null else .ref (g.2.1 119), if M.1 94 40 = 0 then .null else .ref (g.2.1 120)] : List Value).set 29 (.ref (g.2.1 112)) = [.int ((mSI M 94 29 1).1 94 0), if (mSI M 94 29 1).1 94 1 = 0 then .null else .ref (g.2.1 95), if (mSI M 94 29 1).1 94 2 = 0 then .null else .ref (g.2.1 96), .int ((mSI M 94 29 1).1 94 3), if (mSI M 94 29 1).1 94 4 = 0 then .null else .ref (g.2.1 97), .int ((mSI M 94 29 1).1 94 5), .int ((mSI M 94 29 1).1 94 6), .int ((mSI M 94 29 1).1 94 7), .int ((mSI M 94 29 1).1 94 8), .int ((mSI M 94 29 1).1 94 9), if (mSI M 94 29 1).1 94 10 = 0 then .null else .ref (g.2.1 98), if (mSI M 94 29 1).1 94 11 = 0 then .null else .ref (g.2.1 99), if (mSI M 94 29 1).1 94 12 = 0 then .null else .ref (g.2.1 100), if (mSI M 94 29 1).1 94 13 = 0 then .null else .ref (g.2.1 101), .int ((mSI M 94 29 1).1 94 14), .long ((mSI M 94 29 1).2 94 15), .long ((mSI M 94 29 1).2 94 16), if (mSI M 94 29 1).1 94 17 = 0 then .null else .ref (g.2.1 102), if (mSI M 94 29 1).1 94 18 = 0 then .null else .ref (g.2.1 103), .int ((mSI M 94 29 1).1 94 19), .int ((mSI M 94 29 1).1 94 20), if (mSI M 94 29 1).1 94 21 = 0 then .null else .ref (g.2.1 104), if (mSI M 94 29 1).1 94 22 = 0 then .null else .ref (g.2.1 105), if (mSI M 94 29 1).1 94 23 = 0 then .null else .ref (g.2.1 106), if (mSI M 94 29 1).1 94 24 = 0 then .null else .ref (g.2.1 107), if (mSI M 94 29 1).1 94 25 = 0 then .null else .ref (g.2.1 108), if (mSI M 94 29 1).1 94 26 = 0 then .null else .ref (g.2.1 109), if (mSI M 94 29 1).1 94 27 = 0 then .null else .ref (g.2.1 110), if (mSI M 94 29 1).1 94 28 = 0 then .null else .ref (g.2.1 111), if (mSI M 94 29 1).1 94 29 = 0 then .null else .ref (g.2.1 112), if (mSI M 94 29 1).1 94 30 = 0 then .null else .ref (g.2.1 113), if (mSI M 94 29 1).1 94 31 = 0 then .null else .ref (g.2.1 114), if (mSI M 94 29 1).1 94 32 = 0 then .null else .ref (g.2.1 115), if (mSI M 94 29 1).1 94 33 = 0 then .null else .ref (g.2.1 116), if (mSI M 94 29 1).1 94 34 = 0 then .null else .ref (g.2.1 117), .int ((mSI M 94 29 1).1 94 35), .int ((mSI M 94 29 1).1 94 36), .int ((mSI M 94 29 1).1 94 37), if (mSI M 94 29 1).1 94 38 = 0 then .null else .ref (g.2.1 118), if (mSI M 94 29 1).1 94 39 = 0 then .null else .ref (g.2.1 119), if (mSI M 94 29 1).1 94 40 = 0 then .null else .ref (g.2.1 120)] := by first | (simp [mSI, mSL, upd, vp_updL]; done) | rfl
theorem sC_94_30 (g : GB) (M : Mem) : ([.int (M.1 94 0), if M.1 94 1 = 0 then .null else .ref (g.2.1 95), if M.1 94 2 = 0 then .null else .ref (g.2.1 96), .int (M.1 94 3), if M.1 94 4 = 0 then .null else .ref (g.2.1 97), .int (M.1 94 5), .int (M.1 94 6), .int (M.1 94 7), .int (M.1 94 8), .int (M.1 94 9), if M.1 94 10 = 0 then .null else .ref (g.2.1 98), if M.1 94 11 = 0 then .null else .ref (g.2.1 99), if M.1 94 12 = 0 then .null else .ref (g.2.1 100), if M.1 94 13 = 0 then .null else .ref (g.2.1 101), .int (M.1 94 14), .long (M.2 94 15), .long (M.2 94 16), if M.1 94 17 = 0 then .null else .ref (g.2.1 102), if M.1 94 18 = 0 then .null else .ref (g.2.1 103), .int (M.1 94 19), .int (M.1 94 20), if M.1 94 21 = 0 then .null else .ref (g.2.1 104), if M.1 94 22 = 0 then .null else .ref (g.2.1 105), if M.1 94 23 = 0 then .null else .ref (g.2.1 106), if M.1 94 24 = 0 then .null else .ref (g.2.1 107), if M.1 94 25 = 0 then .null else .ref (g.2.1 108), if M.1 94 26 = 0 then .null else .ref (g.2.1 109), if M.1 94 27 = 0 then .null else .ref (g.2.1 110), if M.1 94 28 = 0 then .null else .ref (g.2.1 111), if M.1 94 29 = 0 then .null else .ref (g.2.1 112), if M.1 94 30 = 0 then .null else .ref (g.2.1 113), if M.1 94 31 = 0 then .null else .ref (g.2.1 114), if M.1 94 32 = 0 then .null else .ref (g.2.1 115), if M.1 94 33 = 0 then .null else .ref (g.2.1 116), if M.1 94 34 = 0 then .null else .ref (g.2.1 117), .int (M.1 94 35), .int (M.1 94 36), .int (M.1 94 37), if M.1 94 38 = 0 then .null else .ref (g.2.1 118), if M.1 94 39 = 0 then .null else .ref (g.2.1 119), if M.1 94 40 = 0 then .null else .ref (g.2.1 120)] : List Value).set 30 (.ref (g.2.1 113)) = [.int ((mSI M 94 30 1).1 94 0), if (mSI M 94 30 1).1 94 1 = 0 then .null else .ref (g.2.1 95), if (mSI M 94 30 1).1 94 2 = 0 then .null else .ref (g.2.1 96), .int ((mSI M 94 30 1).1 94 3), if (mSI M 94 30 1).1 94 4 = 0 then .null else .ref (g.2.1 97), .int ((mSI M 94 30 1).1 94 5), .int ((mSI M 94 30 1).1 94 6), .int ((mSI M 94 30 1).1 94 7), .int ((mSI M 94 30 1).1 94 8), .int ((mSI M 94 30 1).1 94 9), if (mSI M 94 30 1).1 94 10 = 0 then .null else .ref (g.2.1 98), if (mSI M 94 30 1).1 94 11 = 0 then .null else .ref (g.2.1 99), if (mSI M 94 30 1).1 94 12 = 0 then .null else .ref (g.2.1 100), if (mSI M 94 30 1).1 94 13 = 0 then .null else .ref (g.2.1 101), .int ((mSI M 94 30 1).1 94 14), .long ((mSI M 94 30 1).2 94 15), .long ((mSI M 94 30 1).2 94 16), if (mSI M 94 30 1).1 94 17 = 0 then .null else .ref (g.2.1 102), if (mSI M 94 30 1).1 94 18 = 0 then .null else .ref (g.2.1 103), .int ((mSI M 94 30 1).1 94 19), .int ((mSI M 94 30 1).1 94 20), if (mSI M 94 30 1).1 94 21 = 0 then .null else .ref (g.2.1 104), if (mSI M 94 30 1).1 94 22 = 0 then .null else .ref (g.2.1 105), if (mSI M 94 30 1).1 94 23 = 0 then .null else .ref (g.2.1 106), if (mSI M 94 30 1).1 94 24 = 0 then .null else .ref (g.2.1 107), if (mSI M 94 30 1).1 94 25 = 0 then .null else .ref (g.2.1 108), if (mSI M 94 30 1).1 94 26 = 0 then .null else .ref (g.2.1 109), if (mSI M 94 30 1).1 94 27 = 0 then .null else .ref (g.2.1 110), if (mSI M 94 30 1).1 94 28 = 0 then .null else .ref (g.2.1 111), if (mSI M 94 30 1).1 94 29 = 0 then .null else .ref (g.2.1 112), if (mSI M 94 30 1).1 94 30 = 0 then .null else .ref (g.2.1 113), if (mSI M 94 30 1).1 94 31 = 0 then .null else .ref (g.2.1 114), if (mSI M 94 30 1).1 94 32 = 0 then .null else .ref (g.2.1 115), if (mSI M 94 30 1).1 94 33 = 0 then .null else .ref (g.2.1 116), if (mSI M 94 30 1).1 94 34 = 0 then .null else .ref (g.2.1 117), .int ((mSI M 94 30 1).1 94 35), .int ((mSI M 94 30 1).1 94 36), .int ((mSI M 94 30 1).1 94 37), if (mSI M 94 30 1).1 94 38 = 0 then .null else .ref (g.2.1 118), if (mSI M 94 30 1).1 94 39 = 0 then .null else .ref (g.2.1 119), if (mSI M 94 30 1).1 94 40 = 0 then .null else .ref (g.2.1 120)] := by first | (simp [mSI, mSL, upd, vp_updL]; done) | rfl
theorem sC_94_31 (g : GB) (M : Mem) : ([.int (M.1 94 0), if M.1 94 1 = 0 then .null else .ref (g.2.1 95), if M.1 94 2 = 0 then .null else .ref (g.2.1 96), .int (M.1 94 3), if M.1 94 4 = 0 then .null else .ref (g.2.1 97), .int (M.1 94 5), .int (M.1 94 6), .int (M.1 94 7), .int (M.1 94 8), .int (M.1 94 9), if M.1 94 10 = 0 then .null else .ref (g.2.1 98), if M.1 94 11 = 0 then .null else .ref (g.2.1 99), if M.1 94 12 = 0 then .null else .ref (g.2.1 100), if M.1 94 13 = 0 then .null else .ref (g.2.1 101), .int (M.1 94 14), .long (M.2 94 15), .long (M.2 94 16), if M.1 94 17 = 0 then .null else .ref (g.2.1 102), if M.1 94 18 = 0 then .null else .ref (g.2.1 103), .int (M.1 94 19), .int (M.1 94 20), if M.1 94 21 = 0 then .null else .ref (g.2.1 104), if M.1 94 22 = 0 then .null else .ref (g.2.1 105), if M.1 94 23 = 0 then .null else .ref (g.2.1 106), if M.1 94 24 = 0 then .null else .ref (g.2.1 107), if M.1 94 25 = 0 then .null else .ref (g.2.1 108), if M.1 94 26 = 0 then .null else .ref (g.2.1 109), if M.1 94 27 = 0 then .null else .ref (g.2.1 110), if M.1 94 28 = 0 then .null else .ref (g.2.1 111), if M.1 94 29 = 0 then .null else .ref (g.2.1 112), if M.1 94 30 = 0 then .null else .ref (g.2.1 113), if M.1 94 31 = 0 then .null else .ref (g.2.1 114), if M.1 94 32 = 0 then .null else .ref (g.2.1 115), if M.1 94 33 = 0 then .null else .ref (g.2.1 116), if M.1 94 34 = 0 then .null else .ref (g.2.1 117), .int (M.1 94 35), .int (M.1 94 36), .int (M.1 94 37), if M.1 94 38 = 0 then .null else .ref (g.2.1 118), if M.1 94 39 = 0 then .null else .ref (g.2.1 119), if M.1 94 40 = 0 then .null else .ref (g.2.1 120)] : List Value).set 31 (.ref (g.2.1 114)) = [.int ((mSI M 94 31 1).1 94 0), if (mSI M 94 31 1).1 94 1 = 0 then .null else .ref (g.2.1 95), if (mSI M 94 31 1).1 94 2 = 0 then .null else .ref (g.2.1 96), .int ((mSI M 94 31 1).1 94 3), if (mSI M 94 31 1).1 94 4 = 0 then .null else .ref (g.2.1 97), .int ((mSI M 94 31 1).1 94 5), .int ((mSI M 94 31 1).1 94 6), .int ((mSI M 94 31 1).1 94 7), .int ((mSI M 94 31 1).1 94 8), .int ((mSI M 94 31 1).1 94 9), if (mSI M 94 31 1).1 94 10 = 0 then .null else .ref (g.2.1 98), if (mSI M 94 31 1).1 94 11 = 0 then .null else .ref (g.2.1 99), if (mSI M 94 31 1).1 94 12 = 0 then .null else .ref (g.2.1 100), if (mSI M 94 31 1).1 94 13 = 0 then .null else .ref (g.2.1 101), .int ((mSI M 94 31 1).1 94 14), .long ((mSI M 94 31 1).2 94 15), .long ((mSI M 94 31 1).2 94 16), if (mSI M 94 31 1).1 94 17 = 0 then .null else .ref (g.2.1 102), if (mSI M 94 31 1).1 94 18 = 0 then .null else .ref (g.2.1 103), .int ((mSI M 94 31 1).1 94 19), .int ((mSI M 94 31 1).1 94 20), if (mSI M 94 31 1).1 94 21 = 0 then .null else .ref (g.2.1 104), if (mSI M 94 31 1).1 94 22 = 0 then .null else .ref (g.2.1 105), if (mSI M 94 31 1).1 94 23 = 0 then .null else .ref (g.2.1 106), if (mSI M 94 31 1).1 94 24 = 0 then .null else .ref (g.2.1 107), if (mSI M 94 31 1).1 94 25 = 0 then .null else .ref (g.2.1 108), if (mSI M 94 31 1).1 94 26 = 0 then .null else .ref (g.2.1 109), if (mSI M 94 31 1).1 94 27 = 0 then .null else .ref (g.2.1 110), if (mSI M 94 31 1).1 94 28 = 0 then .null else .ref (g.2.1 111), if (mSI M 94 31 1).1 94 29 = 0 then .null else .ref (g.2.1 112), if (mSI M 94 31 1).1 94 30 = 0 then .null else .ref (g.2.1 113), if (mSI M 94 31 1).1 94 31 = 0 then .null else .ref (g.2.1 114), if (mSI M 94 31 1).1 94 32 = 0 then .null else .ref (g.2.1 115), if (mSI M 94 31 1).1 94 33 = 0 then .null else .ref (g.2.1 116), if (mSI M 94 31 1).1 94 34 = 0 then .null else .ref (g.2.1 117), .int ((mSI M 94 31 1).1 94 35), .int ((mSI M 94 31 1).1 94 36), .int ((mSI M 94 31 1).1 94 37), if (mSI M 94 31 1).1 94 38 = 0 then .null else .ref (g.2.1 118), if (mSI M 94 31 1).1 94 39 = 0 then .null else .ref (g.2.1 119), if (mSI M 94 31 1).1 94 40 = 0 then .null else .ref (g.2.1 120)] := by first | (simp [mSI, mSL, upd, vp_updL]; done) | rfl
theorem sC_94_32 (g : GB) (M : Mem) : ([.int (M.1 94 0), if M.1 94 1 = 0 then .null else .ref (g.2.1 95), if M.1 94 2 = 0 then .null else .ref (g.2.1 96), .int (M.1 94 3), if M.1 94 4 = 0 then .null else .ref (g.2.1 97), .int (M.1 94 5), .int (M.1 94 6), .int (M.1 94 7), .int (M.1 94 8), .int (M.1 94 9), if M.1 94 10 = 0 then .null else .ref (g.2.1 98), if M.1 94 11 = 0 then .null else .ref (g.2.1 99), if M.1 94 12 = 0 then .null else .ref (g.2.1 100), if M.1 94 13 = 0 then .null else .ref (g.2.1 101), .int (M.1 94 14), .long (M.2 94 15), .long (M.2 94 16), if M.1 94 17 = 0 then .null else .ref (g.2.1 102), if M.1 94 18 = 0 then .null else .ref (g.2.1 103), .int (M.1 94 19), .int (M.1 94 20), if M.1 94 21 = 0 then .null else .ref (g.2.1 104), if M.1 94 22 = 0 then .null else .ref (g.2.1 105), if M.1 94 23 = 0 then .null else .ref (g.2.1 106), if M.1 94 24 = 0 then .null else .ref (g.2.1 107), if M.1 94 25 = 0 then .null else .ref (g.2.1 108), if M.1 94 26 = 0 then .null else .ref (g.2.1 109), if M.1 94 27 = 0 then .null else .ref (g.2.1 110), if M.1 94 28 = 0 then .null else .ref (g.2.1 111), if M.1 94 29 = 0 then .null else .ref (g.2.1 112), if M.1 94 30 = 0 then .null else .ref (g.2.1 113), if M.1 94 31 = 0 then .null else .ref (g.2.1 114), if M.1 94 32 = 0 then .null else .ref (g.2.1 115), if M.1 94 33 = 0 then .null else .ref (g.2.1 116), if M.1 94 34 = 0 then .null else .ref (g.2.1 117), .int (M.1 94 35), .int (M.1 94 36), .int (M.1 94 37), if M.1 94 38 = 0 then .null else .ref (g.2.1 118), if M.1 94 39 = 0 then .null else .ref (g.2.1 119), if M.1 94 40 = 0 then .null else .ref (g.2.1 120)] : List Value).set 32 (.ref (g.2.1 115)) = [.int ((mSI M 94 32 1).1 94 0), if (mSI M 94 32 1).1 94 1 = 0 then .null else .ref (g.2.1 95), if (mSI M 94 32 1).1 94 2 = 0 then .null else .ref (g.2.1 96), .int ((mSI M 94 32 1).1 94 3), if (mSI M 94 32 1).1 94 4 = 0 then .null else .ref (g.2.1 97), .int ((mSI M 94 32 1).1 94 5), .int ((mSI M 94 32 1).1 94 6), .int ((mSI M 94 32 1).1 94 7), .int ((mSI M 94 32 1).1 94 8), .int ((mSI M 94 32 1).1 94 9), if (mSI M 94 32 1).1 94 10 = 0 then .null else .ref (g.2.1 98), if (mSI M 94 32 1).1 94 11 = 0 then .null else .ref (g.2.1 99), if (mSI M 94 32 1).1 94 12 = 0 then .null else .ref (g.2.1 100), if (mSI M 94 32 1).1 94 13 = 0 then .null else .ref (g.2.1 101), .int ((mSI M 94 32 1).1 94 14), .long ((mSI M 94 32 1).2 94 15), .long ((mSI M 94 32 1).2 94 16), if (mSI M 94 32 1).1 94 17 = 0 then .null else .ref (g.2.1 102), if (mSI M 94 32 1).1 94 18 = 0 then .null else .ref (g.2.1 103), .int ((mSI M 94 32 1).1 94 19), .int ((mSI M 94 32 1).1 94 20), if (mSI M 94 32 1).1 94 21 = 0 then .null else .ref (g.2.1 104), if (mSI M 94 32 1).1 94 22 = 0 then .null else .ref (g.2.1 105), if (mSI M 94 32 1).1 94 23 = 0 then .null else .ref (g.2.1 106), if (mSI M 94 32 1).1 94 24 = 0 then .null else .ref (g.2.1 107), if (mSI M 94 32 1).1 94 25 = 0 then .null else .ref (g.2.1 108), if (mSI M 94 32 1).1 94 26 = 0 then .null else .ref (g.2.1 109), if (mSI M 94 32 1).1 94 27 = 0 then .null else .ref (g.2.1 110), if (mSI M 94 32 1).1 94 28 = 0 then .null else .ref (g.2.1 111), if (mSI M 94 32 1).1 94 29 = 0 then .null else .ref (g.2.1 112), if (mSI M 94 32 1).1 94 30 = 0 then .null else .ref (g.2.1 113), if (mSI M 94 32 1).1 94 31 = 0 then .null else .ref (g.2.1 114), if (mSI M 94 32 1).1 94 32 = 0 then .null else .ref (g.2.1 115), if (mSI M 94 32 1).1 94 33 = 0 then .null else .ref (g.2.1 116), if (mSI M 94 32 1).1 94 34 = 0 then .null else .ref (g.2.1 117), .int ((mSI M 94 32 1).1 94 35), .int ((mSI M 94 32 1).1 94 36), .int ((mSI M 94 32 1).1 94 37), if (mSI M 94 32 1).1 94 38 = 0 then .null else .ref (g.2.1 118), if (mSI M 94 32 1).1 94 39 = 0 then .null else .ref (g.2.1 119), if (mSI M 94 32 1).1 94 40 = 0 then .null else .ref (g.2.1 120)] := by first | (simp [mSI, mSL, upd, vp_updL]; done) | rfl
theorem sC_94_33 (g : GB) (M : Mem) : ([.int (M.1 94 0), if M.1 94 1 = 0 then .null else .ref (g.2.1 95), if M.1 94 2 = 0 then .null else .ref (g.2.1 96), .int (M.1 94 3), if M.1 94 4 = 0 then .null else .ref (g.2.1 97), .int (M.1 94 5), .int (M.1 94 6), .int (M.1 94 7), .int (M.1 94 8), .int (M.1 94 9), if M.1 94 10 = 0 then .null else .ref (g.2.1 98), if M.1 94 11 = 0 then .null else .ref (g.2.1 99), if M.1 94 12 = 0 then .null else .ref (g.2.1 100), if M.1 94 13 = 0 then .null else .ref (g.2.1 101), .int (M.1 94 14), .long (M.2 94 15), .long (M.2 94 16), if M.1 94 17 = 0 then .null else .ref (g.2.1 102), if M.1 94 18 = 0 then .null else .ref (g.2.1 103), .int (M.1 94 19), .int (M.1 94 20), if M.1 94 21 = 0 then .null else .ref (g.2.1 104), if M.1 94 22 = 0 then .null else .ref (g.2.1 105), if M.1 94 23 = 0 then .null else .ref (g.2.1 106), if M.1 94 24 = 0 then .null else .ref (g.2.1 107), if M.1 94 25 = 0 then .null else .ref (g.2.1 108), if M.1 94 26 = 0 then .null else .ref (g.2.1 109), if M.1 94 27 = 0 then .null else .ref (g.2.1 110), if M.1 94 28 = 0 then .null else .ref (g.2.1 111), if M.1 94 29 = 0 then .null else .ref (g.2.1 112), if M.1 94 30 = 0 then .null else .ref (g.2.1 113), if M.1 94 31 = 0 then .null else .ref (g.2.1 114), if M.1 94 32 = 0 then .null else .ref (g.2.1 115), if M.1 94 33 = 0 then .null else .ref (g.2.1 116), if M.1 94 34 = 0 then .null else .ref (g.2.1 117), .int (M.1 94 35), .int (M.1 94 36), .int (M.1 94 37), if M.1 94 38 = 0 then .null else .ref (g.2.1 118), if M.1 94 39 = 0 then .null else .ref (g.2.1 119), if M.1 94 40 = 0 then .null else .ref (g.2.1 120)] : List Value).set 33 (.ref (g.2.1 116)) = [.int ((mSI M 94 33 1).1 94 0), if (mSI M 94 33 1).1 94 1 = 0 then .null else .ref (g.2.1 95), if (mSI M 94 33 1).1 94 2 = 0 then .null else .ref (g.2.1 96), .int ((mSI M 94 33 1).1 94 3), if (mSI M 94 33 1).1 94 4 = 0 then .null else .ref (g.2.1 97), .int ((mSI M 94 33 1).1 94 5), .int ((mSI M 94 33 1).1 94 6), .int ((mSI M 94 33 1).1 94 7), .int ((mSI M 94 33 1).1 94 8), .int ((mSI M 94 33 1).1 94 9), if (mSI M 94 33 1).1 94 10 = 0 then .null else .ref (g.2.1 98), if (mSI M 94 33 1).1 94 11 = 0 then .null else .ref (g.2.1 99), if (mSI M 94 33 1).1 94 12 = 0 then .null else .ref (g.2.1 100), if (mSI M 94 33 1).1 94 13 = 0 then .null else .ref (g.2.1 101), .int ((mSI M 94 33 1).1 94 14), .long ((mSI M 94 33 1).2 94 15), .long ((mSI M 94 33 1).2 94 16), if (mSI M 94 33 1).1 94 17 = 0 then .null else .ref (g.2.1 102), if (mSI M 94 33 1).1 94 18 = 0 then .null else .ref (g.2.1 103), .int ((mSI M 94 33 1).1 94 19), .int ((mSI M 94 33 1).1 94 20), if (mSI M 94 33 1).1 94 21 = 0 then .null else .ref (g.2.1 104), if (mSI M 94 33 1).1 94 22 = 0 then .null else .ref (g.2.1 105), if (mSI M 94 33 1).1 94 23 = 0 then .null else .ref (g.2.1 106), if (mSI M 94 33 1).1 94 24 = 0 then .null else .ref (g.2.1 107), if (mSI M 94 33 1).1 94 25 = 0 then .null else .ref (g.2.1 108), if (mSI M 94 33 1).1 94 26 = 0 then .null else .ref (g.2.1 109), if (mSI M 94 33 1).1 94 27 = 0 then .null else .ref (g.2.1 110), if (mSI M 94 33 1).1 94 28 = 0 then .null else .ref (g.2.1 111), if (mSI M 94 33 1).1 94 29 = 0 then .null else .ref (g.2.1 112), if (mSI M 94 33 1).1 94 30 = 0 then .null else .ref (g.2.1 113), if (mSI M 94 33 1).1 94 31 = 0 then .null else .ref (g.2.1 114), if (mSI M 94 33 1).1 94 32 = 0 then .null else .ref (g.2.1 115), if (mSI M 94 33 1).1 94 33 = 0 then .null else .ref (g.2.1 116), if (mSI M 94 33 1).1 94 34 = 0 then .null else .ref (g.2.1 117), .int ((mSI M 94 33 1).1 94 35), .int ((mSI M 94 33 1).1 94 36), .int ((mSI M 94 33 1).1 94 37), if (mSI M 94 33 1).1 94 38 = 0 then .null else .ref (g.2.1 118), if (mSI M 94 33 1).1 94 39 = 0 then .null else .ref (g.2.1 119), if (mSI M 94 33 1).1 94 40 = 0 then .null else .ref (g.2.1 120)] := by first | (simp [mSI, mSL, upd, vp_updL]; done) | rfl
theorem sC_94_34 (g : GB) (M : Mem) : ([.int (M.1 94 0), if M.1 94 1 = 0 then .null else .ref (g.2.1 95), if M.1 94 2 = 0 then .null else .ref (g.2.1 96), .int (M.1 94 3), if M.1 94 4 = 0 then .null else .ref (g.2.1 97), .int (M.1 94 5), .int (M.1 94 6), .int (M.1 94 7), .int (M.1 94 8), .int (M.1 94 9), if M.1 94 10 = 0 then .null else .ref (g.2.1 98), if M.1 94 11 = 0 then .null else .ref (g.2.1 99), if M.1 94 12 = 0 then .null else .ref (g.2.1 100), if M.1 94 13 = 0 then .null else .ref (g.2.1 101), .int (M.1 94 14), .long (M.2 94 15), .long (M.2 94 16), if M.1 94 17 = 0 then .null else .ref (g.2.1 102), if M.1 94 18 = 0 then .null else .ref (g.2.1 103), .int (M.1 94 19), .int (M.1 94 20), if M.1 94 21 = 0 then .null else .ref (g.2.1 104), if M.1 94 22 = 0 then .null else .ref (g.2.1 105), if M.1 94 23 = 0 then .null else .ref (g.2.1 106), if M.1 94 24 = 0 then .null else .ref (g.2.1 107), if M.1 94 25 = 0 then .null else .ref (g.2.1 108), if M.1 94 26 = 0 then .null else .ref (g.2.1 109), if M.1 94 27 = 0 then .null else .ref (g.2.1 110), if M.1 94 28 = 0 then .null else .ref (g.2.1 111), if M.1 94 29 = 0 then .null else .ref (g.2.1 112), if M.1 94 30 = 0 then .null else .ref (g.2.1 113), if M.1 94 31 = 0 then .null else .ref (g.2.1 114), if M.1 94 32 = 0 then .null else .ref (g.2.1 115), if M.1 94 33 = 0 then .null else .ref (g.2.1 116), if M.1 94 34 = 0 then .null else .ref (g.2.1 117), .int (M.1 94 35), .int (M.1 94 36), .int (M.1 94 37), if M.1 94 38 = 0 then .null else .ref (g.2.1 118), if M.1 94 39 = 0 then .null else .ref (g.2.1 119), if M.1 94 40 = 0 then .null else .ref (g.2.1 120)] : List Value).set 34 (.ref (g.2.1 117)) = [.int ((mSI M 94 34 1).1 94 0), if (mSI M 94 34 1).1 94 1 = 0 then .null else .ref (g.2.1 95), if (mSI M 94 34 1).1 94 2 = 0 then .null else .ref (g.2.1 96), .int ((mSI M 94 34 1).1 94 3), if (mSI M 94 34 1).1 94 4 = 0 then .null else .ref (g.2.1 97), .int ((mSI M 94 34 1).1 94 5), .int ((mSI M 94 34 1).1 94 6), .int ((mSI M 94 34 1).1 94 7), .int ((mSI M 94 34 1).1 94 8), .int ((mSI M 94 34 1).1 94 9), if (mSI M 94 34 1).1 94 10 = 0 then .null else .ref (g.2.1 98), if (mSI M 94 34 1).1 94 11 = 0 then .null else .ref (g.2.1 99), if (mSI M 94 34 1).1 94 12 = 0 then .null else .ref (g.2.1 100), if (mSI M 94 34 1).1 94 13 = 0 then .null else .ref (g.2.1 101), .int ((mSI M 94 34 1).1 94 14), .long ((mSI M 94 34 1).2 94 15), .long ((mSI M 94 34 1).2 94 16), if (mSI M 94 34 1).1 94 17 = 0 then .null else .ref (g.2.1 102), if (mSI M 94 34 1).1 94 18 = 0 then .null else .ref (g.2.1 103), .int ((mSI M 94 34 1).1 94 19), .int ((mSI M 94 34 1).1 94 20), if (mSI M 94 34 1).1 94 21 = 0 then .null else .ref (g.2.1 104), if (mSI M 94 34 1).1 94 22 = 0 then .null else .ref (g.2.1 105), if (mSI M 94 34 1).1 94 23 = 0 then .null else .ref (g.2.1 106), if (mSI M 94 34 1).1 94 24 = 0 then .null else .ref (g.2.1 107), if (mSI M 94 34 1).1 94 25 = 0 then .null else .ref (g.2.1 108), if (mSI M 94 34 1).1 94 26 = 0 then .null else .ref (g.2.1 109), if (mSI M 94 34 1).1 94 27 = 0 then .null else .ref (g.2.1 110), if (mSI M 94 34 1).1 94 28 = 0 then .null else .ref (g.2.1 111), if (mSI M 94 34 1).1 94 29 = 0 then .null else .ref (g.2.1 112), if (mSI M 94 34 1).1 94 30 = 0 then .null else .ref (g.2.1 113), if (mSI M 94 34 1).1 94 31 = 0 then .null else .ref (g.2.1 114), if (mSI M 94 34 1).1 94 32 = 0 then .null else .ref (g.2.1 115), if (mSI M 94 34 1).1 94 33 = 0 then .null else .ref (g.2.1 116), if (mSI M 94 34 1).1 94 34 = 0 then .null else .ref (g.2.1 117), .int ((mSI M 94 34 1).1 94 35), .int ((mSI M 94 34 1).1 94 36), .int ((mSI M 94 34 1).1 94 37), if (mSI M 94 34 1).1 94 38 = 0 then .null else .ref (g.2.1 118), if (mSI M 94 34 1).1 94 39 = 0 then .null else .ref (g.2.1 119), if (mSI M 94 34 1).1 94 40 = 0 then .null else .ref (g.2.1 120)] := by first | (simp [mSI, mSL, upd, vp_updL]; done) | rfl
theorem sC_94_38 (g : GB) (M : Mem) : ([.int (M.1 94 0), if M.1 94 1 = 0 then .null else .ref (g.2.1 95), if M.1 94 2 = 0 then .null else .ref (g.2.1 96), .int (M.1 94 3), if M.1 94 4 = 0 then .null else .ref (g.2.1 97), .int (M.1 94 5), .int (M.1 94 6), .int (M.1 94 7), .int (M.1 94 8), .int (M.1 94 9), if M.1 94 10 = 0 then .null else .ref (g.2.1 98), if M.1 94 11 = 0 then .null else .ref (g.2.1 99), if M.1 94 12 = 0 then .null else .ref (g.2.1 100), if M.1 94 13 = 0 then .null else .ref (g.2.1 101), .int (M.1 94 14), .long (M.2 94 15), .long (M.2 94 16), if M.1 94 17 = 0 then .null else .ref (g.2.1 102), if M.1 94 18 = 0 then .null else .ref (g.2.1 103), .int (M.1 94 19), .int (M.1 94 20), if M.1 94 21 = 0 then .null else .ref (g.2.1 104), if M.1 94 22 = 0 then .null else .ref (g.2.1 105), if M.1 94 23 = 0 then .null else .ref (g.2.1 106), if M.1 94 24 = 0 then .null else .ref (g.2.1 107), if M.1 94 25 = 0 then .null else .ref (g.2.1 108), if M.1 94 26 = 0 then .null else .ref (g.2.1 109), if M.1 94 27 = 0 then .null else .ref (g.2.1 110), if M.1 94 28 = 0 then .null else .ref (g.2.1 111), if M.1 94 29 = 0 then .null else .ref (g.2.1 112), if M.1 94 30 = 0 then .null else .ref (g.2.1 113), if M.1 94 31 = 0 then .null else .ref (g.2.1 114), if M.1 94 32 = 0 then .null else .ref (g.2.1 115), if M.1 94 33 = 0 then .null else .ref (g.2.1 116), if M.1 94 34 = 0 then .null else .ref (g.2.1 117), .int (M.1 94 35), .int (M.1 94 36), .int (M.1 94 37), if M.1 94 38 = 0 then .null else .ref (g.2.1 118), if M.1 94 39 = 0 then .null else .ref (g.2.1 119), if M.1 94 40 = 0 then .null else .ref (g.2.1 120)] : List Value).set 38 (.ref (g.2.1 118)) = [.int ((mSI M 94 38 1).1 94 0), if (mSI M 94 38 1).1 94 1 = 0 then .null else .ref (g.2.1 95), if (mSI M 94 38 1).1 94 2 = 0 then .null else .ref (g.2.1 96), .int ((mSI M 94 38 1).1 94 3), if (mSI M 94 38 1).1 94 4 = 0 then .null else .ref (g.2.1 97), .int ((mSI M 94 38 1).1 94 5), .int ((mSI M 94 38 1).1 94 6), .int ((mSI M 94 38 1).1 94 7), .int ((mSI M 94 38 1).1 94 8), .int ((mSI M 94 38 1).1 94 9), if (mSI M 94 38 1).1 94 10 = 0 then .null else .ref (g.2.1 98), if (mSI M 94 38 1).1 94 11 = 0 then .null else .ref (g.2.1 99), if (mSI M 94 38 1).1 94 12 = 0 then .null else .ref (g.2.1 100), if (mSI M 94 38 1).1 94 13 = 0 then .null else .ref (g.2.1 101), .int ((mSI M 94 38 1).1 94 14), .long ((mSI M 94 38 1).2 94 15), .long ((mSI M 94 38 1).2 94 16), if (mSI M 94 38 1).1 94 17 = 0 then .null else .ref (g.2.1 102), if (mSI M 94 38 1).1 94 18 = 0 then .null else .ref (g.2.1 103), .int ((mSI M 94 38 1).1 94 19), .int ((mSI M 94 38 1).1 94 20), if (mSI M 94 38 1).1 94 21 = 0 then .null else .ref (g.2.1 104), if (mSI M 94 38 1).1 94 22 = 0 then .null else .ref (g.2.1 105), if (mSI M 94 38 1).1 94 23 = 0 then .null else .ref (g.2.1 106), if (mSI M 94 38 1).1 94 24 = 0 then .null else .ref (g.2.1 107), if (mSI M 94 38 1).1 94 25 = 0 then .null else .ref (g.2.1 108), if (mSI M 94 38 1).1 94 26 = 0 then .null else .ref (g.2.1 109), if (mSI M 94 38 1).1 94 27 = 0 then .null else .ref (g.2.1 110), if (mSI M 94 38 1).1 94 28 = 0 then .null else .ref (g.2.1 111), if (mSI M 94 38 1).1 94 29 = 0 then .null else .ref (g.2.1 112), if (mSI M 94 38 1).1 94 30 = 0 then .null else .ref (g.2.1 113), if (mSI M 94 38 1).1 94 31 = 0 then .null else .ref (g.2.1 114), if (mSI M 94 38 1).1 94 32 = 0 then .null else .ref (g.2.1 115), if (mSI M 94 38 1).1 94 33 = 0 then .null else .ref (g.2.1 116), if (mSI M 94 38 1).1 94 34 = 0 then .null else .ref (g.2.1 117), .int ((mSI M 94 38 1).1 94 35), .int ((mSI M 94 38 1).1 94 36), .int ((mSI M 94 38 1).1 94 37), if (mSI M 94 38 1).1 94 38 = 0 then .null else .ref (g.2.1 118), if (mSI M 94 38 1).1 94 39 = 0 then .null else .ref (g.2.1 119), if (mSI M 94 38 1).1 94 40 = 0 then .null else .ref (g.2.1 120)] := by first | (simp [mSI, mSL, upd, vp_updL]; done) | rfl
theorem sC_94_39 (g : GB) (M : Mem) : ([.int (M.1 94 0), if M.1 94 1 = 0 then .null else .ref (g.2.1 95), if M.1 94 2 = 0 then .null else .ref (g.2.1 96), .int (M.1 94 3), if M.1 94 4 = 0 then .null else .ref (g.2.1 97), .int (M.1 94 5), .int (M.1 94 6), .int (M.1 94 7), .int (M.1 94 8), .int (M.1 94 9), if M.1 94 10 = 0 then .null else .ref (g.2.1 98), if M.1 94 11 = 0 then .null else .ref (g.2.1 99), if M.1 94 12 = 0 then .null else .ref (g.2.1 100), if M.1 94 13 = 0 then .null else .ref (g.2.1 101), .int (M.1 94 14), .long (M.2 94 15), .long (M.2 94 16), if M.1 94 17 = 0 then .null else .ref (g.2.1 102), if M.1 94 18 = 0 then .null else .ref (g.2.1 103), .int (M.1 94 19), .int (M.1 94 20), if M.1 94 21 = 0 then .null else .ref (g.2.1 104), if M.1 94 22 = 0 then .null else .ref (g.2.1 105), if M.1 94 23 = 0 then .null else .ref (g.2.1 106), if M.1 94 24 = 0 then .null else .ref (g.2.1 107), if M.1 94 25 = 0 then .null else .ref (g.2.1 108), if M.1 94 26 = 0 then .null else .ref (g.2.1 109), if M.1 94 27 = 0 then .null else .ref (g.2.1 110), if M.1 94 28 = 0 then .null else .ref (g.2.1 111), if M.1 94 29 = 0 then .null else .ref (g.2.1 112), if M.1 94 30 = 0 then .null else .ref (g.2.1 113), if M.1 94 31 = 0 then .null else .ref (g.2.1 114), if M.1 94 32 = 0 then .null else .ref (g.2.1 115), if M.1 94 33 = 0 then .null else .ref (g.2.1 116), if M.1 94 34 = 0 then .null else .ref (g.2.1 117), .int (M.1 94 35), .int (M.1 94 36), .int (M.1 94 37), if M.1 94 38 = 0 then .null else .ref (g.2.1 118), if M.1 94 39 = 0 then .null else .ref (g.2.1 119), if M.1 94 40 = 0 then .null else .ref (g.2.1 120)] : List Value).set 39 (.ref (g.2.1 119)) = [.int ((mSI M 94 39 1).1 94 0), if (mSI M 94 39 1).1 94 1 = 0 then .null else .ref (g.2.1 95), if (mSI M 94 39 1).1 94 2 = 0 then .null else .ref (g.2.1 96), .int ((mSI M 94 39 1).1 94 3), if (mSI M 94 39 1).1 94 4 = 0 then .null else .ref (g.2.1 97), .int ((mSI M 94 39 1).1 94 5), .int ((mSI M 94 39 1).1 94 6), .int ((mSI M 94 39 1).1 94 7), .int ((mSI M 94 39 1).1 94 8), .int ((mSI M 94 39 1).1 94 9), if (mSI M 94 39 1).1 94 10 = 0 then .null else .ref (g.2.1 98), if (mSI M 94 39 1).1 94 11 = 0 then .null else .ref (g.2.1 99), if (mSI M 94 39 1).1 94 12 = 0 then .null else .ref (g.2.1 100), if (mSI M 94 39 1).1 94 13 = 0 then .null else .ref (g.2.1 101), .int ((mSI M 94 39 1).1 94 14), .long ((mSI M 94 39 1).2 94 15), .long ((mSI M 94 39 1).2 94 16), if (mSI M 94 39 1).1 94 17 = 0 then .null else .ref (g.2.1 102), if (mSI M 94 39 1).1 94 18 = 0 then .null else .ref (g.2.1 103), .int ((mSI M 94 39 1).1 94 19), .int ((mSI M 94 39 1).1 94 20), if (mSI M 94 39 1).1 94 21 = 0 then .null else .ref (g.2.1 104), if (mSI M 94 39 1).1 94 22 = 0 then .null else .ref (g.2.1 105), if (mSI M 94 39 1).1 94 23 = 0 then .null else .ref (g.2.1 106), if (mSI M 94 39 1).1 94 24 = 0 then .null else .ref (g.2.1 107), if (mSI M 94 39 1).1 94 25 = 0 then .null else .ref (g.2.1 108), if (mSI M 94 39 1).1 94 26 = 0 then .null else .ref (g.2.1 109), if (mSI M 94 39 1).1 94 27 = 0 then .null else .ref (g.2.1 110), if (mSI M 94 39 1).1 94 28 = 0 then .null else .ref (g.2.1 111), if (mSI M 94 39 1).1 94 29 = 0 then .null else .ref (g.2.1 112), if (mSI M 94 39 1).1 94 30 = 0 then .null else .ref (g.2.1 113), if (mSI M 94 39 1).1 94 31 = 0 then .null else .ref (g.2.1 114), if (mSI M 94 39 1).1 94 32 = 0 then .null else .ref (g.2.1 115), if (mSI M 94 39 1).1 94 33 = 0 then .null else .ref (g.2.1 116), if (mSI M 94 39 1).1 94 34 = 0 then .null else .ref (g.2.1 117), .int ((mSI M 94 39 1).1 94 35), .int ((mSI M 94 39 1).1 94 36), .int ((mSI M 94 39 1).1 94 37), if (mSI M 94 39 1).1 94 38 = 0 then .null else .ref (g.2.1 118), if (mSI M 94 39 1).1 94 39 = 0 then .null else .ref (g.2.1 119), if (mSI M 94 39 1).1 94 40 = 0 then .null else .ref (g.2.1 120)] := by first | (simp [mSI, mSL, upd, vp_updL]; done) | rfl
theorem sC_94_40 (g : GB) (M : Mem) : ([.int (M.1 94 0), if M.1 94 1 = 0 then .null else .ref (g.2.1 95), if M.1 94 2 = 0 then .null else .ref (g.2.1 96), .int (M.1 94 3), if M.1 94 4 = 0 then .null else .ref (g.2.1 97), .int (M.1 94 5), .int (M.1 94 6), .int (M.1 94 7), .int (M.1 94 8), .int (M.1 94 9), if M.1 94 10 = 0 then .null else .ref (g.2.1 98), if M.1 94 11 = 0 then .null else .ref (g.2.1 99), if M.1 94 12 = 0 then .null else .ref (g.2.1 100), if M.1 94 13 = 0 then .null else .ref (g.2.1 101), .int (M.1 94 14), .long (M.2 94 15), .long (M.2 94 16), if M.1 94 17 = 0 then .null else .ref (g.2.1 102), if M.1 94 18 = 0 then .null else .ref (g.2.1 103), .int (M.1 94 19), .int (M.1 94 20), if M.1 94 21 = 0 then .null else .ref (g.2.1 104), if M.1 94 22 = 0 then .null else .ref (g.2.1 105), if M.1 94 23 = 0 then .null else .ref (g.2.1 106), if M.1 94 24 = 0 then .null else .ref (g.2.1 107), if M.1 94 25 = 0 then .null else .ref (g.2.1 108), if M.1 94 26 = 0 then .null else .ref (g.2.1 109), if M.1 94 27 = 0 then .null else .ref (g.2.1 110), if M.1 94 28 = 0 then .null else .ref (g.2.1 111), if M.1 94 29 = 0 then .null else .ref (g.2.1 112), if M.1 94 30 = 0 then .null else .ref (g.2.1 113), if M.1 94 31 = 0 then .null else .ref (g.2.1 114), if M.1 94 32 = 0 then .null else .ref (g.2.1 115), if M.1 94 33 = 0 then .null else .ref (g.2.1 116), if M.1 94 34 = 0 then .null else .ref (g.2.1 117), .int (M.1 94 35), .int (M.1 94 36), .int (M.1 94 37), if M.1 94 38 = 0 then .null else .ref (g.2.1 118), if M.1 94 39 = 0 then .null else .ref (g.2.1 119), if M.1 94 40 = 0 then .null else .ref (g.2.1 120)] : List Value).set 40 (.ref (g.2.1 120)) = [.int ((mSI M 94 40 1).1 94 0), if (mSI M 94 40 1).1 94 1 = 0 then .null else .ref (g.2.1 95), if (mSI M 94 40 1).1 94 2 = 0 then .null else .ref (g.2.1 96), .int ((mSI M 94 40 1).1 94 3), if (mSI M 94 40 1).1 94 4 = 0 then .null else .ref (g.2.1 97), .int ((mSI M 94 40 1).1 94 5), .int ((mSI M 94 40 1).1 94 6), .int ((mSI M 94 40 1).1 94 7), .int ((mSI M 94 40 1).1 94 8), .int ((mSI M 94 40 1).1 94 9), if (mSI M 94 40 1).1 94 10 = 0 then .null else .ref (g.2.1 98), if (mSI M 94 40 1).1 94 11 = 0 then .null else .ref (g.2.1 99), if (mSI M 94 40 1).1 94 12 = 0 then .null else .ref (g.2.1 100), if (mSI M 94 40 1).1 94 13 = 0 then .null else .ref (g.2.1 101), .int ((mSI M 94 40 1).1 94 14), .long ((mSI M 94 40 1).2 94 15), .long ((mSI M 94 40 1).2 94 16), if (mSI M 94 40 1).1 94 17 = 0 then .null else .ref (g.2.1 102), if (mSI M 94 40 1).1 94 18 = 0 then .null else .ref (g.2.1 103), .int ((mSI M 94 40 1).1 94 19), .int ((mSI M 94 40 1).1 94 20), if (mSI M 94 40 1).1 94 21 = 0 then .null else .ref (g.2.1 104), if (mSI M 94 40 1).1 94 22 = 0 then .null else .ref (g.2.1 105), if (mSI M 94 40 1).1 94 23 = 0 then .null else .ref (g.2.1 106), if (mSI M 94 40 1).1 94 24 = 0 then .null else .ref (g.2.1 107), if (mSI M 94 40 1).1 94 25 = 0 then .null else .ref (g.2.1 108), if (mSI M 94 40 1).1 94 26 = 0 then .null else .ref (g.2.1 109), if (mSI M 94 40 1).1 94 27 = 0 then .null else .ref (g.2.1 110), if (mSI M 94 40 1).1 94 28 = 0 then .null else .ref (g.2.1 111), if (mSI M 94 40 1).1 94 29 = 0 then .null else .ref (g.2.1 112), if (mSI M 94 40 1).1 94 30 = 0 then .null else .ref (g.2.1 113), if (mSI M 94 40 1).1 94 31 = 0 then .null else .ref (g.2.1 114), if (mSI M 94 40 1).1 94 32 = 0 then .null else .ref (g.2.1 115), if (mSI M 94 40 1).1 94 33 = 0 then .null else .ref (g.2.1 116), if (mSI M 94 40 1).1 94 34 = 0 then .null else .ref (g.2.1 117), .int ((mSI M 94 40 1).1 94 35), .int ((mSI M 94 40 1).1 94 36), .int ((mSI M 94 40 1).1 94 37), if (mSI M 94 40 1).1 94 38 = 0 then .null else .ref (g.2.1 118), if (mSI M 94 40 1).1 94 39 = 0 then .null else .ref (g.2.1 119), if (mSI M 94 40 1).1 94 40 = 0 then .null else .ref (g.2.1 120)] := by first | (simp [mSI, mSL, upd, vp_updL]; done) | rfl
theorem gC_94_1 (g : GB) (M : Mem) (h : M.1 94 1 = 1) : ([.int (M.1 94 0), if M.1 94 1 = 0 then .null else .ref (g.2.1 95), if M.1 94 2 = 0 then .null else .ref (g.2.1 96), .int (M.1 94 3), if M.1 94 4 = 0 then .null else .ref (g.2.1 97), .int (M.1 94 5), .int (M.1 94 6), .int (M.1 94 7), .int (M.1 94 8), .int (M.1 94 9), if M.1 94 10 = 0 then .null else .ref (g.2.1 98), if M.1 94 11 = 0 then .null else .ref (g.2.1 99), if M.1 94 12 = 0 then .null else .ref (g.2.1 100), if M.1 94 13 = 0 then .null else .ref (g.2.1 101), .int (M.1 94 14), .long (M.2 94 15), .long (M.2 94 16), if M.1 94 17 = 0 then .null else .ref (g.2.1 102), if M.1 94 18 = 0 then .null else .ref (g.2.1 103), .int (M.1 94 19), .int (M.1 94 20), if M.1 94 21 = 0 then .null else .ref (g.2.1 104), if M.1 94 22 = 0 then .null else .ref (g.2.1 105), if M.1 94 23 = 0 then .null else .ref (g.2.1 106), if M.1 94 24 = 0 then .null else .ref (g.2.1 107), if M.1 94 25 = 0 then .null else .ref (g.2.1 108), if M.1 94 26 = 0 then .null else .ref (g.2.1 109), if M.1 94 27 = 0 then .null else .ref (g.2.1 110), if M.1 94 28 = 0 then .null else .ref (g.2.1 111), if M.1 94 29 = 0 then .null else .ref (g.2.1 112), if M.1 94 30 = 0 then .null else .ref (g.2.1 113), if M.1 94 31 = 0 then .null else .ref (g.2.1 114), if M.1 94 32 = 0 then .null else .ref (g.2.1 115), if M.1 94 33 = 0 then .null else .ref (g.2.1 116), if M.1 94 34 = 0 then .null else .ref (g.2.1 117), .int (M.1 94 35), .int (M.1 94 36), .int (M.1 94 37), if M.1 94 38 = 0 then .null else .ref (g.2.1 118), if M.1 94 39 = 0 then .null else .ref (g.2.1 119), if M.1 94 40 = 0 then .null else .ref (g.2.1 120)] : List Value)[1]? = some (.ref (g.2.1 95)) := by simp [h]
def on_X12_init : Nat := 0xb14f0a1006100d00b42a4f04070d00b42a4f05050d00b42a4f04040d00b42a4f05030d00b42a5e00b50bbc08102a5b00b50bbc08102a5800b50abc40102a5500b50abc0a102a5200b50abc0a102a4f00b50abc09102a4c00b50abc09102a4900b50bbc062a4600b50bbc062a4300b50bbc10102a4000b50bbc10102a3d00b50abc062a3a00b50abc062a3700b50bbc062a3400b50bbc062a3100b50bbc12102a2d00b50bbc12102a2a00b50abc09102a2700b50abc0a102a2400b50abc9001112a2100b50abc9001112a1e00b50abc0d102a1b00b50abc082a1800b5022a1400b508bc9001112a1100b50abc3402112a0d00b50abc3402112a0700b72a
theorem ob_X12_init : OKB cX12_init on_X12_init 253 := ⟨by decide +kernel, by decide +kernel⟩
theorem dX12_init_0 : dc cX12_init 0 1 (.aload_n 0) 1 := o_42 ob_X12_init rfl rfl rfl
theorem dX12_init_1 : dc cX12_init 1 4 (.invokespecial 7) 3 := o_183 ob_X12_init rfl rfl rfl rfl
theorem dX12_init_4 : dc cX12_init 4 5 (.aload_n 0) 1 := o_42 ob_X12_init rfl rfl rfl
theorem dX12_init_5 : dc cX12_init 5 8 (.sipush 564) 3 := o_17 ob_X12_init rfl rfl rfl rfl
theorem dX12_init_10 : dc cX12_init 10 13 (.putfield 13) 3 := o_181 ob_X12_init rfl rfl rfl rfl
theorem dX12_init_13 : dc cX12_init 13 14 (.aload_n 0) 1 := o_42 ob_X12_init rfl rfl rfl
theorem dX12_init_14 : dc cX12_init 14 17 (.sipush 564) 3 := o_17 ob_X12_init rfl rfl rfl rfl
theorem dX12_init_19 : dc cX12_init 19 22 (.putfield 17) 3 := o_181 ob_X12_init rfl rfl rfl rfl
theorem dX12_init_22 : dc cX12_init 22 23 (.aload_n 0) 1 := o_42 ob_X12_init rfl rfl rfl
theorem dX12_init_23 : dc cX12_init 23 26 (.sipush 400) 3 := o_17 ob_X12_init rfl rfl rfl rfl
theorem dX12_init_28 : dc cX12_init 28 31 (.putfield 20) 3 := o_181 ob_X12_init rfl rfl rfl rfl
theorem dX12_init_31 : dc cX12_init 31 32 (.aload_n 0) 1 := o_42 ob_X12_init rfl rfl rfl
theorem dX12_init_32 : dc cX12_init 32 33 (.iconst (-1)) 1 := o_2 ob_X12_init rfl rfl rfl
theorem dX12_init_33 : dc cX12_init 33 36 (.putfield 24) 3 := o_181 ob_X12_init rfl rfl rfl rfl
theorem dX12_init_36 : dc cX12_init 36 37 (.aload_n 0) 1 := o_42 ob_X12_init rfl rfl rfl
theorem dX12_init_37 : dc cX12_init 37 38 (.iconst 5) 1 := o_8 ob_X12_init rfl rfl rfl
theorem dX12_init_40 : dc cX12_init 40 43 (.putfield 27) 3 := o_181 ob_X12_init rfl rfl rfl rfl
theorem dX12_init_43 : dc cX12_init 43 44 (.aload_n 0) 1 := o_42 ob_X12_init rfl rfl rfl
theorem dX12_init_44 : dc cX12_init 44 46 (.bipush 13) 2 := o_16 ob_X12_init rfl rfl rfl rfl
theorem dX12_init_48 : dc cX12_init 48 51 (.putfield 30) 3 := o_181 ob_X12_init rfl rfl rfl rfl
theorem dX12_init_51 : dc cX12_init 51 52 (.aload_n 0) 1 := o_42 ob_X12_init rfl rfl rfl
theorem dX12_init_52 : dc cX12_init 52 55 (.sipush 400) 3 := o_17 ob_X12_init rfl rfl rfl rfl
theorem dX12_init_57 : dc cX12_init 57 60 (.putfield 33) 3 := o_181 ob_X12_init rfl rfl rfl rfl
theorem dX12_init_60 : dc cX12_init 60 61 (.aload_n 0) 1 := o_42 ob_X12_init rfl rfl rfl
theorem dX12_init_61 : dc cX12_init 61 64 (.sipush 400) 3 := o_17 ob_X12_init rfl rfl rfl rfl
theorem dX12_init_66 : dc cX12_init 66 69 (.putfield 36) 3 := o_181 ob_X12_init rfl rfl rfl rfl
theorem dX12_init_69 : dc cX12_init 69 70 (.aload_n 0) 1 := o_42 ob_X12_init rfl rfl rfl
theorem dX12_init_70 : dc cX12_init 70 72 (.bipush 10) 2 := o_16 ob_X12_init rfl rfl rfl rfl
theorem dX12_init_74 : dc cX12_init 74 77 (.putfield 39) 3 := o_181 ob_X12_init rfl rfl rfl rfl
theorem dX12_init_77 : dc cX12_init 77 78 (.aload_n 0) 1 := o_42 ob_X12_init rfl rfl rfl
theorem dX12_init_78 : dc cX12_init 78 80 (.bipush 9) 2 := o_16 ob_X12_init rfl rfl rfl rfl
theorem dX12_init_82 : dc cX12_init 82 85 (.putfield 42) 3 := o_181 ob_X12_init rfl rfl rfl rfl
theorem dX12_init_85 : dc cX12_init 85 86 (.aload_n 0) 1 := o_42 ob_X12_init rfl rfl rfl
theorem dX12_init_86 : dc cX12_init 86 88 (.bipush 18) 2 := o_16 ob_X12_init rfl rfl rfl rfl
theorem dX12_init_90 : dc cX12_init 90 93 (.putfield 45) 3 := o_181 ob_X12_init rfl rfl rfl rfl
theorem dX12_init_93 : dc cX12_init 93 94 (.aload_n 0) 1 := o_42 ob_X12_init rfl rfl rfl
theorem dX12_init_94 : dc cX12_init 94 96 (.bipush 18) 2 := o_16 ob_X12_init rfl rfl rfl rfl
theorem dX12_init_98 : dc cX12_init 98 101 (.putfield 49) 3 := o_181 ob_X12_init rfl rfl rfl rfl
theorem dX12_init_101 : dc cX12_init 101 102 (.aload_n 0) 1 := o_42 ob_X12_init rfl rfl rfl
theorem dX12_init_102 : dc cX12_init 102 103 (.iconst 3) 1 := o_6 ob_X12_init rfl rfl rfl
theorem dX12_init_105 : dc cX12_init 105 108 (.putfield 52) 3 := o_181 ob_X12_init rfl rfl rfl rfl
theorem dX12_init_108 : dc cX12_init 108 109 (.aload_n 0) 1 := o_42 ob_X12_init rfl rfl rfl
theorem dX12_init_109 : dc cX12_init 109 110 (.iconst 3) 1 := o_6 ob_X12_init rfl rfl rfl
theorem dX12_init_112 : dc cX12_init 112 115 (.putfield 55) 3 := o_181 ob_X12_init rfl rfl rfl rfl
theorem dX12_init_115 : dc cX12_init 115 116 (.aload_n 0) 1 := o_42 ob_X12_init rfl rfl rfl
theorem dX12_init_116 : dc cX12_init 116 117 (.iconst 3) 1 := o_6 ob_X12_init rfl rfl rfl
theorem dX12_init_119 : dc cX12_init 119 122 (.putfield 58) 3 := o_181 ob_X12_init rfl rfl rfl rfl
theorem dX12_init_122 : dc cX12_init 122 123 (.aload_n 0) 1 := o_42 ob_X12_init rfl rfl rfl
theorem dX12_init_123 : dc cX12_init 123 124 (.iconst 3) 1 := o_6 ob_X12_init rfl rfl rfl
theorem dX12_init_126 : dc cX12_init 126 129 (.putfield 61) 3 := o_181 ob_X12_init rfl rfl rfl rfl
theorem dX12_init_129 : dc cX12_init 129 130 (.aload_n 0) 1 := o_42 ob_X12_init rfl rfl rfl
theorem dX12_init_130 : dc cX12_init 130 132 (.bipush 16) 2 := o_16 ob_X12_init rfl rfl rfl rfl
theorem dX12_init_134 : dc cX12_init 134 137 (.putfield 64) 3 := o_181 ob_X12_init rfl rfl rfl rfl
theorem dX12_init_137 : dc cX12_init 137 138 (.aload_n 0) 1 := o_42 ob_X12_init rfl rfl rfl
theorem dX12_init_138 : dc cX12_init 138 140 (.bipush 16) 2 := o_16 ob_X12_init rfl rfl rfl rfl
theorem dX12_init_142 : dc cX12_init 142 145 (.putfield 67) 3 := o_181 ob_X12_init rfl rfl rfl rfl
theorem dX12_init_145 : dc cX12_init 145 146 (.aload_n 0) 1 := o_42 ob_X12_init rfl rfl rfl
theorem dX12_init_146 : dc cX12_init 146 147 (.iconst 3) 1 := o_6 ob_X12_init rfl rfl rfl
theorem dX12_init_149 : dc cX12_init 149 152 (.putfield 70) 3 := o_181 ob_X12_init rfl rfl rfl rfl
theorem dX12_init_152 : dc cX12_init 152 153 (.aload_n 0) 1 := o_42 ob_X12_init rfl rfl rfl
theorem dX12_init_153 : dc cX12_init 153 154 (.iconst 3) 1 := o_6 ob_X12_init rfl rfl rfl
theorem dX12_init_156 : dc cX12_init 156 159 (.putfield 73) 3 := o_181 ob_X12_init rfl rfl rfl rfl
theorem dX12_init_159 : dc cX12_init 159 160 (.aload_n 0) 1 := o_42 ob_X12_init rfl rfl rfl
theorem dX12_init_160 : dc cX12_init 160 162 (.bipush 9) 2 := o_16 ob_X12_init rfl rfl rfl rfl
theorem dX12_init_164 : dc cX12_init 164 167 (.putfield 76) 3 := o_181 ob_X12_init rfl rfl rfl rfl
theorem dX12_init_167 : dc cX12_init 167 168 (.aload_n 0) 1 := o_42 ob_X12_init rfl rfl rfl
theorem dX12_init_168 : dc cX12_init 168 170 (.bipush 9) 2 := o_16 ob_X12_init rfl rfl rfl rfl
theorem dX12_init_172 : dc cX12_init 172 175 (.putfield 79) 3 := o_181 ob_X12_init rfl rfl rfl rfl
theorem dX12_init_175 : dc cX12_init 175 176 (.aload_n 0) 1 := o_42 ob_X12_init rfl rfl rfl
theorem dX12_init_176 : dc cX12_init 176 178 (.bipush 10) 2 := o_16 ob_X12_init rfl rfl rfl rfl
theorem dX12_init_180 : dc cX12_init 180 183 (.putfield 82) 3 := o_181 ob_X12_init rfl rfl rfl rfl
theorem dX12_init_183 : dc cX12_init 183 184 (.aload_n 0) 1 := o_42 ob_X12_init rfl rfl rfl
theorem dX12_init_184 : dc cX12_init 184 186 (.bipush 10) 2 := o_16 ob_X12_init rfl rfl rfl rfl
theorem dX12_init_188 : dc cX12_init 188 191 (.putfield 85) 3 := o_181 ob_X12_init rfl rfl rfl rfl
theorem dX12_init_191 : dc cX12_init 191 192 (.aload_n 0) 1 := o_42 ob_X12_init rfl rfl rfl
theorem dX12_init_192 : dc cX12_init 192 194 (.bipush 64) 2 := o_16 ob_X12_init rfl rfl rfl rfl
theorem dX12_init_196 : dc cX12_init 196 199 (.putfield 88) 3 := o_181 ob_X12_init rfl rfl rfl rfl
theorem dX12_init_199 : dc cX12_init 199 200 (.aload_n 0) 1 := o_42 ob_X12_init rfl rfl rfl
theorem dX12_init_200 : dc cX12_init 200 202 (.bipush 8) 2 := o_16 ob_X12_init rfl rfl rfl rfl
theorem dX12_init_204 : dc cX12_init 204 207 (.putfield 91) 3 := o_181 ob_X12_init rfl rfl rfl rfl
theorem dX12_init_207 : dc cX12_init 207 208 (.aload_n 0) 1 := o_42 ob_X12_init rfl rfl rfl
theorem dX12_init_208 : dc cX12_init 208 210 (.bipush 8) 2 := o_16 ob_X12_init rfl rfl rfl rfl
theorem dX12_init_212 : dc cX12_init 212 215 (.putfield 94) 3 := o_181 ob_X12_init rfl rfl rfl rfl
theorem dX12_init_215 : dc cX12_init 215 216 (.aload_n 0) 1 := o_42 ob_X12_init rfl rfl rfl
theorem dX12_init_216 : dc cX12_init 216 219 (.getfield 13) 3 := o_180 ob_X12_init rfl rfl rfl rfl
theorem dX12_init_219 : dc cX12_init 219 220 (.iconst 0) 1 := o_3 ob_X12_init rfl rfl rfl
theorem dX12_init_220 : dc cX12_init 220 221 (.iconst 2) 1 := o_5 ob_X12_init rfl rfl rfl
theorem dX12_init_221 : dc cX12_init 221 222 .iastore 1 := o_79 ob_X12_init rfl rfl rfl
theorem dX12_init_222 : dc cX12_init 222 223 (.aload_n 0) 1 := o_42 ob_X12_init rfl rfl rfl
theorem dX12_init_223 : dc cX12_init 223 226 (.getfield 13) 3 := o_180 ob_X12_init rfl rfl rfl rfl
theorem dX12_init_226 : dc cX12_init 226 227 (.iconst 1) 1 := o_4 ob_X12_init rfl rfl rfl
theorem dX12_init_227 : dc cX12_init 227 228 (.iconst 1) 1 := o_4 ob_X12_init rfl rfl rfl
theorem dX12_init_228 : dc cX12_init 228 229 .iastore 1 := o_79 ob_X12_init rfl rfl rfl
theorem dX12_init_229 : dc cX12_init 229 230 (.aload_n 0) 1 := o_42 ob_X12_init rfl rfl rfl
theorem dX12_init_230 : dc cX12_init 230 233 (.getfield 13) 3 := o_180 ob_X12_init rfl rfl rfl rfl
theorem dX12_init_233 : dc cX12_init 233 234 (.iconst 2) 1 := o_5 ob_X12_init rfl rfl rfl
theorem dX12_init_234 : dc cX12_init 234 235 (.iconst 2) 1 := o_5 ob_X12_init rfl rfl rfl
theorem dX12_init_235 : dc cX12_init 235 236 .iastore 1 := o_79 ob_X12_init rfl rfl rfl
theorem dX12_init_236 : dc cX12_init 236 237 (.aload_n 0) 1 := o_42 ob_X12_init rfl rfl rfl
theorem dX12_init_237 : dc cX12_init 237 240 (.getfield 13) 3 := o_180 ob_X12_init rfl rfl rfl rfl
theorem dX12_init_240 : dc cX12_init 240 241 (.iconst 4) 1 := o_7 ob_X12_init rfl rfl rfl
theorem dX12_init_241 : dc cX12_init 241 242 (.iconst 1) 1 := o_4 ob_X12_init rfl rfl rfl
theorem dX12_init_242 : dc cX12_init 242 243 .iastore 1 := o_79 ob_X12_init rfl rfl rfl
theorem dX12_init_243 : dc cX12_init 243 244 (.aload_n 0) 1 := o_42 ob_X12_init rfl rfl rfl
theorem dX12_init_244 : dc cX12_init 244 247 (.getfield 13) 3 := o_180 ob_X12_init rfl rfl rfl rfl
theorem dX12_init_247 : dc cX12_init 247 249 (.bipush 6) 2 := o_16 ob_X12_init rfl rfl rfl rfl
theorem dX12_init_249 : dc cX12_init 249 251 (.bipush 10) 2 := o_16 ob_X12_init rfl rfl rfl rfl
theorem dX12_init_251 : dc cX12_init 251 252 .iastore 1 := o_79 ob_X12_init rfl rfl rfl
theorem dX12_init_252 : dc cX12_init 252 253 .return_ 1 := o_177 ob_X12_init rfl rfl rfl
theorem drX12_init_8 : ([(8, (.newarray .int), 2), (17, (.newarray .int), 2), (26, (.newarray .byte), 2), (38, (.newarray .int), 2), (46, (.newarray .int), 2), (55, (.newarray .int), 2), (64, (.newarray .int), 2), (72, (.newarray .int), 2), (80, (.newarray .int), 2), (88, (.newarray .long), 2), (96, (.newarray .long), 2), (103, (.newarray .long), 2), (110, (.newarray .long), 2), (117, (.newarray .int), 2), (124, (.newarray .int), 2), (132, (.newarray .long), 2), (140, (.newarray .long), 2), (147, (.newarray .long), 2), (154, (.newarray .long), 2), (162, (.newarray .int), 2), (170, (.newarray .int), 2), (178, (.newarray .int), 2), (186, (.newarray .int), 2), (194, (.newarray .int), 2), (202, (.newarray .long), 2), (210, (.newarray .long), 2)] : List (Nat × Instr × Nat)).all (fun q => decide (decode cX12_init q.1 = .ok q.2)) = true := by decide +kernel
theorem dX12_init_8 : dc cX12_init 8 10 (.newarray .int) 2 := ⟨dr_at drX12_init_8 (i := 0) rfl, rfl⟩
theorem dX12_init_17 : dc cX12_init 17 19 (.newarray .int) 2 := ⟨dr_at drX12_init_8 (i := 1) rfl, rfl⟩
theorem dX12_init_26 : dc cX12_init 26 28 (.newarray .byte) 2 := ⟨dr_at drX12_init_8 (i := 2) rfl, rfl⟩
theorem dX12_init_38 : dc cX12_init 38 40 (.newarray .int) 2 := ⟨dr_at drX12_init_8 (i := 3) rfl, rfl⟩
theorem dX12_init_46 : dc cX12_init 46 48 (.newarray .int) 2 := ⟨dr_at drX12_init_8 (i := 4) rfl, rfl⟩
theorem dX12_init_55 : dc cX12_init 55 57 (.newarray .int) 2 := ⟨dr_at drX12_init_8 (i := 5) rfl, rfl⟩
theorem dX12_init_64 : dc cX12_init 64 66 (.newarray .int) 2 := ⟨dr_at drX12_init_8 (i := 6) rfl, rfl⟩
theorem dX12_init_72 : dc cX12_init 72 74 (.newarray .int) 2 := ⟨dr_at drX12_init_8 (i := 7) rfl, rfl⟩
theorem dX12_init_80 : dc cX12_init 80 82 (.newarray .int) 2 := ⟨dr_at drX12_init_8 (i := 8) rfl, rfl⟩
theorem dX12_init_88 : dc cX12_init 88 90 (.newarray .long) 2 := ⟨dr_at drX12_init_8 (i := 9) rfl, rfl⟩
theorem dX12_init_96 : dc cX12_init 96 98 (.newarray .long) 2 := ⟨dr_at drX12_init_8 (i := 10) rfl, rfl⟩
theorem dX12_init_103 : dc cX12_init 103 105 (.newarray .long) 2 := ⟨dr_at drX12_init_8 (i := 11) rfl, rfl⟩
theorem dX12_init_110 : dc cX12_init 110 112 (.newarray .long) 2 := ⟨dr_at drX12_init_8 (i := 12) rfl, rfl⟩
theorem dX12_init_117 : dc cX12_init 117 119 (.newarray .int) 2 := ⟨dr_at drX12_init_8 (i := 13) rfl, rfl⟩
theorem dX12_init_124 : dc cX12_init 124 126 (.newarray .int) 2 := ⟨dr_at drX12_init_8 (i := 14) rfl, rfl⟩
theorem dX12_init_132 : dc cX12_init 132 134 (.newarray .long) 2 := ⟨dr_at drX12_init_8 (i := 15) rfl, rfl⟩
theorem dX12_init_140 : dc cX12_init 140 142 (.newarray .long) 2 := ⟨dr_at drX12_init_8 (i := 16) rfl, rfl⟩
theorem dX12_init_147 : dc cX12_init 147 149 (.newarray .long) 2 := ⟨dr_at drX12_init_8 (i := 17) rfl, rfl⟩
theorem dX12_init_154 : dc cX12_init 154 156 (.newarray .long) 2 := ⟨dr_at drX12_init_8 (i := 18) rfl, rfl⟩
theorem dX12_init_162 : dc cX12_init 162 164 (.newarray .int) 2 := ⟨dr_at drX12_init_8 (i := 19) rfl, rfl⟩
theorem dX12_init_170 : dc cX12_init 170 172 (.newarray .int) 2 := ⟨dr_at drX12_init_8 (i := 20) rfl, rfl⟩
theorem dX12_init_178 : dc cX12_init 178 180 (.newarray .int) 2 := ⟨dr_at drX12_init_8 (i := 21) rfl, rfl⟩
theorem dX12_init_186 : dc cX12_init 186 188 (.newarray .int) 2 := ⟨dr_at drX12_init_8 (i := 22) rfl, rfl⟩
theorem dX12_init_194 : dc cX12_init 194 196 (.newarray .int) 2 := ⟨dr_at drX12_init_8 (i := 23) rfl, rfl⟩
theorem dX12_init_202 : dc cX12_init 202 204 (.newarray .long) 2 := ⟨dr_at drX12_init_8 (i := 24) rfl, rfl⟩
theorem dX12_init_210 : dc cX12_init 210 212 (.newarray .long) 2 := ⟨dr_at drX12_init_8 (i := 25) rfl, rfl⟩
def FI_MO_94 (M : Mem) : Mem := (mSI ((mSI ((mSI ((mSI ((mSI ((mSI ((mSI ((mSI ((mSI ((mSI ((mSI ((mSI ((mSI ((mSI ((mSI ((mSI ((mSI ((mSI ((mSI ((mSI ((mSI ((mSI ((mSI ((mSI ((mSI ((mSI ((mSI ((mSI ((mSI ((mSI ((mSI ((mSI M 94 1 1)) 94 2 1)) 94 4 1)) 94 9 (-1))) 94 10 1)) 94 11 1)) 94 12 1)) 94 13 1)) 94 17 1)) 94 18 1)) 94 21 1)) 94 22 1)) 94 23 1)) 94 24 1)) 94 25 1)) 94 26 1)) 94 27 1)) 94 28 1)) 94 29 1)) 94 30 1)) 94 31 1)) 94 32 1)) 94 33 1)) 94 34 1)) 94 38 1)) 94 39 1)) 94 40 1)) 95 (0 : Int32).toNatClampNeg 2)) 95 (1 : Int32).toNatClampNeg 1)) 95 (2 : Int32).toNatClampNeg 2)) 95 (4 : Int32).toNatClampNeg 1)) 95 (6 : Int32).toNatClampNeg 10)
theorem FIk_MO_94 {M : Mem} {k : Nat} (h : k < 94) : (FI_MO_94 M).1 k = M.1 k := by
  unfold FI_MO_94
  rw [mSI_1ne (a := 95) (by omega), mSI_1ne (a := 95) (by omega), mSI_1ne (a := 95) (by omega), mSI_1ne (a := 95) (by omega), mSI_1ne (a := 95) (by omega), mSI_1ne (a := 94) (by omega), mSI_1ne (a := 94) (by omega), mSI_1ne (a := 94) (by omega), mSI_1ne (a := 94) (by omega), mSI_1ne (a := 94) (by omega), mSI_1ne (a := 94) (by omega), mSI_1ne (a := 94) (by omega), mSI_1ne (a := 94) (by omega), mSI_1ne (a := 94) (by omega), mSI_1ne (a := 94) (by omega), mSI_1ne (a := 94) (by omega), mSI_1ne (a := 94) (by omega), mSI_1ne (a := 94) (by omega), mSI_1ne (a := 94) (by omega), mSI_1ne (a := 94) (by omega), mSI_1ne (a := 94) (by omega), mSI_1ne (a := 94) (by omega), mSI_1ne (a := 94) (by omega), mSI_1ne (a := 94) (by omega), mSI_1ne (a := 94) (by omega), mSI_1ne (a := 94) (by omega), mSI_1ne (a := 94) (by omega), mSI_1ne (a := 94) (by omega), mSI_1ne (a := 94) (by omega), mSI_1ne (a := 94) (by omega), mSI_1ne (a := 94) (by omega), mSI_1ne (a := 94) (by omega)]
theorem FrI_MO_94 {M : Mem} (hz : Fr 95 M) : Fr 121 (FI_MO_94 M) := by
  have hz := hz.mono (Nat.le_succ _)
  have hz := hz.sI (k := 94) (j := 1) (v := 1) (Nat.le_of_ble_eq_true rfl)
  have hz := hz.mono (Nat.le_succ _)
  have hz := hz.sI (k := 94) (j := 2) (v := 1) (Nat.le_of_ble_eq_true rfl)
  have hz := hz.mono (Nat.le_succ _)
  have hz := hz.sI (k := 94) (j := 4) (v := 1) (Nat.le_of_ble_eq_true rfl)
  have hz := hz.sI (k := 94) (j := 9) (v := (-1)) (Nat.le_of_ble_eq_true rfl)
  have hz := hz.mono (Nat.le_succ _)
  have hz := hz.sI (k := 94) (j := 10) (v := 1) (Nat.le_of_ble_eq_true rfl)
  have hz := hz.mono (Nat.le_succ _)
  have hz := hz.sI (k := 94) (j := 11) (v := 1) (Nat.le_of_ble_eq_true rfl)
  have hz := hz.mono (Nat.le_succ _)
  have hz := hz.sI (k := 94) (j := 12) (v := 1) (Nat.le_of_ble_eq_true rfl)
  have hz := hz.mono (Nat.le_succ _)
  have hz := hz.sI (k := 94) (j := 13) (v := 1) (Nat.le_of_ble_eq_true rfl)
  have hz := hz.mono (Nat.le_succ _)
  have hz := hz.sI (k := 94) (j := 17) (v := 1) (Nat.le_of_ble_eq_true rfl)
  have hz := hz.mono (Nat.le_succ _)
  have hz := hz.sI (k := 94) (j := 18) (v := 1) (Nat.le_of_ble_eq_true rfl)
  have hz := hz.mono (Nat.le_succ _)
  have hz := hz.sI (k := 94) (j := 21) (v := 1) (Nat.le_of_ble_eq_true rfl)
  have hz := hz.mono (Nat.le_succ _)
  have hz := hz.sI (k := 94) (j := 22) (v := 1) (Nat.le_of_ble_eq_true rfl)
  have hz := hz.mono (Nat.le_succ _)
  have hz := hz.sI (k := 94) (j := 23) (v := 1) (Nat.le_of_ble_eq_true rfl)
  have hz := hz.mono (Nat.le_succ _)
  have hz := hz.sI (k := 94) (j := 24) (v := 1) (Nat.le_of_ble_eq_true rfl)
  have hz := hz.mono (Nat.le_succ _)
  have hz := hz.sI (k := 94) (j := 25) (v := 1) (Nat.le_of_ble_eq_true rfl)
  have hz := hz.mono (Nat.le_succ _)
  have hz := hz.sI (k := 94) (j := 26) (v := 1) (Nat.le_of_ble_eq_true rfl)
  have hz := hz.mono (Nat.le_succ _)
  have hz := hz.sI (k := 94) (j := 27) (v := 1) (Nat.le_of_ble_eq_true rfl)
  have hz := hz.mono (Nat.le_succ _)
  have hz := hz.sI (k := 94) (j := 28) (v := 1) (Nat.le_of_ble_eq_true rfl)
  have hz := hz.mono (Nat.le_succ _)
  have hz := hz.sI (k := 94) (j := 29) (v := 1) (Nat.le_of_ble_eq_true rfl)
  have hz := hz.mono (Nat.le_succ _)
  have hz := hz.sI (k := 94) (j := 30) (v := 1) (Nat.le_of_ble_eq_true rfl)
  have hz := hz.mono (Nat.le_succ _)
  have hz := hz.sI (k := 94) (j := 31) (v := 1) (Nat.le_of_ble_eq_true rfl)
  have hz := hz.mono (Nat.le_succ _)
  have hz := hz.sI (k := 94) (j := 32) (v := 1) (Nat.le_of_ble_eq_true rfl)
  have hz := hz.mono (Nat.le_succ _)
  have hz := hz.sI (k := 94) (j := 33) (v := 1) (Nat.le_of_ble_eq_true rfl)
  have hz := hz.mono (Nat.le_succ _)
  have hz := hz.sI (k := 94) (j := 34) (v := 1) (Nat.le_of_ble_eq_true rfl)
  have hz := hz.mono (Nat.le_succ _)
  have hz := hz.sI (k := 94) (j := 38) (v := 1) (Nat.le_of_ble_eq_true rfl)
  have hz := hz.mono (Nat.le_succ _)
  have hz := hz.sI (k := 94) (j := 39) (v := 1) (Nat.le_of_ble_eq_true rfl)
  have hz := hz.mono (Nat.le_succ _)
  have hz := hz.sI (k := 94) (j := 40) (v := 1) (Nat.le_of_ble_eq_true rfl)
  have hz := hz.sI (k := 95) (j := (0 : Int32).toNatClampNeg) (v := 2) (Nat.le_of_ble_eq_true rfl)
  have hz := hz.sI (k := 95) (j := (1 : Int32).toNatClampNeg) (v := 1) (Nat.le_of_ble_eq_true rfl)
  have hz := hz.sI (k := 95) (j := (2 : Int32).toNatClampNeg) (v := 2) (Nat.le_of_ble_eq_true rfl)
  have hz := hz.sI (k := 95) (j := (4 : Int32).toNatClampNeg) (v := 1) (Nat.le_of_ble_eq_true rfl)
  have hz := hz.sI (k := 95) (j := (6 : Int32).toNatClampNeg) (v := 10) (Nat.le_of_ble_eq_true rfl)
  exact hz
set_option maxRecDepth 100000 in
set_option maxHeartbeats 4000000 in
theorem KI_MO_94 (l : Launch) (g : GB) (M : Mem) (hz : Fr 95 M) : CC l g yX12_init (.code yX12_init cX12_init 1 none :: wAll) { frames := 1, cells := 26, slots := 2569, locals := 12 } [.ref (g.2.1 94)] 95 M 121 (FI_MO_94 M) := by
  refine CC.of [(0, .ref (g.2.1 94))] (by decide) (Nat.le_of_ble_eq_true rfl) rfl ?_
  intro p e s m args below meth c K hr hin
  refine GC_aload_n rfl 0 rfl K dX12_init_0 ?_
  refine GC_objInit K dX12_init_1 wd_1479 wd_34 wd_35 (Nat.le_of_ble_eq_true rfl) (Nat.le_of_ble_eq_true rfl) ?_
  refine GC_aload_n rfl 0 rfl K dX12_init_4 ?_
  refine GC_sipush (v := 564) rfl K dX12_init_5 ?_
  refine GC_newa_int (N := 564) K dX12_init_8 wd_1604 (by decide) (by decide) (by decide) rfl (Nat.le_of_ble_eq_true rfl) (frC_95 g _ hz) (by decide) ?_
  have hz := hz.mono (Nat.le_succ _)
  refine GC_putFR (ci := 12) (k := 1) (ty := (.array .int)) K rfl in_X12 tyX12 tyX12_ok nmX12 wd_1481 rfl rfl hin rfl (by decide +kernel) rfl rfl dX12_init_10 (Nat.le_of_ble_eq_true rfl) (Nat.le_of_ble_eq_true rfl) (shC_94 g _) (shC_94 g _) (Nat.le_of_ble_eq_true rfl) (Nat.le_of_ble_eq_true rfl) (sC_94_1 g _) ?_
  have hz := hz.sI (k := 94) (j := 1) (v := 1) (Nat.le_of_ble_eq_true rfl)
  have f94_1 : (mSI M 94 1 1).1 94 1 = 1 := mSI_h
  generalize hM1 : mSI M 94 (1) 1 = M1 at hz ⊢ f94_1
  refine GC_aload_n rfl 0 rfl K dX12_init_13 ?_
  refine GC_sipush (v := 564) rfl K dX12_init_14 ?_
  refine GC_newa_int (N := 564) K dX12_init_17 wd_1604 (by decide) (by decide) (by decide) rfl (Nat.le_of_ble_eq_true rfl) (frC_96 g _ hz) (by decide) ?_
  have hz := hz.mono (Nat.le_succ _)
  refine GC_putFR (ci := 12) (k := 2) (ty := (.array .int)) K rfl in_X12 tyX12 tyX12_ok nmX12 wd_1482 rfl rfl hin rfl (by decide +kernel) rfl rfl dX12_init_19 (Nat.le_of_ble_eq_true rfl) (Nat.le_of_ble_eq_true rfl) (shC_94 g _) (shC_94 g _) (Nat.le_of_ble_eq_true rfl) (Nat.le_of_ble_eq_true rfl) (sC_94_2 g _) ?_
  have hz := hz.sI (k := 94) (j := 2) (v := 1) (Nat.le_of_ble_eq_true rfl)
  have f94_1 := (mSI_o (M := M1) (k := 94) (j := 2) (v := 1) (a := 94) (b := 1) (by decide)).trans f94_1
  generalize hM2 : mSI M1 94 (2) 1 = M2 at hz ⊢ f94_1
  refine GC_aload_n rfl 0 rfl K dX12_init_22 ?_
  refine GC_sipush (v := 400) rfl K dX12_init_23 ?_
  refine GC_newa_byte (N := 400) K dX12_init_26 wd_884 (by decide) (by decide) (by decide) rfl (Nat.le_of_ble_eq_true rfl) (frC_97 g _ hz) (by decide) ?_
  have hz := hz.mono (Nat.le_succ _)
  refine GC_putFR (ci := 12) (k := 4) (ty := (.array .byte)) K rfl in_X12 tyX12 tyX12_ok nmX12 wd_1484 rfl rfl hin rfl (by decide +kernel) rfl rfl dX12_init_28 (Nat.le_of_ble_eq_true rfl) (Nat.le_of_ble_eq_true rfl) (shC_94 g _) (shC_94 g _) (Nat.le_of_ble_eq_true rfl) (Nat.le_of_ble_eq_true rfl) (sC_94_4 g _) ?_
  have hz := hz.sI (k := 94) (j := 4) (v := 1) (Nat.le_of_ble_eq_true rfl)
  have f94_1 := (mSI_o (M := M2) (k := 94) (j := 4) (v := 1) (a := 94) (b := 1) (by decide)).trans f94_1
  generalize hM3 : mSI M2 94 (4) 1 = M3 at hz ⊢ f94_1
  refine GC_aload_n rfl 0 rfl K dX12_init_31 ?_
  refine GC_iconst (v := (-1)) rfl K dX12_init_32 ?_
  refine GC_putI (ci := 12) (k := 9) (ty := .int) K rfl in_X12 tyX12 tyX12_ok nmX12 wd_1489 rfl rfl (by decide +kernel) rfl rfl dX12_init_33 (Nat.le_of_ble_eq_true rfl) (Nat.le_of_ble_eq_true rfl) (shC_94 g _) (shC_94 g _) (Nat.le_of_ble_eq_true rfl) (Nat.le_of_ble_eq_true rfl) (sC_94_9 g _ _) ?_
  have hz := hz.sI (k := 94) (j := 9) (v := (-1)) (Nat.le_of_ble_eq_true rfl)
  have f94_1 := (mSI_o (M := M3) (k := 94) (j := 9) (v := (-1)) (a := 94) (b := 1) (by decide)).trans f94_1
  generalize hM4 : mSI M3 94 (9) (-1) = M4 at hz ⊢ f94_1
  refine GC_aload_n rfl 0 rfl K dX12_init_36 ?_
  refine GC_iconst (v := 5) rfl K dX12_init_37 ?_
  refine GC_newa_int (N := 5) K dX12_init_38 wd_1604 (by decide) (by decide) (by decide) rfl (Nat.le_of_ble_eq_true rfl) (frC_98 g _ hz) (by decide) ?_
  have hz := hz.mono (Nat.le_succ _)
  refine GC_putFR (ci := 12) (k := 10) (ty := (.array .int)) K rfl in_X12 tyX12 tyX12_ok nmX12 wd_1490 rfl rfl hin rfl (by decide +kernel) rfl rfl dX12_init_40 (Nat.le_of_ble_eq_true rfl) (Nat.le_of_ble_eq_true rfl) (shC_94 g _) (shC_94 g _) (Nat.le_of_ble_eq_true rfl) (Nat.le_of_ble_eq_true rfl) (sC_94_10 g _) ?_
  have hz := hz.sI (k := 94) (j := 10) (v := 1) (Nat.le_of_ble_eq_true rfl)
  have f94_1 := (mSI_o (M := M4) (k := 94) (j := 10) (v := 1) (a := 94) (b := 1) (by decide)).trans f94_1
  generalize hM5 : mSI M4 94 (10) 1 = M5 at hz ⊢ f94_1
  refine GC_aload_n rfl 0 rfl K dX12_init_43 ?_
  refine GC_bipush (v := 13) rfl K dX12_init_44 ?_
  refine GC_newa_int (N := 13) K dX12_init_46 wd_1604 (by decide) (by decide) (by decide) rfl (Nat.le_of_ble_eq_true rfl) (frC_99 g _ hz) (by decide) ?_
  have hz := hz.mono (Nat.le_succ _)
  refine GC_putFR (ci := 12) (k := 11) (ty := (.array .int)) K rfl in_X12 tyX12 tyX12_ok nmX12 wd_1491 rfl rfl hin rfl (by decide +kernel) rfl rfl dX12_init_48 (Nat.le_of_ble_eq_true rfl) (Nat.le_of_ble_eq_true rfl) (shC_94 g _) (shC_94 g _) (Nat.le_of_ble_eq_true rfl) (Nat.le_of_ble_eq_true rfl) (sC_94_11 g _) ?_
  have hz := hz.sI (k := 94) (j := 11) (v := 1) (Nat.le_of_ble_eq_true rfl)
  have f94_1 := (mSI_o (M := M5) (k := 94) (j := 11) (v := 1) (a := 94) (b := 1) (by decide)).trans f94_1
  generalize hM6 : mSI M5 94 (11) 1 = M6 at hz ⊢ f94_1
  refine GC_aload_n rfl 0 rfl K dX12_init_51 ?_
  refine GC_sipush (v := 400) rfl K dX12_init_52 ?_
  refine GC_newa_int (N := 400) K dX12_init_55 wd_1604 (by decide) (by decide) (by decide) rfl (Nat.le_of_ble_eq_true rfl) (frC_100 g _ hz) (by decide) ?_
  have hz := hz.mono (Nat.le_succ _)
  refine GC_putFR (ci := 12) (k := 12) (ty := (.array .int)) K rfl in_X12 tyX12 tyX12_ok nmX12 wd_1492 rfl rfl hin rfl (by decide +kernel) rfl rfl dX12_init_57 (Nat.le_of_ble_eq_true rfl) (Nat.le_of_ble_eq_true rfl) (shC_94 g _) (shC_94 g _) (Nat.le_of_ble_eq_true rfl) (Nat.le_of_ble_eq_true rfl) (sC_94_12 g _) ?_
  have hz := hz.sI (k := 94) (j := 12) (v := 1) (Nat.le_of_ble_eq_true rfl)
  have f94_1 := (mSI_o (M := M6) (k := 94) (j := 12) (v := 1) (a := 94) (b := 1) (by decide)).trans f94_1
  generalize hM7 : mSI M6 94 (12) 1 = M7 at hz ⊢ f94_1
  refine GC_aload_n rfl 0 rfl K dX12_init_60 ?_
  refine GC_sipush (v := 400) rfl K dX12_init_61 ?_
  refine GC_newa_int (N := 400) K dX12_init_64 wd_1604 (by decide) (by decide) (by decide) rfl (Nat.le_of_ble_eq_true rfl) (frC_101 g _ hz) (by decide) ?_
  have hz := hz.mono (Nat.le_succ _)
  refine GC_putFR (ci := 12) (k := 13) (ty := (.array .int)) K rfl in_X12 tyX12 tyX12_ok nmX12 wd_1493 rfl rfl hin rfl (by decide +kernel) rfl rfl dX12_init_66 (Nat.le_of_ble_eq_true rfl) (Nat.le_of_ble_eq_true rfl) (shC_94 g _) (shC_94 g _) (Nat.le_of_ble_eq_true rfl) (Nat.le_of_ble_eq_true rfl) (sC_94_13 g _) ?_
  have hz := hz.sI (k := 94) (j := 13) (v := 1) (Nat.le_of_ble_eq_true rfl)
  have f94_1 := (mSI_o (M := M7) (k := 94) (j := 13) (v := 1) (a := 94) (b := 1) (by decide)).trans f94_1
  generalize hM8 : mSI M7 94 (13) 1 = M8 at hz ⊢ f94_1
  refine GC_aload_n rfl 0 rfl K dX12_init_69 ?_
  refine GC_bipush (v := 10) rfl K dX12_init_70 ?_
  refine GC_newa_int (N := 10) K dX12_init_72 wd_1604 (by decide) (by decide) (by decide) rfl (Nat.le_of_ble_eq_true rfl) (frC_102 g _ hz) (by decide) ?_
  have hz := hz.mono (Nat.le_succ _)
  refine GC_putFR (ci := 12) (k := 17) (ty := (.array .int)) K rfl in_X12 tyX12 tyX12_ok nmX12 wd_1497 rfl rfl hin rfl (by decide +kernel) rfl rfl dX12_init_74 (Nat.le_of_ble_eq_true rfl) (Nat.le_of_ble_eq_true rfl) (shC_94 g _) (shC_94 g _) (Nat.le_of_ble_eq_true rfl) (Nat.le_of_ble_eq_true rfl) (sC_94_17 g _) ?_
  have hz := hz.sI (k := 94) (j := 17) (v := 1) (Nat.le_of_ble_eq_true rfl)
  have f94_1 := (mSI_o (M := M8) (k := 94) (j := 17) (v := 1) (a := 94) (b := 1) (by decide)).trans f94_1
  generalize hM9 : mSI M8 94 (17) 1 = M9 at hz ⊢ f94_1
  refine GC_aload_n rfl 0 rfl K dX12_init_77 ?_
  refine GC_bipush (v := 9) rfl K dX12_init_78 ?_
  refine GC_newa_int (N := 9) K dX12_init_80 wd_1604 (by decide) (by decide) (by decide) rfl (Nat.le_of_ble_eq_true rfl) (frC_103 g _ hz) (by decide) ?_
  have hz := hz.mono (Nat.le_succ _)
  refine GC_putFR (ci := 12) (k := 18) (ty := (.array .int)) K rfl in_X12 tyX12 tyX12_ok nmX12 wd_1498 rfl rfl hin rfl (by decide +kernel) rfl rfl dX12_init_82 (Nat.le_of_ble_eq_true rfl) (Nat.le_of_ble_eq_true rfl) (shC_94 g _) (shC_94 g _) (Nat.le_of_ble_eq_true rfl) (Nat.le_of_ble_eq_true rfl) (sC_94_18 g _) ?_
  have hz := hz.sI (k := 94) (j := 18) (v := 1) (Nat.le_of_ble_eq_true rfl)
  have f94_1 := (mSI_o (M := M9) (k := 94) (j := 18) (v := 1) (a := 94) (b := 1) (by decide)).trans f94_1
  generalize hM10 : mSI M9 94 (18) 1 = M10 at hz ⊢ f94_1
  refine GC_aload_n rfl 0 rfl K dX12_init_85 ?_
  refine GC_bipush (v := 18) rfl K dX12_init_86 ?_
  refine GC_newa_long (N := 18) K dX12_init_88 wd_55 (by decide) (by decide) (by decide) rfl (Nat.le_of_ble_eq_true rfl) (frC_104 g _ hz) (by decide) ?_
  have hz := hz.mono (Nat.le_succ _)
  refine GC_putFR (ci := 12) (k := 21) (ty := (.array .long)) K rfl in_X12 tyX12 tyX12_ok nmX12 wd_1501 rfl rfl hin rfl (by decide +kernel) rfl rfl dX12_init_90 (Nat.le_of_ble_eq_true rfl) (Nat.le_of_ble_eq_true rfl) (shC_94 g _) (shC_94 g _) (Nat.le_of_ble_eq_true rfl) (Nat.le_of_ble_eq_true rfl) (sC_94_21 g _) ?_
  have hz := hz.sI (k := 94) (j := 21) (v := 1) (Nat.le_of_ble_eq_true rfl)
  have f94_1 := (mSI_o (M := M10) (k := 94) (j := 21) (v := 1) (a := 94) (b := 1) (by decide)).trans f94_1
  generalize hM11 : mSI M10 94 (21) 1 = M11 at hz ⊢ f94_1
  refine GC_aload_n rfl 0 rfl K dX12_init_93 ?_
  refine GC_bipush (v := 18) rfl K dX12_init_94 ?_
  refine GC_newa_long (N := 18) K dX12_init_96 wd_55 (by decide) (by decide) (by decide) rfl (Nat.le_of_ble_eq_true rfl) (frC_105 g _ hz) (by decide) ?_
  have hz := hz.mono (Nat.le_succ _)
  refine GC_putFR (ci := 12) (k := 22) (ty := (.array .long)) K rfl in_X12 tyX12 tyX12_ok nmX12 wd_1502 rfl rfl hin rfl (by decide +kernel) rfl rfl dX12_init_98 (Nat.le_of_ble_eq_true rfl) (Nat.le_of_ble_eq_true rfl) (shC_94 g _) (shC_94 g _) (Nat.le_of_ble_eq_true rfl) (Nat.le_of_ble_eq_true rfl) (sC_94_22 g _) ?_
  have hz := hz.sI (k := 94) (j := 22) (v := 1) (Nat.le_of_ble_eq_true rfl)
  have f94_1 := (mSI_o (M := M11) (k := 94) (j := 22) (v := 1) (a := 94) (b := 1) (by decide)).trans f94_1
  generalize hM12 : mSI M11 94 (22) 1 = M12 at hz ⊢ f94_1
  refine GC_aload_n rfl 0 rfl K dX12_init_101 ?_
  refine GC_iconst (v := 3) rfl K dX12_init_102 ?_
  refine GC_newa_long (N := 3) K dX12_init_103 wd_55 (by decide) (by decide) (by decide) rfl (Nat.le_of_ble_eq_true rfl) (frC_106 g _ hz) (by decide) ?_
  have hz := hz.mono (Nat.le_succ _)
  refine GC_putFR (ci := 12) (k := 23) (ty := (.array .long)) K rfl in_X12 tyX12 tyX12_ok nmX12 wd_1503 rfl rfl hin rfl (by decide +kernel) rfl rfl dX12_init_105 (Nat.le_of_ble_eq_true rfl) (Nat.le_of_ble_eq_true rfl) (shC_94 g _) (shC_94 g _) (Nat.le_of_ble_eq_true rfl) (Nat.le_of_ble_eq_true rfl) (sC_94_23 g _) ?_
  have hz := hz.sI (k := 94) (j := 23) (v := 1) (Nat.le_of_ble_eq_true rfl)
  have f94_1 := (mSI_o (M := M12) (k := 94) (j := 23) (v := 1) (a := 94) (b := 1) (by decide)).trans f94_1
  generalize hM13 : mSI M12 94 (23) 1 = M13 at hz ⊢ f94_1
  refine GC_aload_n rfl 0 rfl K dX12_init_108 ?_
  refine GC_iconst (v := 3) rfl K dX12_init_109 ?_
  refine GC_newa_long (N := 3) K dX12_init_110 wd_55 (by decide) (by decide) (by decide) rfl (Nat.le_of_ble_eq_true rfl) (frC_107 g _ hz) (by decide) ?_
  have hz := hz.mono (Nat.le_succ _)
  refine GC_putFR (ci := 12) (k := 24) (ty := (.array .long)) K rfl in_X12 tyX12 tyX12_ok nmX12 wd_1504 rfl rfl hin rfl (by decide +kernel) rfl rfl dX12_init_112 (Nat.le_of_ble_eq_true rfl) (Nat.le_of_ble_eq_true rfl) (shC_94 g _) (shC_94 g _) (Nat.le_of_ble_eq_true rfl) (Nat.le_of_ble_eq_true rfl) (sC_94_24 g _) ?_
  have hz := hz.sI (k := 94) (j := 24) (v := 1) (Nat.le_of_ble_eq_true rfl)
  have f94_1 := (mSI_o (M := M13) (k := 94) (j := 24) (v := 1) (a := 94) (b := 1) (by decide)).trans f94_1
  generalize hM14 : mSI M13 94 (24) 1 = M14 at hz ⊢ f94_1
  refine GC_aload_n rfl 0 rfl K dX12_init_115 ?_
  refine GC_iconst (v := 3) rfl K dX12_init_116 ?_
  refine GC_newa_int (N := 3) K dX12_init_117 wd_1604 (by decide) (by decide) (by decide) rfl (Nat.le_of_ble_eq_true rfl) (frC_108 g _ hz) (by decide) ?_
  have hz := hz.mono (Nat.le_succ _)
  refine GC_putFR (ci := 12) (k := 25) (ty := (.array .int)) K rfl in_X12 tyX12 tyX12_ok nmX12 wd_1505 rfl rfl hin rfl (by decide +kernel) rfl rfl dX12_init_119 (Nat.le_of_ble_eq_true rfl) (Nat.le_of_ble_eq_true rfl) (shC_94 g _) (shC_94 g _) (Nat.le_of_ble_eq_true rfl) (Nat.le_of_ble_eq_true rfl) (sC_94_25 g _) ?_
  have hz := hz.sI (k := 94) (j := 25) (v := 1) (Nat.le_of_ble_eq_true rfl)
  have f94_1 := (mSI_o (M := M14) (k := 94) (j := 25) (v := 1) (a := 94) (b := 1) (by decide)).trans f94_1
  generalize hM15 : mSI M14 94 (25) 1 = M15 at hz ⊢ f94_1
  refine GC_aload_n rfl 0 rfl K dX12_init_122 ?_
  refine GC_iconst (v := 3) rfl K dX12_init_123 ?_
  refine GC_newa_int (N := 3) K dX12_init_124 wd_1604 (by decide) (by decide) (by decide) rfl (Nat.le_of_ble_eq_true rfl) (frC_109 g _ hz) (by decide) ?_
  have hz := hz.mono (Nat.le_succ _)
  refine GC_putFR (ci := 12) (k := 26) (ty := (.array .int)) K rfl in_X12 tyX12 tyX12_ok nmX12 wd_1506 rfl rfl hin rfl (by decide +kernel) rfl rfl dX12_init_126 (Nat.le_of_ble_eq_true rfl) (Nat.le_of_ble_eq_true rfl) (shC_94 g _) (shC_94 g _) (Nat.le_of_ble_eq_true rfl) (Nat.le_of_ble_eq_true rfl) (sC_94_26 g _) ?_
  have hz := hz.sI (k := 94) (j := 26) (v := 1) (Nat.le_of_ble_eq_true rfl)
  have f94_1 := (mSI_o (M := M15) (k := 94) (j := 26) (v := 1) (a := 94) (b := 1) (by decide)).trans f94_1
  generalize hM16 : mSI M15 94 (26) 1 = M16 at hz ⊢ f94_1
  refine GC_aload_n rfl 0 rfl K dX12_init_129 ?_
  refine GC_bipush (v := 16) rfl K dX12_init_130 ?_
  refine GC_newa_long (N := 16) K dX12_init_132 wd_55 (by decide) (by decide) (by decide) rfl (Nat.le_of_ble_eq_true rfl) (frC_110 g _ hz) (by decide) ?_
  have hz := hz.mono (Nat.le_succ _)
  refine GC_putFR (ci := 12) (k := 27) (ty := (.array .long)) K rfl in_X12 tyX12 tyX12_ok nmX12 wd_1507 rfl rfl hin rfl (by decide +kernel) rfl rfl dX12_init_134 (Nat.le_of_ble_eq_true rfl) (Nat.le_of_ble_eq_true rfl) (shC_94 g _) (shC_94 g _) (Nat.le_of_ble_eq_true rfl) (Nat.le_of_ble_eq_true rfl) (sC_94_27 g _) ?_
  have hz := hz.sI (k := 94) (j := 27) (v := 1) (Nat.le_of_ble_eq_true rfl)
  have f94_1 := (mSI_o (M := M16) (k := 94) (j := 27) (v := 1) (a := 94) (b := 1) (by decide)).trans f94_1
  generalize hM17 : mSI M16 94 (27) 1 = M17 at hz ⊢ f94_1
  refine GC_aload_n rfl 0 rfl K dX12_init_137 ?_
  refine GC_bipush (v := 16) rfl K dX12_init_138 ?_
  refine GC_newa_long (N := 16) K dX12_init_140 wd_55 (by decide) (by decide) (by decide) rfl (Nat.le_of_ble_eq_true rfl) (frC_111 g _ hz) (by decide) ?_
  have hz := hz.mono (Nat.le_succ _)
  refine GC_putFR (ci := 12) (k := 28) (ty := (.array .long)) K rfl in_X12 tyX12 tyX12_ok nmX12 wd_1508 rfl rfl hin rfl (by decide +kernel) rfl rfl dX12_init_142 (Nat.le_of_ble_eq_true rfl) (Nat.le_of_ble_eq_true rfl) (shC_94 g _) (shC_94 g _) (Nat.le_of_ble_eq_true rfl) (Nat.le_of_ble_eq_true rfl) (sC_94_28 g _) ?_
  have hz := hz.sI (k := 94) (j := 28) (v := 1) (Nat.le_of_ble_eq_true rfl)
  have f94_1 := (mSI_o (M := M17) (k := 94) (j := 28) (v := 1) (a := 94) (b := 1) (by decide)).trans f94_1
  generalize hM18 : mSI M17 94 (28) 1 = M18 at hz ⊢ f94_1
  refine GC_aload_n rfl 0 rfl K dX12_init_145 ?_
  refine GC_iconst (v := 3) rfl K dX12_init_146 ?_
  refine GC_newa_long (N := 3) K dX12_init_147 wd_55 (by decide) (by decide) (by decide) rfl (Nat.le_of_ble_eq_true rfl) (frC_112 g _ hz) (by decide) ?_
  have hz := hz.mono (Nat.le_succ _)
  refine GC_putFR (ci := 12) (k := 29) (ty := (.array .long)) K rfl in_X12 tyX12 tyX12_ok nmX12 wd_1509 rfl rfl hin rfl (by decide +kernel) rfl rfl dX12_init_149 (Nat.le_of_ble_eq_true rfl) (Nat.le_of_ble_eq_true rfl) (shC_94 g _) (shC_94 g _) (Nat.le_of_ble_eq_true rfl) (Nat.le_of_ble_eq_true rfl) (sC_94_29 g _) ?_
  have hz := hz.sI (k := 94) (j := 29) (v := 1) (Nat.le_of_ble_eq_true rfl)
  have f94_1 := (mSI_o (M := M18) (k := 94) (j := 29) (v := 1) (a := 94) (b := 1) (by decide)).trans f94_1
  generalize hM19 : mSI M18 94 (29) 1 = M19 at hz ⊢ f94_1
  refine GC_aload_n rfl 0 rfl K dX12_init_152 ?_
  refine GC_iconst (v := 3) rfl K dX12_init_153 ?_
  refine GC_newa_long (N := 3) K dX12_init_154 wd_55 (by decide) (by decide) (by decide) rfl (Nat.le_of_ble_eq_true rfl) (frC_113 g _ hz) (by decide) ?_
  have hz := hz.mono (Nat.le_succ _)
  refine GC_putFR (ci := 12) (k := 30) (ty := (.array .long)) K rfl in_X12 tyX12 tyX12_ok nmX12 wd_1510 rfl rfl hin rfl (by decide +kernel) rfl rfl dX12_init_156 (Nat.le_of_ble_eq_true rfl) (Nat.le_of_ble_eq_true rfl) (shC_94 g _) (shC_94 g _) (Nat.le_of_ble_eq_true rfl) (Nat.le_of_ble_eq_true rfl) (sC_94_30 g _) ?_
  have hz := hz.sI (k := 94) (j := 30) (v := 1) (Nat.le_of_ble_eq_true rfl)
  have f94_1 := (mSI_o (M := M19) (k := 94) (j := 30) (v := 1) (a := 94) (b := 1) (by decide)).trans f94_1
  generalize hM20 : mSI M19 94 (30) 1 = M20 at hz ⊢ f94_1
  refine GC_aload_n rfl 0 rfl K dX12_init_159 ?_
  refine GC_bipush (v := 9) rfl K dX12_init_160 ?_
  refine GC_newa_int (N := 9) K dX12_init_162 wd_1604 (by decide) (by decide) (by decide) rfl (Nat.le_of_ble_eq_true rfl) (frC_114 g _ hz) (by decide) ?_
  have hz := hz.mono (Nat.le_succ _)
  refine GC_putFR (ci := 12) (k := 31) (ty := (.array .int)) K rfl in_X12 tyX12 tyX12_ok nmX12 wd_1511 rfl rfl hin rfl (by decide +kernel) rfl rfl dX12_init_164 (Nat.le_of_ble_eq_true rfl) (Nat.le_of_ble_eq_true rfl) (shC_94 g _) (shC_94 g _) (Nat.le_of_ble_eq_true rfl) (Nat.le_of_ble_eq_true rfl) (sC_94_31 g _) ?_
  have hz := hz.sI (k := 94) (j := 31) (v := 1) (Nat.le_of_ble_eq_true rfl)
  have f94_1 := (mSI_o (M := M20) (k := 94) (j := 31) (v := 1) (a := 94) (b := 1) (by decide)).trans f94_1
  generalize hM21 : mSI M20 94 (31) 1 = M21 at hz ⊢ f94_1
  refine GC_aload_n rfl 0 rfl K dX12_init_167 ?_
  refine GC_bipush (v := 9) rfl K dX12_init_168 ?_
  refine GC_newa_int (N := 9) K dX12_init_170 wd_1604 (by decide) (by decide) (by decide) rfl (Nat.le_of_ble_eq_true rfl) (frC_115 g _ hz) (by decide) ?_
  have hz := hz.mono (Nat.le_succ _)
  refine GC_putFR (ci := 12) (k := 32) (ty := (.array .int)) K rfl in_X12 tyX12 tyX12_ok nmX12 wd_1512 rfl rfl hin rfl (by decide +kernel) rfl rfl dX12_init_172 (Nat.le_of_ble_eq_true rfl) (Nat.le_of_ble_eq_true rfl) (shC_94 g _) (shC_94 g _) (Nat.le_of_ble_eq_true rfl) (Nat.le_of_ble_eq_true rfl) (sC_94_32 g _) ?_
  have hz := hz.sI (k := 94) (j := 32) (v := 1) (Nat.le_of_ble_eq_true rfl)
  have f94_1 := (mSI_o (M := M21) (k := 94) (j := 32) (v := 1) (a := 94) (b := 1) (by decide)).trans f94_1
  generalize hM22 : mSI M21 94 (32) 1 = M22 at hz ⊢ f94_1
  refine GC_aload_n rfl 0 rfl K dX12_init_175 ?_
  refine GC_bipush (v := 10) rfl K dX12_init_176 ?_
  refine GC_newa_int (N := 10) K dX12_init_178 wd_1604 (by decide) (by decide) (by decide) rfl (Nat.le_of_ble_eq_true rfl) (frC_116 g _ hz) (by decide) ?_
  have hz := hz.mono (Nat.le_succ _)
  refine GC_putFR (ci := 12) (k := 33) (ty := (.array .int)) K rfl in_X12 tyX12 tyX12_ok nmX12 wd_1513 rfl rfl hin rfl (by decide +kernel) rfl rfl dX12_init_180 (Nat.le_of_ble_eq_true rfl) (Nat.le_of_ble_eq_true rfl) (shC_94 g _) (shC_94 g _) (Nat.le_of_ble_eq_true rfl) (Nat.le_of_ble_eq_true rfl) (sC_94_33 g _) ?_
  have hz := hz.sI (k := 94) (j := 33) (v := 1) (Nat.le_of_ble_eq_true rfl)
  have f94_1 := (mSI_o (M := M22) (k := 94) (j := 33) (v := 1) (a := 94) (b := 1) (by decide)).trans f94_1
  generalize hM23 : mSI M22 94 (33) 1 = M23 at hz ⊢ f94_1
  refine GC_aload_n rfl 0 rfl K dX12_init_183 ?_
  refine GC_bipush (v := 10) rfl K dX12_init_184 ?_
  refine GC_newa_int (N := 10) K dX12_init_186 wd_1604 (by decide) (by decide) (by decide) rfl (Nat.le_of_ble_eq_true rfl) (frC_117 g _ hz) (by decide) ?_
  have hz := hz.mono (Nat.le_succ _)
  refine GC_putFR (ci := 12) (k := 34) (ty := (.array .int)) K rfl in_X12 tyX12 tyX12_ok nmX12 wd_1514 rfl rfl hin rfl (by decide +kernel) rfl rfl dX12_init_188 (Nat.le_of_ble_eq_true rfl) (Nat.le_of_ble_eq_true rfl) (shC_94 g _) (shC_94 g _) (Nat.le_of_ble_eq_true rfl) (Nat.le_of_ble_eq_true rfl) (sC_94_34 g _) ?_
  have hz := hz.sI (k := 94) (j := 34) (v := 1) (Nat.le_of_ble_eq_true rfl)
  have f94_1 := (mSI_o (M := M23) (k := 94) (j := 34) (v := 1) (a := 94) (b := 1) (by decide)).trans f94_1
  generalize hM24 : mSI M23 94 (34) 1 = M24 at hz ⊢ f94_1
  refine GC_aload_n rfl 0 rfl K dX12_init_191 ?_
  refine GC_bipush (v := 64) rfl K dX12_init_192 ?_
  refine GC_newa_int (N := 64) K dX12_init_194 wd_1604 (by decide) (by decide) (by decide) rfl (Nat.le_of_ble_eq_true rfl) (frC_118 g _ hz) (by decide) ?_
  have hz := hz.mono (Nat.le_succ _)
  refine GC_putFR (ci := 12) (k := 38) (ty := (.array .int)) K rfl in_X12 tyX12 tyX12_ok nmX12 wd_1518 rfl rfl hin rfl (by decide +kernel) rfl rfl dX12_init_196 (Nat.le_of_ble_eq_true rfl) (Nat.le_of_ble_eq_true rfl) (shC_94 g _) (shC_94 g _) (Nat.le_of_ble_eq_true rfl) (Nat.le_of_ble_eq_true rfl) (sC_94_38 g _) ?_
  have hz := hz.sI (k := 94) (j := 38) (v := 1) (Nat.le_of_ble_eq_true rfl)
  have f94_1 := (mSI_o (M := M24) (k := 94) (j := 38) (v := 1) (a := 94) (b := 1) (by decide)).trans f94_1
  generalize hM25 : mSI M24 94 (38) 1 = M25 at hz ⊢ f94_1
  refine GC_aload_n rfl 0 rfl K dX12_init_199 ?_
  refine GC_bipush (v := 8) rfl K dX12_init_200 ?_
  refine GC_newa_long (N := 8) K dX12_init_202 wd_55 (by decide) (by decide) (by decide) rfl (Nat.le_of_ble_eq_true rfl) (frC_119 g _ hz) (by decide) ?_
  have hz := hz.mono (Nat.le_succ _)
  refine GC_putFR (ci := 12) (k := 39) (ty := (.array .long)) K rfl in_X12 tyX12 tyX12_ok nmX12 wd_1519 rfl rfl hin rfl (by decide +kernel) rfl rfl dX12_init_204 (Nat.le_of_ble_eq_true rfl) (Nat.le_of_ble_eq_true rfl) (shC_94 g _) (shC_94 g _) (Nat.le_of_ble_eq_true rfl) (Nat.le_of_ble_eq_true rfl) (sC_94_39 g _) ?_
  have hz := hz.sI (k := 94) (j := 39) (v := 1) (Nat.le_of_ble_eq_true rfl)
  have f94_1 := (mSI_o (M := M25) (k := 94) (j := 39) (v := 1) (a := 94) (b := 1) (by decide)).trans f94_1
  generalize hM26 : mSI M25 94 (39) 1 = M26 at hz ⊢ f94_1
  refine GC_aload_n rfl 0 rfl K dX12_init_207 ?_
  refine GC_bipush (v := 8) rfl K dX12_init_208 ?_
  refine GC_newa_long (N := 8) K dX12_init_210 wd_55 (by decide) (by decide) (by decide) rfl (Nat.le_of_ble_eq_true rfl) (frC_120 g _ hz) (by decide) ?_
  have hz := hz.mono (Nat.le_succ _)
  refine GC_putFR (ci := 12) (k := 40) (ty := (.array .long)) K rfl in_X12 tyX12 tyX12_ok nmX12 wd_1520 rfl rfl hin rfl (by decide +kernel) rfl rfl dX12_init_212 (Nat.le_of_ble_eq_true rfl) (Nat.le_of_ble_eq_true rfl) (shC_94 g _) (shC_94 g _) (Nat.le_of_ble_eq_true rfl) (Nat.le_of_ble_eq_true rfl) (sC_94_40 g _) ?_
  have hz := hz.sI (k := 94) (j := 40) (v := 1) (Nat.le_of_ble_eq_true rfl)
  have f94_1 := (mSI_o (M := M26) (k := 94) (j := 40) (v := 1) (a := 94) (b := 1) (by decide)).trans f94_1
  generalize hM27 : mSI M26 94 (40) 1 = M27 at hz ⊢ f94_1
  refine GC_aload_n rfl 0 rfl K dX12_init_215 ?_
  refine GC_get (ci := 12) (k := 1) (v := .ref (g.2.1 95)) K rfl in_X12 wd_1481 rfl dX12_init_216 (Nat.le_of_ble_eq_true rfl) (shC_94 g _) (Nat.le_of_ble_eq_true rfl) (gC_94_1 g _ f94_1) ?_
  refine GC_iconst (v := 0) rfl K dX12_init_219 ?_
  refine GC_iconst (v := 2) rfl K dX12_init_220 ?_
  refine GC_iast (x := 2) K dX12_init_221 (Nat.le_of_ble_eq_true rfl) (Nat.le_of_ble_eq_true rfl) (shC_95 g) (show inb (0 : Int32) 564 by decide) ?_
  have hz := hz.sI (k := 95) (j := (0 : Int32).toNatClampNeg) (v := 2) (Nat.le_of_ble_eq_true rfl)
  have f94_1 := (mSI_o (M := M27) (k := 95) (j := (0 : Int32).toNatClampNeg) (v := 2) (a := 94) (b := 1) (by decide)).trans f94_1
  generalize hM28 : mSI M27 95 ((0 : Int32).toNatClampNeg) 2 = M28 at hz ⊢ f94_1
  refine GC_aload_n rfl 0 rfl K dX12_init_222 ?_
  refine GC_get (ci := 12) (k := 1) (v := .ref (g.2.1 95)) K rfl in_X12 wd_1481 rfl dX12_init_223 (Nat.le_of_ble_eq_true rfl) (shC_94 g _) (Nat.le_of_ble_eq_true rfl) (gC_94_1 g _ f94_1) ?_
  refine GC_iconst (v := 1) rfl K dX12_init_226 ?_
  refine GC_iconst (v := 1) rfl K dX12_init_227 ?_
  refine GC_iast (x := 1) K dX12_init_228 (Nat.le_of_ble_eq_true rfl) (Nat.le_of_ble_eq_true rfl) (shC_95 g) (show inb (1 : Int32) 564 by decide) ?_
  have hz := hz.sI (k := 95) (j := (1 : Int32).toNatClampNeg) (v := 1) (Nat.le_of_ble_eq_true rfl)
  have f94_1 := (mSI_o (M := M28) (k := 95) (j := (1 : Int32).toNatClampNeg) (v := 1) (a := 94) (b := 1) (by decide)).trans f94_1
  generalize hM29 : mSI M28 95 ((1 : Int32).toNatClampNeg) 1 = M29 at hz ⊢ f94_1
  refine GC_aload_n rfl 0 rfl K dX12_init_229 ?_
  refine GC_get (ci := 12) (k := 1) (v := .ref (g.2.1 95)) K rfl in_X12 wd_1481 rfl dX12_init_230 (Nat.le_of_ble_eq_true rfl) (shC_94 g _) (Nat.le_of_ble_eq_true rfl) (gC_94_1 g _ f94_1) ?_
  refine GC_iconst (v := 2) rfl K dX12_init_233 ?_
  refine GC_iconst (v := 2) rfl K dX12_init_234 ?_
  refine GC_iast (x := 2) K dX12_init_235 (Nat.le_of_ble_eq_true rfl) (Nat.le_of_ble_eq_true rfl) (shC_95 g) (show inb (2 : Int32) 564 by decide) ?_
  have hz := hz.sI (k := 95) (j := (2 : Int32).toNatClampNeg) (v := 2) (Nat.le_of_ble_eq_true rfl)
  have f94_1 := (mSI_o (M := M29) (k := 95) (j := (2 : Int32).toNatClampNeg) (v := 2) (a := 94) (b := 1) (by decide)).trans f94_1
  generalize hM30 : mSI M29 95 ((2 : Int32).toNatClampNeg) 2 = M30 at hz ⊢ f94_1
  refine GC_aload_n rfl 0 rfl K dX12_init_236 ?_
  refine GC_get (ci := 12) (k := 1) (v := .ref (g.2.1 95)) K rfl in_X12 wd_1481 rfl dX12_init_237 (Nat.le_of_ble_eq_true rfl) (shC_94 g _) (Nat.le_of_ble_eq_true rfl) (gC_94_1 g _ f94_1) ?_
  refine GC_iconst (v := 4) rfl K dX12_init_240 ?_
  refine GC_iconst (v := 1) rfl K dX12_init_241 ?_
  refine GC_iast (x := 1) K dX12_init_242 (Nat.le_of_ble_eq_true rfl) (Nat.le_of_ble_eq_true rfl) (shC_95 g) (show inb (4 : Int32) 564 by decide) ?_
  have hz := hz.sI (k := 95) (j := (4 : Int32).toNatClampNeg) (v := 1) (Nat.le_of_ble_eq_true rfl)
  have f94_1 := (mSI_o (M := M30) (k := 95) (j := (4 : Int32).toNatClampNeg) (v := 1) (a := 94) (b := 1) (by decide)).trans f94_1
  generalize hM31 : mSI M30 95 ((4 : Int32).toNatClampNeg) 1 = M31 at hz ⊢ f94_1
  refine GC_aload_n rfl 0 rfl K dX12_init_243 ?_
  refine GC_get (ci := 12) (k := 1) (v := .ref (g.2.1 95)) K rfl in_X12 wd_1481 rfl dX12_init_244 (Nat.le_of_ble_eq_true rfl) (shC_94 g _) (Nat.le_of_ble_eq_true rfl) (gC_94_1 g _ f94_1) ?_
  refine GC_bipush (v := 6) rfl K dX12_init_247 ?_
  refine GC_bipush (v := 10) rfl K dX12_init_249 ?_
  refine GC_iast (x := 10) K dX12_init_251 (Nat.le_of_ble_eq_true rfl) (Nat.le_of_ble_eq_true rfl) (shC_95 g) (show inb (6 : Int32) 564 by decide) ?_
  have hz := hz.sI (k := 95) (j := (6 : Int32).toNatClampNeg) (v := 10) (Nat.le_of_ble_eq_true rfl)
  have f94_1 := (mSI_o (M := M31) (k := 95) (j := (6 : Int32).toNatClampNeg) (v := 10) (a := 94) (b := 1) (by decide)).trans f94_1
  generalize hM32 : mSI M31 95 ((6 : Int32).toNatClampNeg) 10 = M32 at hz ⊢ f94_1
  exact GC_vret K hr dX12_init_252 (Nat.le_of_ble_eq_true rfl) (Nat.le_of_ble_eq_true rfl) ⟨rfl, (by unfold FI_MO_94; rw [hM1, hM2, hM3, hM4, hM5, hM6, hM7, hM8, hM9, hM10, hM11, hM12, hM13, hM14, hM15, hM16, hM17, hM18, hM19, hM20, hM21, hM22, hM23, hM24, hM25, hM26, hM27, hM28, hM29, hM30, hM31, hM32])⟩
