abbrev GB : Type := va_G × (Nat → Nat) × ClassId × ClassId × ClassId
abbrev Mem : Type := (Nat → Nat → Int32) × (Nat → Nat → Int64)
abbrev NC : Nat := 122
/-- the cells of the system, in the order in which they are made: x is 0, the reference 94, the long[1] of answers 121 -/
def shapes : List (GB → (Nat → Int32) → (Nat → Int64) → va_E) := [
  fun g f h => .inr (11, [.ref (g.2.1 1), .ref (g.2.1 14), .int (f 2), .ref (g.2.1 27), .int (f 4), .ref (g.2.1 34), .ref (g.2.1 52), .ref (g.2.1 68), .ref (g.2.1 79), .ref (g.2.1 80), .ref (g.2.1 91), .ref (g.2.1 93)]),
  fun g f h => .inr (10, [.int (f 0), .int (f 1), .int (f 2), .int (f 3), .int (f 4), .int (f 5), .int (f 6), .int (f 7), .int (f 8), .ref (g.2.1 2), .ref (g.2.1 4), .ref (g.2.1 6), .ref (g.2.1 8), .ref (g.2.1 10), .ref (g.2.1 12)]),
  fun g f h => .inr (7, [.ref (g.2.1 3)]),
  fun g f h => .inl (g.2.2.2.1, 18, .inr (.inl h)),
  fun g f h => .inr (7, [.ref (g.2.1 5)]),
  fun g f h => .inl (g.2.2.2.1, 117, .inr (.inl h)),
  fun g f h => .inr (7, [.ref (g.2.1 7)]),
  fun g f h => .inl (g.2.2.2.1, 400, .inr (.inl h)),
  fun g f h => .inr (7, [.ref (g.2.1 9)]),
  fun g f h => .inl (g.2.2.2.1, 8, .inr (.inl h)),
  fun g f h => .inr (7, [.ref (g.2.1 11)]),
  fun g f h => .inl (g.2.2.2.1, 6, .inr (.inl h)),
  fun g f h => .inr (7, [.ref (g.2.1 13)]),
  fun g f h => .inl (g.2.2.2.1, 6, .inr (.inl h)),
  fun g f h => .inr (10, [.int (f 0), .int (f 1), .int (f 2), .int (f 3), .int (f 4), .int (f 5), .int (f 6), .int (f 7), .int (f 8), .ref (g.2.1 15), .ref (g.2.1 17), .ref (g.2.1 19), .ref (g.2.1 21), .ref (g.2.1 23), .ref (g.2.1 25)]),
  fun g f h => .inr (7, [.ref (g.2.1 16)]),
  fun g f h => .inl (g.2.2.2.1, 18, .inr (.inl h)),
  fun g f h => .inr (7, [.ref (g.2.1 18)]),
  fun g f h => .inl (g.2.2.2.1, 117, .inr (.inl h)),
  fun g f h => .inr (7, [.ref (g.2.1 20)]),
  fun g f h => .inl (g.2.2.2.1, 400, .inr (.inl h)),
  fun g f h => .inr (7, [.ref (g.2.1 22)]),
  fun g f h => .inl (g.2.2.2.1, 8, .inr (.inl h)),
  fun g f h => .inr (7, [.ref (g.2.1 24)]),
  fun g f h => .inl (g.2.2.2.1, 6, .inr (.inl h)),
  fun g f h => .inr (7, [.ref (g.2.1 26)]),
  fun g f h => .inl (g.2.2.2.1, 6, .inr (.inl h)),
  fun g f h => .inr (8, [.ref (g.2.1 28), .int (f 1), .ref (g.2.1 30), .ref (g.2.1 32), .int (f 4), .int (f 5), .int (f 6), .int (f 7)]),
  fun g f h => .inr (7, [.ref (g.2.1 29)]),
  fun g f h => .inl (g.2.2.2.1, 400, .inr (.inl h)),
  fun g f h => .inr (7, [.ref (g.2.1 31)]),
  fun g f h => .inl (g.2.2.2.1, 13, .inr (.inl h)),
  fun g f h => .inr (7, [.ref (g.2.1 33)]),
  fun g f h => .inl (g.2.2.2.1, 3, .inr (.inl h)),
  fun g f h => .inr (6, [.ref (g.2.1 1), .ref (g.2.1 35), .int (f 2), .int (f 3), .int (f 4), .int (f 5), .ref (g.2.1 48), .ref (g.2.1 50)]),
  fun g f h => .inr (2, [.ref (g.2.1 36), .ref (g.2.1 38), .ref (g.2.1 40), .ref (g.2.1 42), .ref (g.2.1 44), .ref (g.2.1 46), .long (h 6), .long (h 7)]),
  fun g f h => .inr (7, [.ref (g.2.1 37)]),
  fun g f h => .inl (g.2.2.2.1, 9, .inr (.inl h)),
  fun g f h => .inr (7, [.ref (g.2.1 39)]),
  fun g f h => .inl (g.2.2.2.1, 18, .inr (.inl h)),
  fun g f h => .inr (7, [.ref (g.2.1 41)]),
  fun g f h => .inl (g.2.2.2.1, 18, .inr (.inl h)),
  fun g f h => .inr (7, [.ref (g.2.1 43)]),
  fun g f h => .inl (g.2.2.2.1, 9, .inr (.inl h)),
  fun g f h => .inr (7, [.ref (g.2.1 45)]),
  fun g f h => .inl (g.2.2.2.1, 9, .inr (.inl h)),
  fun g f h => .inr (7, [.ref (g.2.1 47)]),
  fun g f h => .inl (g.2.2.2.1, 9, .inr (.inl h)),
  fun g f h => .inr (7, [.ref (g.2.1 49)]),
  fun g f h => .inl (g.2.2.2.1, 16, .inr (.inl h)),
  fun g f h => .inr (7, [.ref (g.2.1 51)]),
  fun g f h => .inl (g.2.2.2.1, 8, .inr (.inl h)),
  fun g f h => .inr (0, [.ref (g.2.1 1), .ref (g.2.1 53), .ref (g.2.1 66), .int (f 3), .int (f 4), .int (f 5)]),
  fun g f h => .inr (2, [.ref (g.2.1 54), .ref (g.2.1 56), .ref (g.2.1 58), .ref (g.2.1 60), .ref (g.2.1 62), .ref (g.2.1 64), .long (h 6), .long (h 7)]),
  fun g f h => .inr (7, [.ref (g.2.1 55)]),
  fun g f h => .inl (g.2.2.2.1, 9, .inr (.inl h)),
  fun g f h => .inr (7, [.ref (g.2.1 57)]),
  fun g f h => .inl (g.2.2.2.1, 18, .inr (.inl h)),
  fun g f h => .inr (7, [.ref (g.2.1 59)]),
  fun g f h => .inl (g.2.2.2.1, 18, .inr (.inl h)),
  fun g f h => .inr (7, [.ref (g.2.1 61)]),
  fun g f h => .inl (g.2.2.2.1, 9, .inr (.inl h)),
  fun g f h => .inr (7, [.ref (g.2.1 63)]),
  fun g f h => .inl (g.2.2.2.1, 9, .inr (.inl h)),
  fun g f h => .inr (7, [.ref (g.2.1 65)]),
  fun g f h => .inl (g.2.2.2.1, 9, .inr (.inl h)),
  fun g f h => .inr (7, [.ref (g.2.1 67)]),
  fun g f h => .inl (g.2.2.2.1, 3, .inr (.inl h)),
  fun g f h => .inr (4, [.ref (g.2.1 1), .ref (g.2.1 69), .ref (g.2.1 71), .long (h 3), .long (h 4), .int (f 5), .ref (g.2.1 73), .ref (g.2.1 75), .ref (g.2.1 77)]),
  fun g f h => .inr (7, [.ref (g.2.1 70)]),
  fun g f h => .inl (g.2.2.2.1, 9, .inr (.inl h)),
  fun g f h => .inr (7, [.ref (g.2.1 72)]),
  fun g f h => .inl (g.2.2.2.1, 3, .inr (.inl h)),
  fun g f h => .inr (7, [.ref (g.2.1 74)]),
  fun g f h => .inl (g.2.2.2.1, 9, .inr (.inl h)),
  fun g f h => .inr (7, [.ref (g.2.1 76)]),
  fun g f h => .inl (g.2.2.2.1, 9, .inr (.inl h)),
  fun g f h => .inr (7, [.ref (g.2.1 78)]),
  fun g f h => .inl (g.2.2.2.1, 10, .inr (.inl h)),
  fun g f h => .inr (9, [.ref (g.2.1 1), .int (f 1), .int (f 2), .int (f 3), .int (f 4), .int (f 5)]),
  fun g f h => .inr (3, [.ref (g.2.1 1), .ref (g.2.1 79), .ref (g.2.1 81), .ref (g.2.1 83), .ref (g.2.1 85), .ref (g.2.1 87), .ref (g.2.1 89)]),
  fun g f h => .inr (7, [.ref (g.2.1 82)]),
  fun g f h => .inl (g.2.2.2.1, 8, .inr (.inl h)),
  fun g f h => .inr (7, [.ref (g.2.1 84)]),
  fun g f h => .inl (g.2.2.2.1, 64, .inr (.inl h)),
  fun g f h => .inr (7, [.ref (g.2.1 86)]),
  fun g f h => .inl (g.2.2.2.1, 8, .inr (.inl h)),
  fun g f h => .inr (7, [.ref (g.2.1 88)]),
  fun g f h => .inl (g.2.2.2.1, 8, .inr (.inl h)),
  fun g f h => .inr (7, [.ref (g.2.1 90)]),
  fun g f h => .inl (g.2.2.2.1, 8, .inr (.inl h)),
  fun g f h => .inr (1, [.ref (g.2.1 1), .ref (g.2.1 92)]),
  fun g f h => .inr (5, [.long (h 0), .long (h 1)]),
  fun g f h => .inr (5, [.long (h 0), .long (h 1)]),
  fun g f h => .inr (12, [.int (f 0), .ref (g.2.1 95), .ref (g.2.1 96), .int (f 3), .ref (g.2.1 97), .int (f 5), .int (f 6), .int (f 7), .int (f 8), .int (f 9), .ref (g.2.1 98), .ref (g.2.1 99), .ref (g.2.1 100), .ref (g.2.1 101), .int (f 14), .long (h 15), .long (h 16), .ref (g.2.1 102), .ref (g.2.1 103), .int (f 19), .int (f 20), .ref (g.2.1 104), .ref (g.2.1 105), .ref (g.2.1 106), .ref (g.2.1 107), .ref (g.2.1 108), .ref (g.2.1 109), .ref (g.2.1 110), .ref (g.2.1 111), .ref (g.2.1 112), .ref (g.2.1 113), .ref (g.2.1 114), .ref (g.2.1 115), .ref (g.2.1 116), .ref (g.2.1 117), .int (f 35), .int (f 36), .int (f 37), .ref (g.2.1 118), .ref (g.2.1 119), .ref (g.2.1 120)]),
  fun g f h => .inl (g.2.2.1, 564, .inl f),
  fun g f h => .inl (g.2.2.1, 564, .inl f),
  fun g f h => .inl (g.2.2.2.2, 400, .inl f),
  fun g f h => .inl (g.2.2.1, 5, .inl f),
  fun g f h => .inl (g.2.2.1, 13, .inl f),
  fun g f h => .inl (g.2.2.1, 400, .inl f),
  fun g f h => .inl (g.2.2.1, 400, .inl f),
  fun g f h => .inl (g.2.2.1, 10, .inl f),
  fun g f h => .inl (g.2.2.1, 9, .inl f),
  fun g f h => .inl (g.2.2.2.1, 18, .inr (.inl h)),
  fun g f h => .inl (g.2.2.2.1, 18, .inr (.inl h)),
  fun g f h => .inl (g.2.2.2.1, 3, .inr (.inl h)),
  fun g f h => .inl (g.2.2.2.1, 3, .inr (.inl h)),
  fun g f h => .inl (g.2.2.1, 3, .inl f),
  fun g f h => .inl (g.2.2.1, 3, .inl f),
  fun g f h => .inl (g.2.2.2.1, 16, .inr (.inl h)),
  fun g f h => .inl (g.2.2.2.1, 16, .inr (.inl h)),
  fun g f h => .inl (g.2.2.2.1, 3, .inr (.inl h)),
  fun g f h => .inl (g.2.2.2.1, 3, .inr (.inl h)),
  fun g f h => .inl (g.2.2.1, 9, .inl f),
  fun g f h => .inl (g.2.2.1, 9, .inl f),
  fun g f h => .inl (g.2.2.1, 10, .inl f),
  fun g f h => .inl (g.2.2.1, 10, .inl f),
  fun g f h => .inl (g.2.2.1, 64, .inl f),
  fun g f h => .inl (g.2.2.2.1, 8, .inr (.inl h)),
  fun g f h => .inl (g.2.2.2.1, 8, .inr (.inl h)),
  fun g f h => .inl (g.2.2.2.1, 1, .inr (.inl h))]
/-! ===== the G layer: a walk's state as plain data (pc, locals, stack, memory) over one fixed world of cells ===== -/
def upI (f : Nat → Int32) (j : Nat) (v : Int32) : Nat → Int32 := fun b => if b = j then v else f b
def mSI (M : Mem) (k j : Nat) (v : Int32) : Mem := (fun a => if a = k then upd (M.1 k) j v else M.1 a, M.2)
def mSL (M : Mem) (k j : Nat) (v : Int64) : Mem := (M.1, fun a => if a = k then vp_updL (M.2 k) j v else M.2 a)
def cell (g : GB) (k : Nat) (M : Mem) : va_E := (shapes.getD k (fun _ _ _ => .inr (0, []))) g (M.1 k) (M.2 k)
def world (g : GB) (M : Mem) : va_W := (List.range NC).map (fun k => (g.2.1 k, cell g k M))
theorem world_get {g : GB} {M : Mem} {k : Nat} (h : k < NC) : (world g M)[k]? = some (g.2.1 k, cell g k M) := by
  unfold world
  rw [List.getElem?_map, List.getElem?_range h]
  rfl
theorem world_of {g : GB} {M : Mem} {k : Nat} {q : Nat × va_E} (h : (world g M)[k]? = some q) : k < NC ∧ q = (g.2.1 k, cell g k M) := by
  have hk : k < NC := by
    rcases Nat.lt_or_ge k NC with h1 | h1
    · exact h1
    · rw [List.getElem?_eq_none (by unfold world; rw [List.length_map, List.length_range]; exact h1)] at h
      cases h
  rw [world_get hk] at h
  exact ⟨hk, (Option.some.inj h).symm⟩
theorem world_set {g : GB} {M M' : Mem} {k : Nat} (hk : k < NC) (hne : ∀ j, j ≠ k → cell g j M' = cell g j M) {e : va_E} (he : cell g k M' = e) : (world g M).set k (g.2.1 k, e) = world g M' := by
  apply List.ext_getElem?
  intro j
  rw [List.getElem?_set]
  by_cases hj : k = j
  · subst hj
    rw [if_pos rfl, world_get hk, he]
    have : k < (world g M).length := by unfold world; rw [List.length_map, List.length_range]; exact hk
    rw [if_pos this]
  · rw [if_neg hj]
    rcases Nat.lt_or_ge j NC with h | h
    · rw [world_get h, world_get h, hne j (fun q => hj q.symm)]
    · rw [List.getElem?_eq_none (by unfold world; rw [List.length_map, List.length_range]; exact h), List.getElem?_eq_none (by unfold world; rw [List.length_map, List.length_range]; exact h)]
theorem cell_mSI {g : GB} {M : Mem} {k i : Nat} {v : Int32} : ∀ j, j ≠ k → cell g j (mSI M k i v) = cell g j M := by
  intro j hj
  unfold cell mSI
  dsimp only
  rw [if_neg hj]
theorem cell_mSL {g : GB} {M : Mem} {k i : Nat} {v : Int64} : ∀ j, j ≠ k → cell g j (mSL M k i v) = cell g j M := by
  intro j hj
  unfold cell mSL
  dsimp only
  rw [if_neg hj]
/-- what a method of this system may change: the world's cells, and what is made -/
def AS (g : GB) (sz : Nat) : Nat → Prop := fun q => (∃ k, k < NC ∧ q = g.2.1 k) ∨ sz ≤ q
theorem AS.mono {g : GB} {a b : Nat} (h : a ≤ b) : ∀ q, AS g b q → AS g a q := fun _ hq => hq.elim Or.inl (fun z => Or.inr (Nat.le_trans h z))
def Inj (g : GB) : Prop := ∀ i j, i < NC → j < NC → g.2.1 i = g.2.1 j → i = j
theorem world_D {g : GB} {M : Mem} {sz : Nat} (h : Inj g) : va_D (AS g sz) (world g M) := by
  refine ⟨fun i j p q hi hj e => ?_, fun k q hk => ?_⟩
  · obtain ⟨a1, rfl⟩ := world_of hi
    obtain ⟨b1, rfl⟩ := world_of hj
    exact h i j a1 b1 e
  · obtain ⟨a1, rfl⟩ := world_of hk
    exact Or.inl ⟨k, a1, rfl⟩
def tys (g : GB) : List (ClassId × FieldType) := [(g.2.2.1, .int), (g.2.2.2.1, .long), (g.2.2.2.2, .byte)]
/-- the classes that are thrown, and which of them no handler of another catches -/
def EXN : List String := ["java/lang/RuntimeException", "java/lang/Exception"]
def ExcC : List String := ["java/lang/IllegalArgumentException", "java/lang/IndexOutOfBoundsException", "java/lang/UnsupportedOperationException", "java/util/NoSuchElementException", "java/lang/IllegalStateException"]
/-- the words that a throw needs and the lists can't bear -/
def BwL : List Cond := ExcC.map (fun X => Cond.castable X X) ++ [.declares ⟨"java/lang/RuntimeException", "<init>", "()V"⟩, .declares ⟨"java/lang/Exception", "<init>", "()V"⟩, .declares ⟨"java/lang/Throwable", "<init>", "()V"⟩]
theorem BwL_ok : ∀ w ∈ BwL, w.faceAtom = true ∧ w.onTables = true := by decide +kernel
theorem BwL_cast {X : String} (h : X ∈ ExcC) : Cond.castable X X ∈ BwL := List.mem_append_left _ (List.mem_map.mpr ⟨X, h, rfl⟩)
def NcL : List (String × String) := [("java/lang/IllegalArgumentException", "java/lang/IndexOutOfBoundsException"), ("java/lang/UnsupportedOperationException", "java/lang/IllegalArgumentException"), ("java/util/NoSuchElementException", "java/lang/IndexOutOfBoundsException"), ("java/lang/IllegalStateException", "java/lang/IndexOutOfBoundsException"), ("java/lang/IllegalStateException", "java/lang/IllegalArgumentException"), ("java/util/NoSuchElementException", "java/lang/IllegalArgumentException"), ("java/util/NoSuchElementException", "java/lang/IllegalStateException")]
abbrev strL : List Nat := [4, 3, 2]
abbrev strB : List (List Int32) := [[100, 111, 101, 115], [97, 110, 121], [116, 111]]
/-- what stands outside the world and is never written: two statics of Throwable, the texts, words of the tables that the lists can't bear -/
def Sta (g : GB) (sz : Nat) (U : State) (H : Heap) : Prop :=
  (vx_Zq Bundle.tN "UNASSIGNED_STACK" Bundle.steD (AS g sz) U H ∧ vx_Zq Bundle.tN "SUPPRESSED_SENTINEL" Bundle.listD (AS g sz) U H) ∧
  (vk_S 3 strL strB (fun i => g.2.1 (NC + i)) (fun i => g.2.1 (NC + 3 + i)) (AS g sz) U H ∧ vk_S 3 strL strB (fun i => g.2.1 (NC + 6 + i)) (fun i => g.2.1 (NC + 9 + i)) (AS g sz) U H) ∧
  ((vk_R "KeptWell$Tape" 74 "does" (g.2.1 (NC + 0)) U ∧ vk_R "KeptWell$Tape" 87 "any" (g.2.1 (NC + 1)) U ∧ vk_R "KeptWell$Tape" 89 "to" (g.2.1 (NC + 2)) U) ∧
  (vk_R "KeptWellModel" 165 "does" (g.2.1 (NC + 6 + 0)) U ∧ vk_R "KeptWellModel" 152 "any" (g.2.1 (NC + 6 + 1)) U ∧ vk_R "KeptWellModel" 157 "to" (g.2.1 (NC + 6 + 2)) U)) ∧
  (∀ w ∈ BwL, va_Nw w U) ∧ (∀ q ∈ NcL, va_Nc q.1 q.2 U) ∧ va_Z "java/lang/String" "COMPACT_STRINGS" "Z" (.int 1) (AS g sz) U H ∧ va_Zq "jdk/internal/util/Preconditions" "SIOOBE_FORMATTER" "Ljava/util/function/BiFunction;" (AS g sz) U H
theorem Sta.step {g : GB} {s U : State} {H : Heap} {locs : List Loc} (h : Sta g s.heap.size s s.heap) (hW : s.WarmedH U.vm) (hS : va_S (AS g s.heap.size) s.heap H locs) : Sta g H.size U H := by
  obtain ⟨⟨h1, h2⟩, ⟨h3, h4⟩, ⟨⟨r1, r2, r3⟩, r4, r5, r6⟩, h5, h6, h7, h8⟩ := h
  exact ⟨⟨((h1.moved hW.alike).kept hS.2.1).narrow (AS.mono hS.1), ((h2.moved hW.alike).kept hS.2.1).narrow (AS.mono hS.1)⟩, ⟨((h3.moved hW.alike).kept hS.2.1).narrow (AS.mono hS.1), ((h4.moved hW.alike).kept hS.2.1).narrow (AS.mono hS.1)⟩, ⟨⟨r1.warm hW, r2.warm hW, r3.warm hW⟩, r4.warm hW, r5.warm hW, r6.warm hW⟩, fun w hw => va_tabs (BwL_ok w hw).2 (rfl : (s.setVm U.vm).vm = U.vm) (Cond.faceAtom_setVm hW.alike w (BwL_ok w hw).1 (h5 w hw)), fun q hq => (h6 q hq).moved hW.alike, ((h7.moved hW.alike).kept hS.2.1).narrow (AS.mono hS.1), ((h8.moved hW.alike).kept hS.2.1).narrow (AS.mono hS.1)⟩
theorem Sta.same {g : GB} {sz : Nat} {u U : State} {H : Heap} (h : Sta g sz u H) (hv : U.vm = u.vm) : Sta g sz U H := by
  obtain ⟨⟨h1, h2⟩, ⟨h3, h4⟩, ⟨⟨r1, r2, r3⟩, r4, r5, r6⟩, h5, h6, h7, h8⟩ := h
  have ha : u.vm.Alike U.vm := by rw [hv]; exact Vm.Alike.refl _
  exact ⟨⟨h1.moved ha, h2.moved ha⟩, ⟨h3.moved ha, h4.moved ha⟩, ⟨⟨r1.same hv, r2.same hv, r3.same hv⟩, r4.same hv, r5.same hv, r6.same hv⟩, fun w hw => va_tabs (BwL_ok w hw).2 hv.symm (h5 w hw), fun q hq => (h6 q hq).moved ha, h7.moved ha, h8.moved ha⟩
def Pic (g : GB) (M : Mem) (sz : Nat) (U : State) : Prop := U.heap.size = sz ∧ va_P g.1 vwCl (world g M) U.heap ∧ va_K g.1 vwCl (tys g) U ∧ Sta g sz U U.heap ∧ Inj g
theorem Pic.blind {g : GB} {M : Mem} {sz : Nat} {av : List Value} : FrameBlind (va_Pc av (Pic g M sz)) := by
  intro a U f mk h
  obtain ⟨h0, h1, h2, h3, h4, h5⟩ := h
  exact ⟨h0, h1, h2, va_K.moved (u := U) (U := U.calling f mk a) (Vm.Alike.refl U.vm) h3, h4.same rfl, h5⟩
/-- a method's end: a value that is returned (or none), or the class of what is thrown -/
abbrev RV : Type := Option Value ⊕ String
def Aft (g : GB) (sz : Nat) (M' : Mem) (st t : State) : Prop := (va_P g.1 vwCl (world g M') t.heap ∧ va_K g.1 vwCl (tys g) t) ∧ va_F (AS g sz) st t
def Qn (g : GB) (sz : Nat) (r : RV) (M' : Mem) : Array Value → State → Outcome → State → Prop := fun _ st oc t => (∃ v, r = .inl v ∧ oc = .returned v) ∧ Aft g sz M' st t
def QX (g : GB) (sz : Nat) (r : RV) (M' : Mem) : String → State → State → Prop := fun E st t => r = .inr E ∧ Aft g sz M' st t
/-- method y, called with av in memory M, ends with r in memory M' -/
def CT (l : Launch) (g : GB) (y : MethodName) (ws : List Cond) (rm : Room) (av : List Value) (M : Mem) (r : RV) (M' : Mem) : Prop :=
  ∀ sz, vx_Met l y ws rm (va_Pc av (Pic g M sz)) (Qn g sz r M') (QX g sz r M') rm.cells rm.slots (AS g sz)
def KF (p : Program) (l : Launch) (s : State) (m : MethodId) (args : Array Value) (meth : Method) (c : Code) (g : GB) (cc : ByteArray) (nL : Nat) (own : String) : Prop :=
  CallFix p m c cc nL s args wAll own ∧ (va_K g.1 vwCl (tys g) s ∧ Inj g ∧ Sta g s.heap.size s s.heap) ∧ l.stackTraces = false ∧ meth.locks = false
def GG (p : Program) (l : Launch) (e : Env) (R : Room) (s : State) (m : MethodId) (args : Array Value) (below : List Frame) (meth : Method) (c : Code) (g : GB) (nL : Nat) (Q : State → Prop) (cells slots pc : Nat) (lv : List (Nat × Value)) (st : List Value) (M : Mem) : Prop :=
  ∀ (H : Heap) (locs : List Loc) (ls : Array Slot), va_P g.1 vwCl (world g M) H → va_S (AS g s.heap.size) s.heap H locs → lv_has ls nL lv → W p l e R s m args below meth c H locs cells slots Q (F0 m pc ls st)
/-- the same with an exception of class E over the frame -/
def GX (p : Program) (l : Launch) (e : Env) (R : Room) (s : State) (m : MethodId) (args : Array Value) (below : List Frame) (meth : Method) (c : Code) (g : GB) (nL : Nat) (Q : State → Prop) (cells slots pc : Nat) (lv : List (Nat × Value)) (E : String) (M : Mem) : Prop :=
  ∀ (H : Heap) (locs : List Loc) (ls : Array Slot) (rest : List Value) (ce : Cell) (q : Addr), va_P g.1 vwCl (world g M) H → va_S (AS g s.heap.size) s.heap H locs → lv_has ls nL lv → H[q]? = some ce → ce.vm = .none → s.vm.findClass E = some ce.cls → vx_W p l e R s m args below meth c H locs cells slots Q (F0 m pc ls rest) q
def wpO {α : Type} (X : Option α) (Φ : α → Prop) : Prop := ∃ a, X = some a ∧ Φ a
theorem wpO_some {α : Type} {a : α} {Φ : α → Prop} (h : wpO (some a) Φ) : Φ a := by
  obtain ⟨b, h1, h2⟩ := h
  cases h1
  exact h2
theorem wpO_bind {α β : Type} {X : Option α} {k : α → Option β} {Φ : β → Prop} (h : wpO (X.bind k) Φ) : wpO X (fun a => wpO (k a) Φ) := by
  obtain ⟨b, h1, h2⟩ := h
  cases X with
  | none => cases h1
  | some a => exact ⟨a, rfl, b, h1, h2⟩
theorem wpO_t {α : Type} {c : Prop} [Decidable c] {X Y : Option α} {Φ : α → Prop} (h : wpO (if c then X else Y) Φ) (hc : c) : wpO X Φ := by rw [if_pos hc] at h; exact h
theorem wpO_f {α : Type} {c : Prop} [Decidable c] {X Y : Option α} {Φ : α → Prop} (h : wpO (if c then X else Y) Φ) (hc : ¬ c) : wpO Y Φ := by rw [if_neg hc] at h; exact h
theorem wpO_g {α : Type} {c : Prop} [Decidable c] {X : Option α} {Φ : α → Prop} (h : wpO (if c then X else none) Φ) : c ∧ wpO X Φ := by
  by_cases hc : c
  · rw [if_pos hc] at h; exact ⟨hc, h⟩
  · rw [if_neg hc] at h; obtain ⟨a, h1, -⟩ := h; cases h1
def iter {σ ρ : Type} (body : σ → Option (σ ⊕ ρ)) : Nat → σ → Option ρ
  | 0, _ => none
  | n + 1, s => (body s).bind fun x => match x with
    | .inl s' => iter body n s'
    | .inr r => some r
def FUEL : Nat := 1180591620717411303424
/-- a loop: G at its head for every state, if one round of the body leads there again or to the exit -/
theorem loop_G {σ ρ : Type} {body : σ → Option (σ ⊕ ρ)} {G : σ → Prop} {Φ : ρ → Prop} (hs : ∀ s, wpO (body s) (fun x => match x with | .inl s' => G s' | .inr r => Φ r) → G s) : ∀ (n : Nat) (s : σ), wpO (iter body n s) Φ → G s := by
  intro n
  induction n with
  | zero => intro s h; obtain ⟨a, h1, -⟩ := h; cases h1
  | succ n ih =>
    intro s h
    obtain ⟨x, h1, h2⟩ := wpO_bind (X := body s) h
    refine hs s ⟨x, h1, ?_⟩
    cases x with
    | inl s' => exact ih s' h2
    | inr r =>
      have h3 : wpO (some r) Φ := h2
      show Φ r
      exact wpO_some h3
def b2i (b : Bool) : Int32 := if b = true then 1 else 0
theorem b2i_z {b : Bool} : b2i b = 0 ↔ b = false := by cases b <;> decide
theorem b2i_nz {b : Bool} : ¬ b2i b = 0 ↔ b = true := by cases b <;> decide
abbrev inb (i : Int32) (n : Nat) : Prop := ¬ (i < 0 ∨ n ≤ i.toNatClampNeg)
def toB (x : Int32) : Option Bool := if x = 0 then some false else if x = 1 then some true else none
theorem toB_spec {x : Int32} {b : Bool} (h : toB x = some b) : x = b2i b := by
  unfold toB at h
  split at h
  next h0 => cases h; exact h0
  next =>
    split at h
    next h1 => cases h; exact h1
    next => cases h
theorem nar_b {b : Bool} : narrow .boolean (.int (b2i b)) = .int (b2i b) := by cases b <;> rfl
theorem fit_b {b : Bool} : fits .boolean (.int (b2i b)) = true := by cases b <;> rfl
theorem wpO_bf {α : Type} {b : Bool} {X Y : Option α} {Φ : α → Prop} (h : wpO (if b = true then X else Y) Φ) (hc : b = false) : wpO Y Φ := by rw [if_neg (by rw [hc]; decide)] at h; exact h
theorem loop_G2 {σ ρ : Type} {body : σ → Option (σ ⊕ ρ)} {G : σ → Prop} {Φ : ρ → Prop} (hs : ∀ P : σ ⊕ ρ → Prop, (∀ s, P (.inl s) → G s) → (∀ r, P (.inr r) → Φ r) → ∀ s, wpO (body s) P → G s) : ∀ (n : Nat) (s : σ), wpO (iter body n s) Φ → G s :=
  loop_G (hs (fun x => match x with | .inl s' => G s' | .inr r => Φ r) (fun _ h => h) (fun _ h => h))
theorem loop_C1 {A0 ρ : Type} {body : (A0) → Option ((A0) ⊕ ρ)} {G : A0 → Prop} {Φ : ρ → Prop} (hs : ∀ P : (A0) ⊕ ρ → Prop, (∀ (a0 : A0), P (.inl a0) → G a0) → (∀ r, P (.inr r) → Φ r) → ∀ z, wpO (body z) P → G z) : ∀ (n : Nat) (a0 : A0), wpO (iter body n a0) Φ → G a0 :=
  fun n a0 h => loop_G2 (G := fun z => G z) (fun P h1 h2 z h3 => hs P (fun a0 => h1 a0) h2 z h3) n a0 h
theorem loop_C2 {A0 A1 ρ : Type} {body : (A0 × A1) → Option ((A0 × A1) ⊕ ρ)} {G : A0 → A1 → Prop} {Φ : ρ → Prop} (hs : ∀ P : (A0 × A1) ⊕ ρ → Prop, (∀ (a0 : A0) (a1 : A1), P (.inl (a0, a1)) → G a0 a1) → (∀ r, P (.inr r) → Φ r) → ∀ z, wpO (body z) P → G z.1 z.2) : ∀ (n : Nat) (a0 : A0) (a1 : A1), wpO (iter body n (a0, a1)) Φ → G a0 a1 :=
  fun n a0 a1 h => loop_G2 (G := fun z => G z.1 z.2) (fun P h1 h2 z h3 => hs P (fun a0 a1 => h1 (a0, a1)) h2 z h3) n (a0, a1) h
theorem loop_C3 {A0 A1 A2 ρ : Type} {body : (A0 × A1 × A2) → Option ((A0 × A1 × A2) ⊕ ρ)} {G : A0 → A1 → A2 → Prop} {Φ : ρ → Prop} (hs : ∀ P : (A0 × A1 × A2) ⊕ ρ → Prop, (∀ (a0 : A0) (a1 : A1) (a2 : A2), P (.inl (a0, a1, a2)) → G a0 a1 a2) → (∀ r, P (.inr r) → Φ r) → ∀ z, wpO (body z) P → G z.1 z.2.1 z.2.2) : ∀ (n : Nat) (a0 : A0) (a1 : A1) (a2 : A2), wpO (iter body n (a0, a1, a2)) Φ → G a0 a1 a2 :=
  fun n a0 a1 a2 h => loop_G2 (G := fun z => G z.1 z.2.1 z.2.2) (fun P h1 h2 z h3 => hs P (fun a0 a1 a2 => h1 (a0, a1, a2)) h2 z h3) n (a0, a1, a2) h
theorem loop_C4 {A0 A1 A2 A3 ρ : Type} {body : (A0 × A1 × A2 × A3) → Option ((A0 × A1 × A2 × A3) ⊕ ρ)} {G : A0 → A1 → A2 → A3 → Prop} {Φ : ρ → Prop} (hs : ∀ P : (A0 × A1 × A2 × A3) ⊕ ρ → Prop, (∀ (a0 : A0) (a1 : A1) (a2 : A2) (a3 : A3), P (.inl (a0, a1, a2, a3)) → G a0 a1 a2 a3) → (∀ r, P (.inr r) → Φ r) → ∀ z, wpO (body z) P → G z.1 z.2.1 z.2.2.1 z.2.2.2) : ∀ (n : Nat) (a0 : A0) (a1 : A1) (a2 : A2) (a3 : A3), wpO (iter body n (a0, a1, a2, a3)) Φ → G a0 a1 a2 a3 :=
  fun n a0 a1 a2 a3 h => loop_G2 (G := fun z => G z.1 z.2.1 z.2.2.1 z.2.2.2) (fun P h1 h2 z h3 => hs P (fun a0 a1 a2 a3 => h1 (a0, a1, a2, a3)) h2 z h3) n (a0, a1, a2, a3) h
theorem loop_C5 {A0 A1 A2 A3 A4 ρ : Type} {body : (A0 × A1 × A2 × A3 × A4) → Option ((A0 × A1 × A2 × A3 × A4) ⊕ ρ)} {G : A0 → A1 → A2 → A3 → A4 → Prop} {Φ : ρ → Prop} (hs : ∀ P : (A0 × A1 × A2 × A3 × A4) ⊕ ρ → Prop, (∀ (a0 : A0) (a1 : A1) (a2 : A2) (a3 : A3) (a4 : A4), P (.inl (a0, a1, a2, a3, a4)) → G a0 a1 a2 a3 a4) → (∀ r, P (.inr r) → Φ r) → ∀ z, wpO (body z) P → G z.1 z.2.1 z.2.2.1 z.2.2.2.1 z.2.2.2.2) : ∀ (n : Nat) (a0 : A0) (a1 : A1) (a2 : A2) (a3 : A3) (a4 : A4), wpO (iter body n (a0, a1, a2, a3, a4)) Φ → G a0 a1 a2 a3 a4 :=
  fun n a0 a1 a2 a3 a4 h => loop_G2 (G := fun z => G z.1 z.2.1 z.2.2.1 z.2.2.2.1 z.2.2.2.2) (fun P h1 h2 z h3 => hs P (fun a0 a1 a2 a3 a4 => h1 (a0, a1, a2, a3, a4)) h2 z h3) n (a0, a1, a2, a3, a4) h
theorem loop_C6 {A0 A1 A2 A3 A4 A5 ρ : Type} {body : (A0 × A1 × A2 × A3 × A4 × A5) → Option ((A0 × A1 × A2 × A3 × A4 × A5) ⊕ ρ)} {G : A0 → A1 → A2 → A3 → A4 → A5 → Prop} {Φ : ρ → Prop} (hs : ∀ P : (A0 × A1 × A2 × A3 × A4 × A5) ⊕ ρ → Prop, (∀ (a0 : A0) (a1 : A1) (a2 : A2) (a3 : A3) (a4 : A4) (a5 : A5), P (.inl (a0, a1, a2, a3, a4, a5)) → G a0 a1 a2 a3 a4 a5) → (∀ r, P (.inr r) → Φ r) → ∀ z, wpO (body z) P → G z.1 z.2.1 z.2.2.1 z.2.2.2.1 z.2.2.2.2.1 z.2.2.2.2.2) : ∀ (n : Nat) (a0 : A0) (a1 : A1) (a2 : A2) (a3 : A3) (a4 : A4) (a5 : A5), wpO (iter body n (a0, a1, a2, a3, a4, a5)) Φ → G a0 a1 a2 a3 a4 a5 :=
  fun n a0 a1 a2 a3 a4 a5 h => loop_G2 (G := fun z => G z.1 z.2.1 z.2.2.1 z.2.2.2.1 z.2.2.2.2.1 z.2.2.2.2.2) (fun P h1 h2 z h3 => hs P (fun a0 a1 a2 a3 a4 a5 => h1 (a0, a1, a2, a3, a4, a5)) h2 z h3) n (a0, a1, a2, a3, a4, a5) h
theorem loop_C7 {A0 A1 A2 A3 A4 A5 A6 ρ : Type} {body : (A0 × A1 × A2 × A3 × A4 × A5 × A6) → Option ((A0 × A1 × A2 × A3 × A4 × A5 × A6) ⊕ ρ)} {G : A0 → A1 → A2 → A3 → A4 → A5 → A6 → Prop} {Φ : ρ → Prop} (hs : ∀ P : (A0 × A1 × A2 × A3 × A4 × A5 × A6) ⊕ ρ → Prop, (∀ (a0 : A0) (a1 : A1) (a2 : A2) (a3 : A3) (a4 : A4) (a5 : A5) (a6 : A6), P (.inl (a0, a1, a2, a3, a4, a5, a6)) → G a0 a1 a2 a3 a4 a5 a6) → (∀ r, P (.inr r) → Φ r) → ∀ z, wpO (body z) P → G z.1 z.2.1 z.2.2.1 z.2.2.2.1 z.2.2.2.2.1 z.2.2.2.2.2.1 z.2.2.2.2.2.2) : ∀ (n : Nat) (a0 : A0) (a1 : A1) (a2 : A2) (a3 : A3) (a4 : A4) (a5 : A5) (a6 : A6), wpO (iter body n (a0, a1, a2, a3, a4, a5, a6)) Φ → G a0 a1 a2 a3 a4 a5 a6 :=
  fun n a0 a1 a2 a3 a4 a5 a6 h => loop_G2 (G := fun z => G z.1 z.2.1 z.2.2.1 z.2.2.2.1 z.2.2.2.2.1 z.2.2.2.2.2.1 z.2.2.2.2.2.2) (fun P h1 h2 z h3 => hs P (fun a0 a1 a2 a3 a4 a5 a6 => h1 (a0, a1, a2, a3, a4, a5, a6)) h2 z h3) n (a0, a1, a2, a3, a4, a5, a6) h
theorem loop_C8 {A0 A1 A2 A3 A4 A5 A6 A7 ρ : Type} {body : (A0 × A1 × A2 × A3 × A4 × A5 × A6 × A7) → Option ((A0 × A1 × A2 × A3 × A4 × A5 × A6 × A7) ⊕ ρ)} {G : A0 → A1 → A2 → A3 → A4 → A5 → A6 → A7 → Prop} {Φ : ρ → Prop} (hs : ∀ P : (A0 × A1 × A2 × A3 × A4 × A5 × A6 × A7) ⊕ ρ → Prop, (∀ (a0 : A0) (a1 : A1) (a2 : A2) (a3 : A3) (a4 : A4) (a5 : A5) (a6 : A6) (a7 : A7), P (.inl (a0, a1, a2, a3, a4, a5, a6, a7)) → G a0 a1 a2 a3 a4 a5 a6 a7) → (∀ r, P (.inr r) → Φ r) → ∀ z, wpO (body z) P → G z.1 z.2.1 z.2.2.1 z.2.2.2.1 z.2.2.2.2.1 z.2.2.2.2.2.1 z.2.2.2.2.2.2.1 z.2.2.2.2.2.2.2) : ∀ (n : Nat) (a0 : A0) (a1 : A1) (a2 : A2) (a3 : A3) (a4 : A4) (a5 : A5) (a6 : A6) (a7 : A7), wpO (iter body n (a0, a1, a2, a3, a4, a5, a6, a7)) Φ → G a0 a1 a2 a3 a4 a5 a6 a7 :=
  fun n a0 a1 a2 a3 a4 a5 a6 a7 h => loop_G2 (G := fun z => G z.1 z.2.1 z.2.2.1 z.2.2.2.1 z.2.2.2.2.1 z.2.2.2.2.2.1 z.2.2.2.2.2.2.1 z.2.2.2.2.2.2.2) (fun P h1 h2 z h3 => hs P (fun a0 a1 a2 a3 a4 a5 a6 a7 => h1 (a0, a1, a2, a3, a4, a5, a6, a7)) h2 z h3) n (a0, a1, a2, a3, a4, a5, a6, a7) h
theorem loop_C9 {A0 A1 A2 A3 A4 A5 A6 A7 A8 ρ : Type} {body : (A0 × A1 × A2 × A3 × A4 × A5 × A6 × A7 × A8) → Option ((A0 × A1 × A2 × A3 × A4 × A5 × A6 × A7 × A8) ⊕ ρ)} {G : A0 → A1 → A2 → A3 → A4 → A5 → A6 → A7 → A8 → Prop} {Φ : ρ → Prop} (hs : ∀ P : (A0 × A1 × A2 × A3 × A4 × A5 × A6 × A7 × A8) ⊕ ρ → Prop, (∀ (a0 : A0) (a1 : A1) (a2 : A2) (a3 : A3) (a4 : A4) (a5 : A5) (a6 : A6) (a7 : A7) (a8 : A8), P (.inl (a0, a1, a2, a3, a4, a5, a6, a7, a8)) → G a0 a1 a2 a3 a4 a5 a6 a7 a8) → (∀ r, P (.inr r) → Φ r) → ∀ z, wpO (body z) P → G z.1 z.2.1 z.2.2.1 z.2.2.2.1 z.2.2.2.2.1 z.2.2.2.2.2.1 z.2.2.2.2.2.2.1 z.2.2.2.2.2.2.2.1 z.2.2.2.2.2.2.2.2) : ∀ (n : Nat) (a0 : A0) (a1 : A1) (a2 : A2) (a3 : A3) (a4 : A4) (a5 : A5) (a6 : A6) (a7 : A7) (a8 : A8), wpO (iter body n (a0, a1, a2, a3, a4, a5, a6, a7, a8)) Φ → G a0 a1 a2 a3 a4 a5 a6 a7 a8 :=
  fun n a0 a1 a2 a3 a4 a5 a6 a7 a8 h => loop_G2 (G := fun z => G z.1 z.2.1 z.2.2.1 z.2.2.2.1 z.2.2.2.2.1 z.2.2.2.2.2.1 z.2.2.2.2.2.2.1 z.2.2.2.2.2.2.2.1 z.2.2.2.2.2.2.2.2) (fun P h1 h2 z h3 => hs P (fun a0 a1 a2 a3 a4 a5 a6 a7 a8 => h1 (a0, a1, a2, a3, a4, a5, a6, a7, a8)) h2 z h3) n (a0, a1, a2, a3, a4, a5, a6, a7, a8) h
theorem loop_C10 {A0 A1 A2 A3 A4 A5 A6 A7 A8 A9 ρ : Type} {body : (A0 × A1 × A2 × A3 × A4 × A5 × A6 × A7 × A8 × A9) → Option ((A0 × A1 × A2 × A3 × A4 × A5 × A6 × A7 × A8 × A9) ⊕ ρ)} {G : A0 → A1 → A2 → A3 → A4 → A5 → A6 → A7 → A8 → A9 → Prop} {Φ : ρ → Prop} (hs : ∀ P : (A0 × A1 × A2 × A3 × A4 × A5 × A6 × A7 × A8 × A9) ⊕ ρ → Prop, (∀ (a0 : A0) (a1 : A1) (a2 : A2) (a3 : A3) (a4 : A4) (a5 : A5) (a6 : A6) (a7 : A7) (a8 : A8) (a9 : A9), P (.inl (a0, a1, a2, a3, a4, a5, a6, a7, a8, a9)) → G a0 a1 a2 a3 a4 a5 a6 a7 a8 a9) → (∀ r, P (.inr r) → Φ r) → ∀ z, wpO (body z) P → G z.1 z.2.1 z.2.2.1 z.2.2.2.1 z.2.2.2.2.1 z.2.2.2.2.2.1 z.2.2.2.2.2.2.1 z.2.2.2.2.2.2.2.1 z.2.2.2.2.2.2.2.2.1 z.2.2.2.2.2.2.2.2.2) : ∀ (n : Nat) (a0 : A0) (a1 : A1) (a2 : A2) (a3 : A3) (a4 : A4) (a5 : A5) (a6 : A6) (a7 : A7) (a8 : A8) (a9 : A9), wpO (iter body n (a0, a1, a2, a3, a4, a5, a6, a7, a8, a9)) Φ → G a0 a1 a2 a3 a4 a5 a6 a7 a8 a9 :=
  fun n a0 a1 a2 a3 a4 a5 a6 a7 a8 a9 h => loop_G2 (G := fun z => G z.1 z.2.1 z.2.2.1 z.2.2.2.1 z.2.2.2.2.1 z.2.2.2.2.2.1 z.2.2.2.2.2.2.1 z.2.2.2.2.2.2.2.1 z.2.2.2.2.2.2.2.2.1 z.2.2.2.2.2.2.2.2.2) (fun P h1 h2 z h3 => hs P (fun a0 a1 a2 a3 a4 a5 a6 a7 a8 a9 => h1 (a0, a1, a2, a3, a4, a5, a6, a7, a8, a9)) h2 z h3) n (a0, a1, a2, a3, a4, a5, a6, a7, a8, a9) h
theorem loop_C11 {A0 A1 A2 A3 A4 A5 A6 A7 A8 A9 A10 ρ : Type} {body : (A0 × A1 × A2 × A3 × A4 × A5 × A6 × A7 × A8 × A9 × A10) → Option ((A0 × A1 × A2 × A3 × A4 × A5 × A6 × A7 × A8 × A9 × A10) ⊕ ρ)} {G : A0 → A1 → A2 → A3 → A4 → A5 → A6 → A7 → A8 → A9 → A10 → Prop} {Φ : ρ → Prop} (hs : ∀ P : (A0 × A1 × A2 × A3 × A4 × A5 × A6 × A7 × A8 × A9 × A10) ⊕ ρ → Prop, (∀ (a0 : A0) (a1 : A1) (a2 : A2) (a3 : A3) (a4 : A4) (a5 : A5) (a6 : A6) (a7 : A7) (a8 : A8) (a9 : A9) (a10 : A10), P (.inl (a0, a1, a2, a3, a4, a5, a6, a7, a8, a9, a10)) → G a0 a1 a2 a3 a4 a5 a6 a7 a8 a9 a10) → (∀ r, P (.inr r) → Φ r) → ∀ z, wpO (body z) P → G z.1 z.2.1 z.2.2.1 z.2.2.2.1 z.2.2.2.2.1 z.2.2.2.2.2.1 z.2.2.2.2.2.2.1 z.2.2.2.2.2.2.2.1 z.2.2.2.2.2.2.2.2.1 z.2.2.2.2.2.2.2.2.2.1 z.2.2.2.2.2.2.2.2.2.2) : ∀ (n : Nat) (a0 : A0) (a1 : A1) (a2 : A2) (a3 : A3) (a4 : A4) (a5 : A5) (a6 : A6) (a7 : A7) (a8 : A8) (a9 : A9) (a10 : A10), wpO (iter body n (a0, a1, a2, a3, a4, a5, a6, a7, a8, a9, a10)) Φ → G a0 a1 a2 a3 a4 a5 a6 a7 a8 a9 a10 :=
  fun n a0 a1 a2 a3 a4 a5 a6 a7 a8 a9 a10 h => loop_G2 (G := fun z => G z.1 z.2.1 z.2.2.1 z.2.2.2.1 z.2.2.2.2.1 z.2.2.2.2.2.1 z.2.2.2.2.2.2.1 z.2.2.2.2.2.2.2.1 z.2.2.2.2.2.2.2.2.1 z.2.2.2.2.2.2.2.2.2.1 z.2.2.2.2.2.2.2.2.2.2) (fun P h1 h2 z h3 => hs P (fun a0 a1 a2 a3 a4 a5 a6 a7 a8 a9 a10 => h1 (a0, a1, a2, a3, a4, a5, a6, a7, a8, a9, a10)) h2 z h3) n (a0, a1, a2, a3, a4, a5, a6, a7, a8, a9, a10) h
theorem loop_C12 {A0 A1 A2 A3 A4 A5 A6 A7 A8 A9 A10 A11 ρ : Type} {body : (A0 × A1 × A2 × A3 × A4 × A5 × A6 × A7 × A8 × A9 × A10 × A11) → Option ((A0 × A1 × A2 × A3 × A4 × A5 × A6 × A7 × A8 × A9 × A10 × A11) ⊕ ρ)} {G : A0 → A1 → A2 → A3 → A4 → A5 → A6 → A7 → A8 → A9 → A10 → A11 → Prop} {Φ : ρ → Prop} (hs : ∀ P : (A0 × A1 × A2 × A3 × A4 × A5 × A6 × A7 × A8 × A9 × A10 × A11) ⊕ ρ → Prop, (∀ (a0 : A0) (a1 : A1) (a2 : A2) (a3 : A3) (a4 : A4) (a5 : A5) (a6 : A6) (a7 : A7) (a8 : A8) (a9 : A9) (a10 : A10) (a11 : A11), P (.inl (a0, a1, a2, a3, a4, a5, a6, a7, a8, a9, a10, a11)) → G a0 a1 a2 a3 a4 a5 a6 a7 a8 a9 a10 a11) → (∀ r, P (.inr r) → Φ r) → ∀ z, wpO (body z) P → G z.1 z.2.1 z.2.2.1 z.2.2.2.1 z.2.2.2.2.1 z.2.2.2.2.2.1 z.2.2.2.2.2.2.1 z.2.2.2.2.2.2.2.1 z.2.2.2.2.2.2.2.2.1 z.2.2.2.2.2.2.2.2.2.1 z.2.2.2.2.2.2.2.2.2.2.1 z.2.2.2.2.2.2.2.2.2.2.2) : ∀ (n : Nat) (a0 : A0) (a1 : A1) (a2 : A2) (a3 : A3) (a4 : A4) (a5 : A5) (a6 : A6) (a7 : A7) (a8 : A8) (a9 : A9) (a10 : A10) (a11 : A11), wpO (iter body n (a0, a1, a2, a3, a4, a5, a6, a7, a8, a9, a10, a11)) Φ → G a0 a1 a2 a3 a4 a5 a6 a7 a8 a9 a10 a11 :=
  fun n a0 a1 a2 a3 a4 a5 a6 a7 a8 a9 a10 a11 h => loop_G2 (G := fun z => G z.1 z.2.1 z.2.2.1 z.2.2.2.1 z.2.2.2.2.1 z.2.2.2.2.2.1 z.2.2.2.2.2.2.1 z.2.2.2.2.2.2.2.1 z.2.2.2.2.2.2.2.2.1 z.2.2.2.2.2.2.2.2.2.1 z.2.2.2.2.2.2.2.2.2.2.1 z.2.2.2.2.2.2.2.2.2.2.2) (fun P h1 h2 z h3 => hs P (fun a0 a1 a2 a3 a4 a5 a6 a7 a8 a9 a10 a11 => h1 (a0, a1, a2, a3, a4, a5, a6, a7, a8, a9, a10, a11)) h2 z h3) n (a0, a1, a2, a3, a4, a5, a6, a7, a8, a9, a10, a11) h
def isRow (k a n : Nat) : Prop := k < NC ∧ a < NC ∧ (∀ (g : GB) (M : Mem), cell g k M = .inr (7, [.ref (g.2.1 a)])) ∧ ∀ (g : GB) (M : Mem), cell g a M = .inl (g.2.2.2.1, n, .inr (.inl (M.2 a)))
def isFrac (b : Nat) : Prop := b < NC ∧ ∀ (g : GB) (M : Mem), cell g b M = .inr (5, [.long (M.2 b 0), .long (M.2 b 1)])
def isChain (b : Nat) : Prop := b < NC ∧ (∀ (g : GB) (M : Mem), cell g b M = .inr (2, [.ref (g.2.1 (b + 1)), .ref (g.2.1 (b + 3)), .ref (g.2.1 (b + 5)), .ref (g.2.1 (b + 7)), .ref (g.2.1 (b + 9)), .ref (g.2.1 (b + 11)), .long (M.2 b 6), .long (M.2 b 7)])) ∧ isRow (b + 1) (b + 2) 9 ∧ isRow (b + 3) (b + 4) 18 ∧ isRow (b + 5) (b + 6) 18 ∧ isRow (b + 7) (b + 8) 9 ∧ isRow (b + 9) (b + 10) 9 ∧ isRow (b + 11) (b + 12) 9
def isWell (b : Nat) : Prop := b < NC ∧ (∀ (g : GB) (M : Mem), cell g b M = .inr (10, [.int (M.1 b 0), .int (M.1 b 1), .int (M.1 b 2), .int (M.1 b 3), .int (M.1 b 4), .int (M.1 b 5), .int (M.1 b 6), .int (M.1 b 7), .int (M.1 b 8), .ref (g.2.1 (b + 1)), .ref (g.2.1 (b + 3)), .ref (g.2.1 (b + 5)), .ref (g.2.1 (b + 7)), .ref (g.2.1 (b + 9)), .ref (g.2.1 (b + 11))])) ∧ isRow (b + 1) (b + 2) 18 ∧ isRow (b + 3) (b + 4) 117 ∧ isRow (b + 5) (b + 6) 400 ∧ isRow (b + 7) (b + 8) 8 ∧ isRow (b + 9) (b + 10) 6 ∧ isRow (b + 11) (b + 12) 6
def dc (cc : ByteArray) (pc pc' : Nat) (i : Instr) (n : Nat) : Prop := decode cc pc = .ok (i, n) ∧ pc + n = pc'
theorem dr_at {cc : ByteArray} {L : List (Nat × Instr × Nat)} (h : L.all (fun q => decide (decode cc q.1 = .ok q.2)) = true) {i pc n : Nat} {ins : Instr} (hi : L[i]? = some (pc, ins, n)) : decode cc pc = .ok (ins, n) := by
  have h1 := List.all_eq_true.mp h _ (List.mem_of_getElem? hi)
  simpa using h1
def bt (N p : Nat) : Nat := Nat.mod (Nat.shiftRight N (Nat.mul 8 p)) 256
def bchk : List UInt8 → Nat → Bool
  | [], N => Nat.beq N 0
  | b :: l, N => Nat.beq b.toNat (Nat.mod N 256) && bchk l (Nat.div N 256)
def OKB (cc : ByteArray) (N s : Nat) : Prop := bchk cc.data.toList N = true ∧ cc.data.toList.length = s
theorem bt_0 (N : Nat) : bt N 0 = Nat.mod N 256 := rfl
theorem bt_s (N p : Nat) : bt N (p + 1) = bt (Nat.div N 256) p := by
  show (N >>> (8 * (p + 1))) % 256 = ((N / 256) >>> (8 * p)) % 256
  rw [Nat.shiftRight_eq_div_pow, Nat.shiftRight_eq_div_pow, Nat.div_div_eq_div_mul]
  have e : (2 : Nat) ^ (8 * (p + 1)) = 256 * 2 ^ (8 * p) := by rw [show 8 * (p + 1) = 8 + 8 * p from by omega, Nat.pow_add]; first | done | rfl
  rw [e]
theorem bchk_at : ∀ (l : List UInt8) (N p : Nat) (hp : p < l.length), bchk l N = true → (l[p]).toNat = bt N p
  | [], _, _, hp, _ => absurd hp (Nat.not_lt_zero _)
  | b :: l, N, 0, _, h => by
    have h1 := (Bool.and_eq_true_iff.mp h).1
    exact Nat.eq_of_beq_eq_true h1
  | b :: l, N, p + 1, hp, h => by
    have h2 := (Bool.and_eq_true_iff.mp h).2
    rw [bt_s]
    exact bchk_at l _ p (Nat.lt_of_succ_lt_succ hp) h2
theorem u1_bt {cc : ByteArray} {N s p v : Nat} (hX : OKB cc N s) (hb : bt N p = v) (hs : p < s) : (Jvm.ClassFile.Reader.u1 : Jvm.ClassFile.Decoder Nat) cc p = .ok (v, p + 1) := by
  have hp : p < cc.data.toList.length := by rw [hX.2]; exact hs
  have hq : p < cc.size := hp
  have e : (cc[p]).toNat = v := (bchk_at _ N p hp hX.1).trans hb
  show (if h : p < cc.size then (do set (p + 1); Pure.pure (cc[p]).toNat) else throw (Jvm.ClassFile.HasTruncated.truncated p) : Jvm.ClassFile.Decoder Nat) cc p = _
  rw [dif_pos hq]
  show Except.ok ((cc[p]).toNat, p + 1) = _
  rw [e]
theorem rd_bind {A B : Type} {r : Jvm.ClassFile.Decoder A} {f : A → Jvm.ClassFile.Decoder B} {cc : ByteArray} {p q : Nat} {a : A} (h : r cc p = .ok (a, q)) : (r >>= f) cc p = f a cc q := by
  show Except.bind (r cc p) _ = _
  rw [h]; rfl
theorem dc_of {cc : ByteArray} {pc pc' q n : Nat} {i : Instr} (h : Jvm.ClassFile.Decoder.instr pc cc pc = .ok (i, q)) (hn : q = pc + n) (hp : pc + n = pc') : dc cc pc pc' i n := by
  subst hn
  refine ⟨?_, hp⟩
  show Except.bind (Jvm.ClassFile.Decoder.instr pc cc pc) _ = _
  rw [h]
  show Except.ok (i, pc + n - pc) = _
  rw [Nat.add_sub_cancel_left]
theorem oA {cc : ByteArray} {N s pc pc' b : Nat} {i : Instr} {f : Nat → Jvm.ClassFile.Decoder Instr} (hf : Jvm.ClassFile.Decoder.instr pc = Jvm.ClassFile.Reader.u1 >>= f) (e : f b = Pure.pure i) (hX : OKB cc N s) (hb : bt N pc = b) (hs : Nat.ble (pc + 1) s = true) (hp : pc + 1 = pc') : dc cc pc pc' i 1 := by
  have l := Nat.le_of_ble_eq_true hs
  refine dc_of (q := pc + 1) ?_ rfl hp
  rw [hf, rd_bind (u1_bt hX hb (by omega)), e]; rfl
theorem oB {cc : ByteArray} {N s pc pc' b v : Nat} {K : Nat → Instr} {f : Nat → Jvm.ClassFile.Decoder Instr} (hf : Jvm.ClassFile.Decoder.instr pc = Jvm.ClassFile.Reader.u1 >>= f) (e : f b = Jvm.ClassFile.Reader.u1 >>= fun z => Pure.pure (K z)) (hX : OKB cc N s) (hb : bt N pc = b) (hs : Nat.ble (pc + 2) s = true) (hp : pc + 2 = pc') (h1 : bt N (pc + 1) = v) : dc cc pc pc' (K v) 2 := by
  have l := Nat.le_of_ble_eq_true hs
  refine dc_of (q := pc + 2) ?_ rfl hp
  rw [hf, rd_bind (u1_bt hX hb (by omega)), e, rd_bind (u1_bt hX h1 (by omega))]; rfl
theorem s1_bt {cc : ByteArray} {N s p : Nat} {v : Int} (hX : OKB cc N s) (hb : Jvm.ClassFile.Reader.signed 8 (bt N p) = v) (hs : p < s) : (Jvm.ClassFile.Reader.s1 : Jvm.ClassFile.Decoder Int) cc p = .ok (v, p + 1) := by
  show Except.bind ((Jvm.ClassFile.Reader.u1 : Jvm.ClassFile.Decoder Nat) cc p) (fun x => Except.ok (Jvm.ClassFile.Reader.signed 8 x.1, x.2)) = _
  rw [u1_bt hX rfl hs]
  show Except.ok (Jvm.ClassFile.Reader.signed 8 (bt N p), p + 1) = _
  rw [hb]
theorem u2_bt {cc : ByteArray} {N s p v : Nat} (hX : OKB cc N s) (hb : Nat.add (Nat.mul (bt N p) 256) (bt N (p + 1)) = v) (hs : p + 1 < s) : (Jvm.ClassFile.Reader.u2 : Jvm.ClassFile.Decoder Nat) cc p = .ok (v, p + 2) := by
  show ((Jvm.ClassFile.Reader.u1 : Jvm.ClassFile.Decoder Nat) >>= fun x => (Jvm.ClassFile.Reader.u1 : Jvm.ClassFile.Decoder Nat) >>= fun y => Pure.pure (x * 256 + y)) cc p = _
  rw [rd_bind (u1_bt hX rfl (by omega)), rd_bind (u1_bt hX rfl (by omega))]
  show Except.ok (Nat.add (Nat.mul (bt N p) 256) (bt N (p + 1)), p + 1 + 1) = _
  rw [hb]
theorem s2_bt {cc : ByteArray} {N s p : Nat} {v : Int} (hX : OKB cc N s) (hb : Jvm.ClassFile.Reader.signed 16 (Nat.add (Nat.mul (bt N p) 256) (bt N (p + 1))) = v) (hs : p + 1 < s) : (Jvm.ClassFile.Reader.s2 : Jvm.ClassFile.Decoder Int) cc p = .ok (v, p + 2) := by
  show Except.bind ((Jvm.ClassFile.Reader.u2 : Jvm.ClassFile.Decoder Nat) cc p) (fun x => Except.ok (Jvm.ClassFile.Reader.signed 16 x.1, x.2)) = _
  rw [u2_bt hX rfl hs]
  show Except.ok (Jvm.ClassFile.Reader.signed 16 (Nat.add (Nat.mul (bt N p) 256) (bt N (p + 1))), p + 2) = _
  rw [hb]
theorem oC {cc : ByteArray} {N s pc pc' b : Nat} {v : Int} {K : Int → Instr} {f : Nat → Jvm.ClassFile.Decoder Instr} (hf : Jvm.ClassFile.Decoder.instr pc = Jvm.ClassFile.Reader.u1 >>= f) (e : f b = Jvm.ClassFile.Reader.s1 >>= fun z => Pure.pure (K z)) (hX : OKB cc N s) (hb : bt N pc = b) (hs : Nat.ble (pc + 2) s = true) (hp : pc + 2 = pc') (h1 : Jvm.ClassFile.Reader.signed 8 (bt N (pc + 1)) = v) : dc cc pc pc' (K v) 2 := by
  have l := Nat.le_of_ble_eq_true hs
  refine dc_of (q := pc + 2) ?_ rfl hp
  rw [hf, rd_bind (u1_bt hX hb (by omega)), e, rd_bind (s1_bt hX h1 (by omega))]; rfl
theorem oD {cc : ByteArray} {N s pc pc' b v : Nat} {K : Nat → Instr} {f : Nat → Jvm.ClassFile.Decoder Instr} (hf : Jvm.ClassFile.Decoder.instr pc = Jvm.ClassFile.Reader.u1 >>= f) (e : f b = Jvm.ClassFile.Reader.u2 >>= fun z => Pure.pure (K z)) (hX : OKB cc N s) (hb : bt N pc = b) (hs : Nat.ble (pc + 3) s = true) (hp : pc + 3 = pc') (h1 : Nat.add (Nat.mul (bt N (pc + 1)) 256) (bt N (pc + 1 + 1)) = v) : dc cc pc pc' (K v) 3 := by
  have l := Nat.le_of_ble_eq_true hs
  refine dc_of (q := pc + 3) ?_ rfl hp
  rw [hf, rd_bind (u1_bt hX hb (by omega)), e, rd_bind (u2_bt hX h1 (by omega))]; rfl
theorem oE {cc : ByteArray} {N s pc pc' b : Nat} {v : Int} {K : Int → Instr} {f : Nat → Jvm.ClassFile.Decoder Instr} (hf : Jvm.ClassFile.Decoder.instr pc = Jvm.ClassFile.Reader.u1 >>= f) (e : f b = Jvm.ClassFile.Reader.s2 >>= fun z => Pure.pure (K z)) (hX : OKB cc N s) (hb : bt N pc = b) (hs : Nat.ble (pc + 3) s = true) (hp : pc + 3 = pc') (h1 : Jvm.ClassFile.Reader.signed 16 (Nat.add (Nat.mul (bt N (pc + 1)) 256) (bt N (pc + 1 + 1))) = v) : dc cc pc pc' (K v) 3 := by
  have l := Nat.le_of_ble_eq_true hs
  refine dc_of (q := pc + 3) ?_ rfl hp
  rw [hf, rd_bind (u1_bt hX hb (by omega)), e, rd_bind (s2_bt hX h1 (by omega))]; rfl
theorem oF {cc : ByteArray} {N s pc pc' b v : Nat} {w : Int} {K : Nat → Int → Instr} {f : Nat → Jvm.ClassFile.Decoder Instr} (hf : Jvm.ClassFile.Decoder.instr pc = Jvm.ClassFile.Reader.u1 >>= f) (e : f b = Jvm.ClassFile.Reader.u1 >>= fun z => Jvm.ClassFile.Reader.s1 >>= fun y => Pure.pure (K z y)) (hX : OKB cc N s) (hb : bt N pc = b) (hs : Nat.ble (pc + 3) s = true) (hp : pc + 3 = pc') (h1 : bt N (pc + 1) = v) (h2 : Jvm.ClassFile.Reader.signed 8 (bt N (pc + 1 + 1)) = w) : dc cc pc pc' (K v w) 3 := by
  have l := Nat.le_of_ble_eq_true hs
  refine dc_of (q := pc + 3) ?_ rfl hp
  rw [hf, rd_bind (u1_bt hX hb (by omega)), e, rd_bind (u1_bt hX h1 (by omega)), rd_bind (s1_bt hX h2 (by omega))]; rfl
theorem o_2 {cc : ByteArray} {N s pc pc' : Nat} (hX : OKB cc N s) (hb : bt N pc = 2) (hs : Nat.ble (pc + 1) s = true) (hp : pc + 1 = pc') : dc cc pc pc' (.iconst (-1)) 1 := oA rfl rfl hX hb hs hp
theorem o_3 {cc : ByteArray} {N s pc pc' : Nat} (hX : OKB cc N s) (hb : bt N pc = 3) (hs : Nat.ble (pc + 1) s = true) (hp : pc + 1 = pc') : dc cc pc pc' (.iconst 0) 1 := oA rfl rfl hX hb hs hp
theorem o_4 {cc : ByteArray} {N s pc pc' : Nat} (hX : OKB cc N s) (hb : bt N pc = 4) (hs : Nat.ble (pc + 1) s = true) (hp : pc + 1 = pc') : dc cc pc pc' (.iconst 1) 1 := oA rfl rfl hX hb hs hp
theorem o_5 {cc : ByteArray} {N s pc pc' : Nat} (hX : OKB cc N s) (hb : bt N pc = 5) (hs : Nat.ble (pc + 1) s = true) (hp : pc + 1 = pc') : dc cc pc pc' (.iconst 2) 1 := oA rfl rfl hX hb hs hp
theorem o_6 {cc : ByteArray} {N s pc pc' : Nat} (hX : OKB cc N s) (hb : bt N pc = 6) (hs : Nat.ble (pc + 1) s = true) (hp : pc + 1 = pc') : dc cc pc pc' (.iconst 3) 1 := oA rfl rfl hX hb hs hp
theorem o_7 {cc : ByteArray} {N s pc pc' : Nat} (hX : OKB cc N s) (hb : bt N pc = 7) (hs : Nat.ble (pc + 1) s = true) (hp : pc + 1 = pc') : dc cc pc pc' (.iconst 4) 1 := oA rfl rfl hX hb hs hp
theorem o_8 {cc : ByteArray} {N s pc pc' : Nat} (hX : OKB cc N s) (hb : bt N pc = 8) (hs : Nat.ble (pc + 1) s = true) (hp : pc + 1 = pc') : dc cc pc pc' (.iconst 5) 1 := oA rfl rfl hX hb hs hp
theorem o_9 {cc : ByteArray} {N s pc pc' : Nat} (hX : OKB cc N s) (hb : bt N pc = 9) (hs : Nat.ble (pc + 1) s = true) (hp : pc + 1 = pc') : dc cc pc pc' (.lconst 0) 1 := oA rfl rfl hX hb hs hp
theorem o_10 {cc : ByteArray} {N s pc pc' : Nat} (hX : OKB cc N s) (hb : bt N pc = 10) (hs : Nat.ble (pc + 1) s = true) (hp : pc + 1 = pc') : dc cc pc pc' (.lconst 1) 1 := oA rfl rfl hX hb hs hp
theorem o_16 {cc : ByteArray} {N s pc pc' : Nat} {v : Int} (hX : OKB cc N s) (hb : bt N pc = 16) (hs : Nat.ble (pc + 2) s = true) (hp : pc + 2 = pc') (h1 : Jvm.ClassFile.Reader.signed 8 (bt N (pc + 1)) = v) : dc cc pc pc' (.bipush v) 2 := oC (K := fun z => .bipush z) rfl rfl hX hb hs hp h1
theorem o_17 {cc : ByteArray} {N s pc pc' : Nat} {v : Int} (hX : OKB cc N s) (hb : bt N pc = 17) (hs : Nat.ble (pc + 3) s = true) (hp : pc + 3 = pc') (h1 : Jvm.ClassFile.Reader.signed 16 (Nat.add (Nat.mul (bt N (pc + 1)) 256) (bt N (pc + 1 + 1))) = v) : dc cc pc pc' (.sipush v) 3 := oE (K := fun z => .sipush z) rfl rfl hX hb hs hp h1
theorem o_18 {cc : ByteArray} {N s pc pc' : Nat} {v : Nat} (hX : OKB cc N s) (hb : bt N pc = 18) (hs : Nat.ble (pc + 2) s = true) (hp : pc + 2 = pc') (h1 : bt N (pc + 1) = v) : dc cc pc pc' (.ldc v) 2 := oB (K := fun z => .ldc z) rfl rfl hX hb hs hp h1
theorem o_19 {cc : ByteArray} {N s pc pc' : Nat} {v : Nat} (hX : OKB cc N s) (hb : bt N pc = 19) (hs : Nat.ble (pc + 3) s = true) (hp : pc + 3 = pc') (h1 : Nat.add (Nat.mul (bt N (pc + 1)) 256) (bt N (pc + 1 + 1)) = v) : dc cc pc pc' (.ldc_w v) 3 := oD (K := fun z => .ldc_w z) rfl rfl hX hb hs hp h1
theorem o_20 {cc : ByteArray} {N s pc pc' : Nat} {v : Nat} (hX : OKB cc N s) (hb : bt N pc = 20) (hs : Nat.ble (pc + 3) s = true) (hp : pc + 3 = pc') (h1 : Nat.add (Nat.mul (bt N (pc + 1)) 256) (bt N (pc + 1 + 1)) = v) : dc cc pc pc' (.ldc2_w v) 3 := oD (K := fun z => .ldc2_w z) rfl rfl hX hb hs hp h1
theorem o_21 {cc : ByteArray} {N s pc pc' : Nat} {v : Nat} (hX : OKB cc N s) (hb : bt N pc = 21) (hs : Nat.ble (pc + 2) s = true) (hp : pc + 2 = pc') (h1 : bt N (pc + 1) = v) : dc cc pc pc' (.iload v) 2 := oB (K := fun z => .iload z) rfl rfl hX hb hs hp h1
theorem o_22 {cc : ByteArray} {N s pc pc' : Nat} {v : Nat} (hX : OKB cc N s) (hb : bt N pc = 22) (hs : Nat.ble (pc + 2) s = true) (hp : pc + 2 = pc') (h1 : bt N (pc + 1) = v) : dc cc pc pc' (.lload v) 2 := oB (K := fun z => .lload z) rfl rfl hX hb hs hp h1
theorem o_25 {cc : ByteArray} {N s pc pc' : Nat} {v : Nat} (hX : OKB cc N s) (hb : bt N pc = 25) (hs : Nat.ble (pc + 2) s = true) (hp : pc + 2 = pc') (h1 : bt N (pc + 1) = v) : dc cc pc pc' (.aload v) 2 := oB (K := fun z => .aload z) rfl rfl hX hb hs hp h1
theorem o_26 {cc : ByteArray} {N s pc pc' : Nat} (hX : OKB cc N s) (hb : bt N pc = 26) (hs : Nat.ble (pc + 1) s = true) (hp : pc + 1 = pc') : dc cc pc pc' (.iload_n 0) 1 := oA rfl rfl hX hb hs hp
theorem o_27 {cc : ByteArray} {N s pc pc' : Nat} (hX : OKB cc N s) (hb : bt N pc = 27) (hs : Nat.ble (pc + 1) s = true) (hp : pc + 1 = pc') : dc cc pc pc' (.iload_n 1) 1 := oA rfl rfl hX hb hs hp
theorem o_28 {cc : ByteArray} {N s pc pc' : Nat} (hX : OKB cc N s) (hb : bt N pc = 28) (hs : Nat.ble (pc + 1) s = true) (hp : pc + 1 = pc') : dc cc pc pc' (.iload_n 2) 1 := oA rfl rfl hX hb hs hp
theorem o_29 {cc : ByteArray} {N s pc pc' : Nat} (hX : OKB cc N s) (hb : bt N pc = 29) (hs : Nat.ble (pc + 1) s = true) (hp : pc + 1 = pc') : dc cc pc pc' (.iload_n 3) 1 := oA rfl rfl hX hb hs hp
theorem o_30 {cc : ByteArray} {N s pc pc' : Nat} (hX : OKB cc N s) (hb : bt N pc = 30) (hs : Nat.ble (pc + 1) s = true) (hp : pc + 1 = pc') : dc cc pc pc' (.lload_n 0) 1 := oA rfl rfl hX hb hs hp
theorem o_31 {cc : ByteArray} {N s pc pc' : Nat} (hX : OKB cc N s) (hb : bt N pc = 31) (hs : Nat.ble (pc + 1) s = true) (hp : pc + 1 = pc') : dc cc pc pc' (.lload_n 1) 1 := oA rfl rfl hX hb hs hp
theorem o_32 {cc : ByteArray} {N s pc pc' : Nat} (hX : OKB cc N s) (hb : bt N pc = 32) (hs : Nat.ble (pc + 1) s = true) (hp : pc + 1 = pc') : dc cc pc pc' (.lload_n 2) 1 := oA rfl rfl hX hb hs hp
theorem o_33 {cc : ByteArray} {N s pc pc' : Nat} (hX : OKB cc N s) (hb : bt N pc = 33) (hs : Nat.ble (pc + 1) s = true) (hp : pc + 1 = pc') : dc cc pc pc' (.lload_n 3) 1 := oA rfl rfl hX hb hs hp
theorem o_42 {cc : ByteArray} {N s pc pc' : Nat} (hX : OKB cc N s) (hb : bt N pc = 42) (hs : Nat.ble (pc + 1) s = true) (hp : pc + 1 = pc') : dc cc pc pc' (.aload_n 0) 1 := oA rfl rfl hX hb hs hp
theorem o_43 {cc : ByteArray} {N s pc pc' : Nat} (hX : OKB cc N s) (hb : bt N pc = 43) (hs : Nat.ble (pc + 1) s = true) (hp : pc + 1 = pc') : dc cc pc pc' (.aload_n 1) 1 := oA rfl rfl hX hb hs hp
theorem o_44 {cc : ByteArray} {N s pc pc' : Nat} (hX : OKB cc N s) (hb : bt N pc = 44) (hs : Nat.ble (pc + 1) s = true) (hp : pc + 1 = pc') : dc cc pc pc' (.aload_n 2) 1 := oA rfl rfl hX hb hs hp
theorem o_45 {cc : ByteArray} {N s pc pc' : Nat} (hX : OKB cc N s) (hb : bt N pc = 45) (hs : Nat.ble (pc + 1) s = true) (hp : pc + 1 = pc') : dc cc pc pc' (.aload_n 3) 1 := oA rfl rfl hX hb hs hp
theorem o_46 {cc : ByteArray} {N s pc pc' : Nat} (hX : OKB cc N s) (hb : bt N pc = 46) (hs : Nat.ble (pc + 1) s = true) (hp : pc + 1 = pc') : dc cc pc pc' (.iaload) 1 := oA rfl rfl hX hb hs hp
theorem o_47 {cc : ByteArray} {N s pc pc' : Nat} (hX : OKB cc N s) (hb : bt N pc = 47) (hs : Nat.ble (pc + 1) s = true) (hp : pc + 1 = pc') : dc cc pc pc' (.laload) 1 := oA rfl rfl hX hb hs hp
theorem o_51 {cc : ByteArray} {N s pc pc' : Nat} (hX : OKB cc N s) (hb : bt N pc = 51) (hs : Nat.ble (pc + 1) s = true) (hp : pc + 1 = pc') : dc cc pc pc' (.baload) 1 := oA rfl rfl hX hb hs hp
theorem o_54 {cc : ByteArray} {N s pc pc' : Nat} {v : Nat} (hX : OKB cc N s) (hb : bt N pc = 54) (hs : Nat.ble (pc + 2) s = true) (hp : pc + 2 = pc') (h1 : bt N (pc + 1) = v) : dc cc pc pc' (.istore v) 2 := oB (K := fun z => .istore z) rfl rfl hX hb hs hp h1
theorem o_55 {cc : ByteArray} {N s pc pc' : Nat} {v : Nat} (hX : OKB cc N s) (hb : bt N pc = 55) (hs : Nat.ble (pc + 2) s = true) (hp : pc + 2 = pc') (h1 : bt N (pc + 1) = v) : dc cc pc pc' (.lstore v) 2 := oB (K := fun z => .lstore z) rfl rfl hX hb hs hp h1
theorem o_58 {cc : ByteArray} {N s pc pc' : Nat} {v : Nat} (hX : OKB cc N s) (hb : bt N pc = 58) (hs : Nat.ble (pc + 2) s = true) (hp : pc + 2 = pc') (h1 : bt N (pc + 1) = v) : dc cc pc pc' (.astore v) 2 := oB (K := fun z => .astore z) rfl rfl hX hb hs hp h1
theorem o_59 {cc : ByteArray} {N s pc pc' : Nat} (hX : OKB cc N s) (hb : bt N pc = 59) (hs : Nat.ble (pc + 1) s = true) (hp : pc + 1 = pc') : dc cc pc pc' (.istore_n 0) 1 := oA rfl rfl hX hb hs hp
theorem o_60 {cc : ByteArray} {N s pc pc' : Nat} (hX : OKB cc N s) (hb : bt N pc = 60) (hs : Nat.ble (pc + 1) s = true) (hp : pc + 1 = pc') : dc cc pc pc' (.istore_n 1) 1 := oA rfl rfl hX hb hs hp
theorem o_61 {cc : ByteArray} {N s pc pc' : Nat} (hX : OKB cc N s) (hb : bt N pc = 61) (hs : Nat.ble (pc + 1) s = true) (hp : pc + 1 = pc') : dc cc pc pc' (.istore_n 2) 1 := oA rfl rfl hX hb hs hp
theorem o_62 {cc : ByteArray} {N s pc pc' : Nat} (hX : OKB cc N s) (hb : bt N pc = 62) (hs : Nat.ble (pc + 1) s = true) (hp : pc + 1 = pc') : dc cc pc pc' (.istore_n 3) 1 := oA rfl rfl hX hb hs hp
theorem o_64 {cc : ByteArray} {N s pc pc' : Nat} (hX : OKB cc N s) (hb : bt N pc = 64) (hs : Nat.ble (pc + 1) s = true) (hp : pc + 1 = pc') : dc cc pc pc' (.lstore_n 1) 1 := oA rfl rfl hX hb hs hp
theorem o_65 {cc : ByteArray} {N s pc pc' : Nat} (hX : OKB cc N s) (hb : bt N pc = 65) (hs : Nat.ble (pc + 1) s = true) (hp : pc + 1 = pc') : dc cc pc pc' (.lstore_n 2) 1 := oA rfl rfl hX hb hs hp
theorem o_66 {cc : ByteArray} {N s pc pc' : Nat} (hX : OKB cc N s) (hb : bt N pc = 66) (hs : Nat.ble (pc + 1) s = true) (hp : pc + 1 = pc') : dc cc pc pc' (.lstore_n 3) 1 := oA rfl rfl hX hb hs hp
theorem o_76 {cc : ByteArray} {N s pc pc' : Nat} (hX : OKB cc N s) (hb : bt N pc = 76) (hs : Nat.ble (pc + 1) s = true) (hp : pc + 1 = pc') : dc cc pc pc' (.astore_n 1) 1 := oA rfl rfl hX hb hs hp
theorem o_77 {cc : ByteArray} {N s pc pc' : Nat} (hX : OKB cc N s) (hb : bt N pc = 77) (hs : Nat.ble (pc + 1) s = true) (hp : pc + 1 = pc') : dc cc pc pc' (.astore_n 2) 1 := oA rfl rfl hX hb hs hp
theorem o_78 {cc : ByteArray} {N s pc pc' : Nat} (hX : OKB cc N s) (hb : bt N pc = 78) (hs : Nat.ble (pc + 1) s = true) (hp : pc + 1 = pc') : dc cc pc pc' (.astore_n 3) 1 := oA rfl rfl hX hb hs hp
theorem o_79 {cc : ByteArray} {N s pc pc' : Nat} (hX : OKB cc N s) (hb : bt N pc = 79) (hs : Nat.ble (pc + 1) s = true) (hp : pc + 1 = pc') : dc cc pc pc' (.iastore) 1 := oA rfl rfl hX hb hs hp
theorem o_80 {cc : ByteArray} {N s pc pc' : Nat} (hX : OKB cc N s) (hb : bt N pc = 80) (hs : Nat.ble (pc + 1) s = true) (hp : pc + 1 = pc') : dc cc pc pc' (.lastore) 1 := oA rfl rfl hX hb hs hp
theorem o_84 {cc : ByteArray} {N s pc pc' : Nat} (hX : OKB cc N s) (hb : bt N pc = 84) (hs : Nat.ble (pc + 1) s = true) (hp : pc + 1 = pc') : dc cc pc pc' (.bastore) 1 := oA rfl rfl hX hb hs hp
theorem o_87 {cc : ByteArray} {N s pc pc' : Nat} (hX : OKB cc N s) (hb : bt N pc = 87) (hs : Nat.ble (pc + 1) s = true) (hp : pc + 1 = pc') : dc cc pc pc' (.pop) 1 := oA rfl rfl hX hb hs hp
theorem o_89 {cc : ByteArray} {N s pc pc' : Nat} (hX : OKB cc N s) (hb : bt N pc = 89) (hs : Nat.ble (pc + 1) s = true) (hp : pc + 1 = pc') : dc cc pc pc' (.dup) 1 := oA rfl rfl hX hb hs hp
theorem o_92 {cc : ByteArray} {N s pc pc' : Nat} (hX : OKB cc N s) (hb : bt N pc = 92) (hs : Nat.ble (pc + 1) s = true) (hp : pc + 1 = pc') : dc cc pc pc' (.dup2) 1 := oA rfl rfl hX hb hs hp
theorem o_96 {cc : ByteArray} {N s pc pc' : Nat} (hX : OKB cc N s) (hb : bt N pc = 96) (hs : Nat.ble (pc + 1) s = true) (hp : pc + 1 = pc') : dc cc pc pc' (.iadd) 1 := oA rfl rfl hX hb hs hp
theorem o_97 {cc : ByteArray} {N s pc pc' : Nat} (hX : OKB cc N s) (hb : bt N pc = 97) (hs : Nat.ble (pc + 1) s = true) (hp : pc + 1 = pc') : dc cc pc pc' (.ladd) 1 := oA rfl rfl hX hb hs hp
theorem o_100 {cc : ByteArray} {N s pc pc' : Nat} (hX : OKB cc N s) (hb : bt N pc = 100) (hs : Nat.ble (pc + 1) s = true) (hp : pc + 1 = pc') : dc cc pc pc' (.isub) 1 := oA rfl rfl hX hb hs hp
theorem o_101 {cc : ByteArray} {N s pc pc' : Nat} (hX : OKB cc N s) (hb : bt N pc = 101) (hs : Nat.ble (pc + 1) s = true) (hp : pc + 1 = pc') : dc cc pc pc' (.lsub) 1 := oA rfl rfl hX hb hs hp
theorem o_104 {cc : ByteArray} {N s pc pc' : Nat} (hX : OKB cc N s) (hb : bt N pc = 104) (hs : Nat.ble (pc + 1) s = true) (hp : pc + 1 = pc') : dc cc pc pc' (.imul) 1 := oA rfl rfl hX hb hs hp
theorem o_105 {cc : ByteArray} {N s pc pc' : Nat} (hX : OKB cc N s) (hb : bt N pc = 105) (hs : Nat.ble (pc + 1) s = true) (hp : pc + 1 = pc') : dc cc pc pc' (.lmul) 1 := oA rfl rfl hX hb hs hp
theorem o_108 {cc : ByteArray} {N s pc pc' : Nat} (hX : OKB cc N s) (hb : bt N pc = 108) (hs : Nat.ble (pc + 1) s = true) (hp : pc + 1 = pc') : dc cc pc pc' (.idiv) 1 := oA rfl rfl hX hb hs hp
theorem o_109 {cc : ByteArray} {N s pc pc' : Nat} (hX : OKB cc N s) (hb : bt N pc = 109) (hs : Nat.ble (pc + 1) s = true) (hp : pc + 1 = pc') : dc cc pc pc' (.ldiv) 1 := oA rfl rfl hX hb hs hp
theorem o_112 {cc : ByteArray} {N s pc pc' : Nat} (hX : OKB cc N s) (hb : bt N pc = 112) (hs : Nat.ble (pc + 1) s = true) (hp : pc + 1 = pc') : dc cc pc pc' (.irem) 1 := oA rfl rfl hX hb hs hp
theorem o_113 {cc : ByteArray} {N s pc pc' : Nat} (hX : OKB cc N s) (hb : bt N pc = 113) (hs : Nat.ble (pc + 1) s = true) (hp : pc + 1 = pc') : dc cc pc pc' (.lrem) 1 := oA rfl rfl hX hb hs hp
theorem o_116 {cc : ByteArray} {N s pc pc' : Nat} (hX : OKB cc N s) (hb : bt N pc = 116) (hs : Nat.ble (pc + 1) s = true) (hp : pc + 1 = pc') : dc cc pc pc' (.ineg) 1 := oA rfl rfl hX hb hs hp
theorem o_117 {cc : ByteArray} {N s pc pc' : Nat} (hX : OKB cc N s) (hb : bt N pc = 117) (hs : Nat.ble (pc + 1) s = true) (hp : pc + 1 = pc') : dc cc pc pc' (.lneg) 1 := oA rfl rfl hX hb hs hp
theorem o_120 {cc : ByteArray} {N s pc pc' : Nat} (hX : OKB cc N s) (hb : bt N pc = 120) (hs : Nat.ble (pc + 1) s = true) (hp : pc + 1 = pc') : dc cc pc pc' (.ishl) 1 := oA rfl rfl hX hb hs hp
theorem o_122 {cc : ByteArray} {N s pc pc' : Nat} (hX : OKB cc N s) (hb : bt N pc = 122) (hs : Nat.ble (pc + 1) s = true) (hp : pc + 1 = pc') : dc cc pc pc' (.ishr) 1 := oA rfl rfl hX hb hs hp
theorem o_124 {cc : ByteArray} {N s pc pc' : Nat} (hX : OKB cc N s) (hb : bt N pc = 124) (hs : Nat.ble (pc + 1) s = true) (hp : pc + 1 = pc') : dc cc pc pc' (.iushr) 1 := oA rfl rfl hX hb hs hp
theorem o_126 {cc : ByteArray} {N s pc pc' : Nat} (hX : OKB cc N s) (hb : bt N pc = 126) (hs : Nat.ble (pc + 1) s = true) (hp : pc + 1 = pc') : dc cc pc pc' (.iand) 1 := oA rfl rfl hX hb hs hp
theorem o_128 {cc : ByteArray} {N s pc pc' : Nat} (hX : OKB cc N s) (hb : bt N pc = 128) (hs : Nat.ble (pc + 1) s = true) (hp : pc + 1 = pc') : dc cc pc pc' (.ior) 1 := oA rfl rfl hX hb hs hp
theorem o_130 {cc : ByteArray} {N s pc pc' : Nat} (hX : OKB cc N s) (hb : bt N pc = 130) (hs : Nat.ble (pc + 1) s = true) (hp : pc + 1 = pc') : dc cc pc pc' (.ixor) 1 := oA rfl rfl hX hb hs hp
theorem o_131 {cc : ByteArray} {N s pc pc' : Nat} (hX : OKB cc N s) (hb : bt N pc = 131) (hs : Nat.ble (pc + 1) s = true) (hp : pc + 1 = pc') : dc cc pc pc' (.lxor) 1 := oA rfl rfl hX hb hs hp
theorem o_132 {cc : ByteArray} {N s pc pc' : Nat} {v : Nat} {w : Int} (hX : OKB cc N s) (hb : bt N pc = 132) (hs : Nat.ble (pc + 3) s = true) (hp : pc + 3 = pc') (h1 : bt N (pc + 1) = v) (h2 : Jvm.ClassFile.Reader.signed 8 (bt N (pc + 1 + 1)) = w) : dc cc pc pc' (.iinc v w) 3 := oF (K := fun z y => .iinc z y) rfl rfl hX hb hs hp h1 h2
theorem o_133 {cc : ByteArray} {N s pc pc' : Nat} (hX : OKB cc N s) (hb : bt N pc = 133) (hs : Nat.ble (pc + 1) s = true) (hp : pc + 1 = pc') : dc cc pc pc' (.i2l) 1 := oA rfl rfl hX hb hs hp
theorem o_136 {cc : ByteArray} {N s pc pc' : Nat} (hX : OKB cc N s) (hb : bt N pc = 136) (hs : Nat.ble (pc + 1) s = true) (hp : pc + 1 = pc') : dc cc pc pc' (.l2i) 1 := oA rfl rfl hX hb hs hp
theorem o_145 {cc : ByteArray} {N s pc pc' : Nat} (hX : OKB cc N s) (hb : bt N pc = 145) (hs : Nat.ble (pc + 1) s = true) (hp : pc + 1 = pc') : dc cc pc pc' (.i2b) 1 := oA rfl rfl hX hb hs hp
theorem o_146 {cc : ByteArray} {N s pc pc' : Nat} (hX : OKB cc N s) (hb : bt N pc = 146) (hs : Nat.ble (pc + 1) s = true) (hp : pc + 1 = pc') : dc cc pc pc' (.i2c) 1 := oA rfl rfl hX hb hs hp
theorem o_148 {cc : ByteArray} {N s pc pc' : Nat} (hX : OKB cc N s) (hb : bt N pc = 148) (hs : Nat.ble (pc + 1) s = true) (hp : pc + 1 = pc') : dc cc pc pc' (.lcmp) 1 := oA rfl rfl hX hb hs hp
theorem o_153 {cc : ByteArray} {N s pc pc' : Nat} {v : Int} (hX : OKB cc N s) (hb : bt N pc = 153) (hs : Nat.ble (pc + 3) s = true) (hp : pc + 3 = pc') (h1 : Jvm.ClassFile.Reader.signed 16 (Nat.add (Nat.mul (bt N (pc + 1)) 256) (bt N (pc + 1 + 1))) = v) : dc cc pc pc' (.ifCond .eq v) 3 := oE (K := fun z => .ifCond .eq z) rfl rfl hX hb hs hp h1
theorem o_154 {cc : ByteArray} {N s pc pc' : Nat} {v : Int} (hX : OKB cc N s) (hb : bt N pc = 154) (hs : Nat.ble (pc + 3) s = true) (hp : pc + 3 = pc') (h1 : Jvm.ClassFile.Reader.signed 16 (Nat.add (Nat.mul (bt N (pc + 1)) 256) (bt N (pc + 1 + 1))) = v) : dc cc pc pc' (.ifCond .ne v) 3 := oE (K := fun z => .ifCond .ne z) rfl rfl hX hb hs hp h1
theorem o_155 {cc : ByteArray} {N s pc pc' : Nat} {v : Int} (hX : OKB cc N s) (hb : bt N pc = 155) (hs : Nat.ble (pc + 3) s = true) (hp : pc + 3 = pc') (h1 : Jvm.ClassFile.Reader.signed 16 (Nat.add (Nat.mul (bt N (pc + 1)) 256) (bt N (pc + 1 + 1))) = v) : dc cc pc pc' (.ifCond .lt v) 3 := oE (K := fun z => .ifCond .lt z) rfl rfl hX hb hs hp h1
theorem o_156 {cc : ByteArray} {N s pc pc' : Nat} {v : Int} (hX : OKB cc N s) (hb : bt N pc = 156) (hs : Nat.ble (pc + 3) s = true) (hp : pc + 3 = pc') (h1 : Jvm.ClassFile.Reader.signed 16 (Nat.add (Nat.mul (bt N (pc + 1)) 256) (bt N (pc + 1 + 1))) = v) : dc cc pc pc' (.ifCond .ge v) 3 := oE (K := fun z => .ifCond .ge z) rfl rfl hX hb hs hp h1
theorem o_157 {cc : ByteArray} {N s pc pc' : Nat} {v : Int} (hX : OKB cc N s) (hb : bt N pc = 157) (hs : Nat.ble (pc + 3) s = true) (hp : pc + 3 = pc') (h1 : Jvm.ClassFile.Reader.signed 16 (Nat.add (Nat.mul (bt N (pc + 1)) 256) (bt N (pc + 1 + 1))) = v) : dc cc pc pc' (.ifCond .gt v) 3 := oE (K := fun z => .ifCond .gt z) rfl rfl hX hb hs hp h1
theorem o_158 {cc : ByteArray} {N s pc pc' : Nat} {v : Int} (hX : OKB cc N s) (hb : bt N pc = 158) (hs : Nat.ble (pc + 3) s = true) (hp : pc + 3 = pc') (h1 : Jvm.ClassFile.Reader.signed 16 (Nat.add (Nat.mul (bt N (pc + 1)) 256) (bt N (pc + 1 + 1))) = v) : dc cc pc pc' (.ifCond .le v) 3 := oE (K := fun z => .ifCond .le z) rfl rfl hX hb hs hp h1
theorem o_159 {cc : ByteArray} {N s pc pc' : Nat} {v : Int} (hX : OKB cc N s) (hb : bt N pc = 159) (hs : Nat.ble (pc + 3) s = true) (hp : pc + 3 = pc') (h1 : Jvm.ClassFile.Reader.signed 16 (Nat.add (Nat.mul (bt N (pc + 1)) 256) (bt N (pc + 1 + 1))) = v) : dc cc pc pc' (.if_icmp .eq v) 3 := oE (K := fun z => .if_icmp .eq z) rfl rfl hX hb hs hp h1
theorem o_160 {cc : ByteArray} {N s pc pc' : Nat} {v : Int} (hX : OKB cc N s) (hb : bt N pc = 160) (hs : Nat.ble (pc + 3) s = true) (hp : pc + 3 = pc') (h1 : Jvm.ClassFile.Reader.signed 16 (Nat.add (Nat.mul (bt N (pc + 1)) 256) (bt N (pc + 1 + 1))) = v) : dc cc pc pc' (.if_icmp .ne v) 3 := oE (K := fun z => .if_icmp .ne z) rfl rfl hX hb hs hp h1
theorem o_161 {cc : ByteArray} {N s pc pc' : Nat} {v : Int} (hX : OKB cc N s) (hb : bt N pc = 161) (hs : Nat.ble (pc + 3) s = true) (hp : pc + 3 = pc') (h1 : Jvm.ClassFile.Reader.signed 16 (Nat.add (Nat.mul (bt N (pc + 1)) 256) (bt N (pc + 1 + 1))) = v) : dc cc pc pc' (.if_icmp .lt v) 3 := oE (K := fun z => .if_icmp .lt z) rfl rfl hX hb hs hp h1
theorem o_162 {cc : ByteArray} {N s pc pc' : Nat} {v : Int} (hX : OKB cc N s) (hb : bt N pc = 162) (hs : Nat.ble (pc + 3) s = true) (hp : pc + 3 = pc') (h1 : Jvm.ClassFile.Reader.signed 16 (Nat.add (Nat.mul (bt N (pc + 1)) 256) (bt N (pc + 1 + 1))) = v) : dc cc pc pc' (.if_icmp .ge v) 3 := oE (K := fun z => .if_icmp .ge z) rfl rfl hX hb hs hp h1
theorem o_163 {cc : ByteArray} {N s pc pc' : Nat} {v : Int} (hX : OKB cc N s) (hb : bt N pc = 163) (hs : Nat.ble (pc + 3) s = true) (hp : pc + 3 = pc') (h1 : Jvm.ClassFile.Reader.signed 16 (Nat.add (Nat.mul (bt N (pc + 1)) 256) (bt N (pc + 1 + 1))) = v) : dc cc pc pc' (.if_icmp .gt v) 3 := oE (K := fun z => .if_icmp .gt z) rfl rfl hX hb hs hp h1
theorem o_164 {cc : ByteArray} {N s pc pc' : Nat} {v : Int} (hX : OKB cc N s) (hb : bt N pc = 164) (hs : Nat.ble (pc + 3) s = true) (hp : pc + 3 = pc') (h1 : Jvm.ClassFile.Reader.signed 16 (Nat.add (Nat.mul (bt N (pc + 1)) 256) (bt N (pc + 1 + 1))) = v) : dc cc pc pc' (.if_icmp .le v) 3 := oE (K := fun z => .if_icmp .le z) rfl rfl hX hb hs hp h1
theorem o_167 {cc : ByteArray} {N s pc pc' : Nat} {v : Int} (hX : OKB cc N s) (hb : bt N pc = 167) (hs : Nat.ble (pc + 3) s = true) (hp : pc + 3 = pc') (h1 : Jvm.ClassFile.Reader.signed 16 (Nat.add (Nat.mul (bt N (pc + 1)) 256) (bt N (pc + 1 + 1))) = v) : dc cc pc pc' (.goto v) 3 := oE (K := fun z => .goto z) rfl rfl hX hb hs hp h1
theorem o_172 {cc : ByteArray} {N s pc pc' : Nat} (hX : OKB cc N s) (hb : bt N pc = 172) (hs : Nat.ble (pc + 1) s = true) (hp : pc + 1 = pc') : dc cc pc pc' (.ireturn) 1 := oA rfl rfl hX hb hs hp
theorem o_173 {cc : ByteArray} {N s pc pc' : Nat} (hX : OKB cc N s) (hb : bt N pc = 173) (hs : Nat.ble (pc + 1) s = true) (hp : pc + 1 = pc') : dc cc pc pc' (.lreturn) 1 := oA rfl rfl hX hb hs hp
theorem o_177 {cc : ByteArray} {N s pc pc' : Nat} (hX : OKB cc N s) (hb : bt N pc = 177) (hs : Nat.ble (pc + 1) s = true) (hp : pc + 1 = pc') : dc cc pc pc' (.return_) 1 := oA rfl rfl hX hb hs hp
theorem o_178 {cc : ByteArray} {N s pc pc' : Nat} {v : Nat} (hX : OKB cc N s) (hb : bt N pc = 178) (hs : Nat.ble (pc + 3) s = true) (hp : pc + 3 = pc') (h1 : Nat.add (Nat.mul (bt N (pc + 1)) 256) (bt N (pc + 1 + 1)) = v) : dc cc pc pc' (.getstatic v) 3 := oD (K := fun z => .getstatic z) rfl rfl hX hb hs hp h1
theorem o_180 {cc : ByteArray} {N s pc pc' : Nat} {v : Nat} (hX : OKB cc N s) (hb : bt N pc = 180) (hs : Nat.ble (pc + 3) s = true) (hp : pc + 3 = pc') (h1 : Nat.add (Nat.mul (bt N (pc + 1)) 256) (bt N (pc + 1 + 1)) = v) : dc cc pc pc' (.getfield v) 3 := oD (K := fun z => .getfield z) rfl rfl hX hb hs hp h1
theorem o_181 {cc : ByteArray} {N s pc pc' : Nat} {v : Nat} (hX : OKB cc N s) (hb : bt N pc = 181) (hs : Nat.ble (pc + 3) s = true) (hp : pc + 3 = pc') (h1 : Nat.add (Nat.mul (bt N (pc + 1)) 256) (bt N (pc + 1 + 1)) = v) : dc cc pc pc' (.putfield v) 3 := oD (K := fun z => .putfield z) rfl rfl hX hb hs hp h1
theorem o_182 {cc : ByteArray} {N s pc pc' : Nat} {v : Nat} (hX : OKB cc N s) (hb : bt N pc = 182) (hs : Nat.ble (pc + 3) s = true) (hp : pc + 3 = pc') (h1 : Nat.add (Nat.mul (bt N (pc + 1)) 256) (bt N (pc + 1 + 1)) = v) : dc cc pc pc' (.invokevirtual v) 3 := oD (K := fun z => .invokevirtual z) rfl rfl hX hb hs hp h1
theorem o_183 {cc : ByteArray} {N s pc pc' : Nat} {v : Nat} (hX : OKB cc N s) (hb : bt N pc = 183) (hs : Nat.ble (pc + 3) s = true) (hp : pc + 3 = pc') (h1 : Nat.add (Nat.mul (bt N (pc + 1)) 256) (bt N (pc + 1 + 1)) = v) : dc cc pc pc' (.invokespecial v) 3 := oD (K := fun z => .invokespecial z) rfl rfl hX hb hs hp h1
theorem o_184 {cc : ByteArray} {N s pc pc' : Nat} {v : Nat} (hX : OKB cc N s) (hb : bt N pc = 184) (hs : Nat.ble (pc + 3) s = true) (hp : pc + 3 = pc') (h1 : Nat.add (Nat.mul (bt N (pc + 1)) 256) (bt N (pc + 1 + 1)) = v) : dc cc pc pc' (.invokestatic v) 3 := oD (K := fun z => .invokestatic z) rfl rfl hX hb hs hp h1
theorem o_187 {cc : ByteArray} {N s pc pc' : Nat} {v : Nat} (hX : OKB cc N s) (hb : bt N pc = 187) (hs : Nat.ble (pc + 3) s = true) (hp : pc + 3 = pc') (h1 : Nat.add (Nat.mul (bt N (pc + 1)) 256) (bt N (pc + 1 + 1)) = v) : dc cc pc pc' (.new v) 3 := oD (K := fun z => .new z) rfl rfl hX hb hs hp h1
theorem o_190 {cc : ByteArray} {N s pc pc' : Nat} (hX : OKB cc N s) (hb : bt N pc = 190) (hs : Nat.ble (pc + 1) s = true) (hp : pc + 1 = pc') : dc cc pc pc' (.arraylength) 1 := oA rfl rfl hX hb hs hp
theorem o_191 {cc : ByteArray} {N s pc pc' : Nat} (hX : OKB cc N s) (hb : bt N pc = 191) (hs : Nat.ble (pc + 1) s = true) (hp : pc + 1 = pc') : dc cc pc pc' (.athrow) 1 := oA rfl rfl hX hb hs hp
def irm (x y : Int32) : Int32 := x - x / y * y
def lrm (x y : Int64) : Int64 := x - x / y * y
def ush (x y : Int32) : Int32 := (x.toUInt32 >>> (y.toUInt32 &&& Int32.toUInt32 31)).toInt32
section G0
variable {p : Program} {l : Launch} {e : Env} {R : Room} {s : State} {m : MethodId} {args : Array Value} {below : List Frame} {meth : Method} {c : Code} {g : GB} {nL : Nat} {Q : State → Prop} {cells slots : Nat}
variable {cc : ByteArray} {own : String} {pc pc' : Nat} {lv lv' : List (Nat × Value)} {rest : List Value} {M : Mem}
theorem G_iconst {n : Int} {v : Int32} (hv : Int32.ofInt n = v) (K : KF p l s m args meth c g cc nL own) (d : dc cc pc pc' (.iconst n) 1) (k : GG p l e R s m args below meth c g nL Q cells slots pc' lv (.int v :: rest) M) : GG p l e R s m args below meth c g nL Q cells slots pc lv (rest) M := by
  obtain ⟨d, rfl⟩ := d
  exact fun H locs ls hP hS hl => lv_iconst K.1.1 K.1.2.1 d hv (k H locs ls hP hS hl)
theorem G_bipush {n : Int} {v : Int32} (hv : (Int8.ofInt n).toInt32 = v) (K : KF p l s m args meth c g cc nL own) (d : dc cc pc pc' (.bipush n) 2) (k : GG p l e R s m args below meth c g nL Q cells slots pc' lv (.int v :: rest) M) : GG p l e R s m args below meth c g nL Q cells slots pc lv (rest) M := by
  obtain ⟨d, rfl⟩ := d
  exact fun H locs ls hP hS hl => lv_bipush K.1.1 K.1.2.1 d hv (k H locs ls hP hS hl)
theorem G_sipush {n : Int} {v : Int32} (hv : (Int16.ofInt n).toInt32 = v) (K : KF p l s m args meth c g cc nL own) (d : dc cc pc pc' (.sipush n) 3) (k : GG p l e R s m args below meth c g nL Q cells slots pc' lv (.int v :: rest) M) : GG p l e R s m args below meth c g nL Q cells slots pc lv (rest) M := by
  obtain ⟨d, rfl⟩ := d
  exact fun H locs ls hP hS hl => lv_sipush K.1.1 K.1.2.1 d hv (k H locs ls hP hS hl)
theorem G_lconst {n : Fin 2} {v : Int64} (hv : Int64.ofNat (n : Nat) = v) (K : KF p l s m args meth c g cc nL own) (d : dc cc pc pc' (.lconst n) 1) (k : GG p l e R s m args below meth c g nL Q cells slots pc' lv (.long v :: rest) M) : GG p l e R s m args below meth c g nL Q cells slots pc lv (rest) M := by
  obtain ⟨d, rfl⟩ := d
  exact fun H locs ls hP hS hl => lv_lconst K.1.1 K.1.2.1 d hv (k H locs ls hP hS hl)
theorem G_iload_n {k : Fin 4} {i : Nat} {x : Int32} (hi : (k : Nat) = i) (q : Nat) (hq : lv[q]? = some (i, .int x)) (K : KF p l s m args meth c g cc nL own) (d : dc cc pc pc' (.iload_n k) 1) (k : GG p l e R s m args below meth c g nL Q cells slots pc' lv (.int x :: rest) M) : GG p l e R s m args below meth c g nL Q cells slots pc lv (rest) M := by
  obtain ⟨d, rfl⟩ := d
  exact fun H locs ls hP hS hl => lv_iload_n K.1.1 K.1.2.1 d hi (lv_at hl q hq) (k H locs ls hP hS hl)
theorem G_iload {i : Nat} {x : Int32} (q : Nat) (hq : lv[q]? = some (i, .int x)) (K : KF p l s m args meth c g cc nL own) (d : dc cc pc pc' (.iload i) 2) (k : GG p l e R s m args below meth c g nL Q cells slots pc' lv (.int x :: rest) M) : GG p l e R s m args below meth c g nL Q cells slots pc lv (rest) M := by
  obtain ⟨d, rfl⟩ := d
  exact fun H locs ls hP hS hl => lv_iload K.1.1 K.1.2.1 d (lv_at hl q hq) (k H locs ls hP hS hl)
theorem G_lload_n {k : Fin 4} {i : Nat} {x : Int64} (hi : (k : Nat) = i) (q : Nat) (hq : lv[q]? = some (i, .long x)) (K : KF p l s m args meth c g cc nL own) (d : dc cc pc pc' (.lload_n k) 1) (k : GG p l e R s m args below meth c g nL Q cells slots pc' lv (.long x :: rest) M) : GG p l e R s m args below meth c g nL Q cells slots pc lv (rest) M := by
  obtain ⟨d, rfl⟩ := d
  exact fun H locs ls hP hS hl => lv_lload_n K.1.1 K.1.2.1 d hi (lv_at hl q hq) (k H locs ls hP hS hl)
theorem G_lload {i : Nat} {x : Int64} (q : Nat) (hq : lv[q]? = some (i, .long x)) (K : KF p l s m args meth c g cc nL own) (d : dc cc pc pc' (.lload i) 2) (k : GG p l e R s m args below meth c g nL Q cells slots pc' lv (.long x :: rest) M) : GG p l e R s m args below meth c g nL Q cells slots pc lv (rest) M := by
  obtain ⟨d, rfl⟩ := d
  exact fun H locs ls hP hS hl => lv_lload K.1.1 K.1.2.1 d (lv_at hl q hq) (k H locs ls hP hS hl)
theorem G_aload_n {k : Fin 4} {i : Nat} {x : Nat} (hi : (k : Nat) = i) (q : Nat) (hq : lv[q]? = some (i, .ref x)) (K : KF p l s m args meth c g cc nL own) (d : dc cc pc pc' (.aload_n k) 1) (k : GG p l e R s m args below meth c g nL Q cells slots pc' lv (.ref x :: rest) M) : GG p l e R s m args below meth c g nL Q cells slots pc lv (rest) M := by
  obtain ⟨d, rfl⟩ := d
  exact fun H locs ls hP hS hl => lv_aload_n K.1.1 K.1.2.1 d hi (lv_at hl q hq) (k H locs ls hP hS hl)
theorem G_aload {i : Nat} {x : Nat} (q : Nat) (hq : lv[q]? = some (i, .ref x)) (K : KF p l s m args meth c g cc nL own) (d : dc cc pc pc' (.aload i) 2) (k : GG p l e R s m args below meth c g nL Q cells slots pc' lv (.ref x :: rest) M) : GG p l e R s m args below meth c g nL Q cells slots pc lv (rest) M := by
  obtain ⟨d, rfl⟩ := d
  exact fun H locs ls hP hS hl => lv_aload K.1.1 K.1.2.1 d (lv_at hl q hq) (k H locs ls hP hS hl)
theorem G_istore_n {k9 : Fin 4} {i : Nat} {x : Int32} (hi : (k9 : Nat) = i) (K : KF p l s m args meth c g cc nL own) (d : dc cc pc pc' (.istore_n k9) 1) (hn : i < nL) (hl' : (i, Value.int x) :: lv.filter (fun q => !(q.1 == i) && !(q.1 + 1 == i && q.2.category == 2)) = lv') (k : GG p l e R s m args below meth c g nL Q cells slots pc' lv' (rest) M) : GG p l e R s m args below meth c g nL Q cells slots pc lv (.int x :: rest) M := by
  obtain ⟨d, rfl⟩ := d
  exact fun H locs ls hP hS hl => lv_istore_n K.1.1 K.1.2.1 d hi hl hn hl' (fun ls' hl2 => k H locs ls' hP hS hl2)
theorem G_istore {i : Nat} {x : Int32} (K : KF p l s m args meth c g cc nL own) (d : dc cc pc pc' (.istore i) 2) (hn : i < nL) (hl' : (i, Value.int x) :: lv.filter (fun q => !(q.1 == i) && !(q.1 + 1 == i && q.2.category == 2)) = lv') (k : GG p l e R s m args below meth c g nL Q cells slots pc' lv' (rest) M) : GG p l e R s m args below meth c g nL Q cells slots pc lv (.int x :: rest) M := by
  obtain ⟨d, rfl⟩ := d
  exact fun H locs ls hP hS hl => lv_istore K.1.1 K.1.2.1 d hl hn hl' (fun ls' hl2 => k H locs ls' hP hS hl2)
theorem G_lstore_n {k9 : Fin 4} {i : Nat} {x : Int64} (hi : (k9 : Nat) = i) (K : KF p l s m args meth c g cc nL own) (d : dc cc pc pc' (.lstore_n k9) 1) (hn : i + 1 < nL) (hl' : (i, Value.long x) :: lv.filter (fun q => !(q.1 == i) && (!(q.1 == i + 1) && !(q.1 + 1 == i && q.2.category == 2))) = lv') (k : GG p l e R s m args below meth c g nL Q cells slots pc' lv' (rest) M) : GG p l e R s m args below meth c g nL Q cells slots pc lv (.long x :: rest) M := by
  obtain ⟨d, rfl⟩ := d
  exact fun H locs ls hP hS hl => lv_lstore_n K.1.1 K.1.2.1 d hi hl hn hl' (fun ls' hl2 => k H locs ls' hP hS hl2)
theorem G_lstore {i : Nat} {x : Int64} (K : KF p l s m args meth c g cc nL own) (d : dc cc pc pc' (.lstore i) 2) (hn : i + 1 < nL) (hl' : (i, Value.long x) :: lv.filter (fun q => !(q.1 == i) && (!(q.1 == i + 1) && !(q.1 + 1 == i && q.2.category == 2))) = lv') (k : GG p l e R s m args below meth c g nL Q cells slots pc' lv' (rest) M) : GG p l e R s m args below meth c g nL Q cells slots pc lv (.long x :: rest) M := by
  obtain ⟨d, rfl⟩ := d
  exact fun H locs ls hP hS hl => lv_lstore K.1.1 K.1.2.1 d hl hn hl' (fun ls' hl2 => k H locs ls' hP hS hl2)
theorem G_astore_n {k9 : Fin 4} {i : Nat} {x : Nat} (hi : (k9 : Nat) = i) (K : KF p l s m args meth c g cc nL own) (d : dc cc pc pc' (.astore_n k9) 1) (hn : i < nL) (hl' : (i, Value.ref x) :: lv.filter (fun q => !(q.1 == i) && !(q.1 + 1 == i && q.2.category == 2)) = lv') (k : GG p l e R s m args below meth c g nL Q cells slots pc' lv' (rest) M) : GG p l e R s m args below meth c g nL Q cells slots pc lv (.ref x :: rest) M := by
  obtain ⟨d, rfl⟩ := d
  exact fun H locs ls hP hS hl => lv_astore_n K.1.1 K.1.2.1 d hi hl hn hl' (fun ls' hl2 => k H locs ls' hP hS hl2)
theorem G_astore {i : Nat} {x : Nat} (K : KF p l s m args meth c g cc nL own) (d : dc cc pc pc' (.astore i) 2) (hn : i < nL) (hl' : (i, Value.ref x) :: lv.filter (fun q => !(q.1 == i) && !(q.1 + 1 == i && q.2.category == 2)) = lv') (k : GG p l e R s m args below meth c g nL Q cells slots pc' lv' (rest) M) : GG p l e R s m args below meth c g nL Q cells slots pc lv (.ref x :: rest) M := by
  obtain ⟨d, rfl⟩ := d
  exact fun H locs ls hP hS hl => lv_astore K.1.1 K.1.2.1 d hl hn hl' (fun ls' hl2 => k H locs ls' hP hS hl2)
theorem G_iinc {i : Nat} {n : Int} {x v : Int32} (q : Nat) (hq : lv[q]? = some (i, .int x)) (K : KF p l s m args meth c g cc nL own) (d : dc cc pc pc' (.iinc i n) 3) (hv : x + Int32.ofInt n = v) (hn : i < nL) (hl' : (i, Value.int v) :: lv.filter (fun q => !(q.1 == i) && !(q.1 + 1 == i && q.2.category == 2)) = lv') (k : GG p l e R s m args below meth c g nL Q cells slots pc' lv' (rest) M) : GG p l e R s m args below meth c g nL Q cells slots pc lv (rest) M := by
  obtain ⟨d, rfl⟩ := d
  exact fun H locs ls hP hS hl => lv_iinc K.1.1 K.1.2.1 d hl hq hv hn hl' (fun ls' hl2 => k H locs ls' hP hS hl2)
theorem G_iadd {x y : Int32} (K : KF p l s m args meth c g cc nL own) (d : dc cc pc pc' .iadd 1) (k : GG p l e R s m args below meth c g nL Q cells slots pc' lv (.int (x + y) :: rest) M) : GG p l e R s m args below meth c g nL Q cells slots pc lv (.int y :: .int x :: rest) M := by
  obtain ⟨d, rfl⟩ := d
  exact fun H locs ls hP hS hl => lv_iadd K.1.1 K.1.2.1 d (k H locs ls hP hS hl)
theorem G_isub {x y : Int32} (K : KF p l s m args meth c g cc nL own) (d : dc cc pc pc' .isub 1) (k : GG p l e R s m args below meth c g nL Q cells slots pc' lv (.int (x - y) :: rest) M) : GG p l e R s m args below meth c g nL Q cells slots pc lv (.int y :: .int x :: rest) M := by
  obtain ⟨d, rfl⟩ := d
  exact fun H locs ls hP hS hl => lv_isub K.1.1 K.1.2.1 d (k H locs ls hP hS hl)
theorem G_imul {x y : Int32} (K : KF p l s m args meth c g cc nL own) (d : dc cc pc pc' .imul 1) (k : GG p l e R s m args below meth c g nL Q cells slots pc' lv (.int (x * y) :: rest) M) : GG p l e R s m args below meth c g nL Q cells slots pc lv (.int y :: .int x :: rest) M := by
  obtain ⟨d, rfl⟩ := d
  exact fun H locs ls hP hS hl => lv_imul K.1.1 K.1.2.1 d (k H locs ls hP hS hl)
theorem G_iand {x y : Int32} (K : KF p l s m args meth c g cc nL own) (d : dc cc pc pc' .iand 1) (k : GG p l e R s m args below meth c g nL Q cells slots pc' lv (.int (x &&& y) :: rest) M) : GG p l e R s m args below meth c g nL Q cells slots pc lv (.int y :: .int x :: rest) M := by
  obtain ⟨d, rfl⟩ := d
  exact fun H locs ls hP hS hl => lv_iand K.1.1 K.1.2.1 d (k H locs ls hP hS hl)
theorem G_ior {x y : Int32} (K : KF p l s m args meth c g cc nL own) (d : dc cc pc pc' .ior 1) (k : GG p l e R s m args below meth c g nL Q cells slots pc' lv (.int (x ||| y) :: rest) M) : GG p l e R s m args below meth c g nL Q cells slots pc lv (.int y :: .int x :: rest) M := by
  obtain ⟨d, rfl⟩ := d
  exact fun H locs ls hP hS hl => lv_ior K.1.1 K.1.2.1 d (k H locs ls hP hS hl)
theorem G_ixor {x y : Int32} (K : KF p l s m args meth c g cc nL own) (d : dc cc pc pc' .ixor 1) (k : GG p l e R s m args below meth c g nL Q cells slots pc' lv (.int (x ^^^ y) :: rest) M) : GG p l e R s m args below meth c g nL Q cells slots pc lv (.int y :: .int x :: rest) M := by
  obtain ⟨d, rfl⟩ := d
  exact fun H locs ls hP hS hl => lv_ixor K.1.1 K.1.2.1 d (k H locs ls hP hS hl)
theorem G_ladd {x y : Int64} (K : KF p l s m args meth c g cc nL own) (d : dc cc pc pc' .ladd 1) (k : GG p l e R s m args below meth c g nL Q cells slots pc' lv (.long (x + y) :: rest) M) : GG p l e R s m args below meth c g nL Q cells slots pc lv (.long y :: .long x :: rest) M := by
  obtain ⟨d, rfl⟩ := d
  exact fun H locs ls hP hS hl => lv_ladd K.1.1 K.1.2.1 d (k H locs ls hP hS hl)
theorem G_lsub {x y : Int64} (K : KF p l s m args meth c g cc nL own) (d : dc cc pc pc' .lsub 1) (k : GG p l e R s m args below meth c g nL Q cells slots pc' lv (.long (x - y) :: rest) M) : GG p l e R s m args below meth c g nL Q cells slots pc lv (.long y :: .long x :: rest) M := by
  obtain ⟨d, rfl⟩ := d
  exact fun H locs ls hP hS hl => lv_lsub K.1.1 K.1.2.1 d (k H locs ls hP hS hl)
theorem G_lmul {x y : Int64} (K : KF p l s m args meth c g cc nL own) (d : dc cc pc pc' .lmul 1) (k : GG p l e R s m args below meth c g nL Q cells slots pc' lv (.long (x * y) :: rest) M) : GG p l e R s m args below meth c g nL Q cells slots pc lv (.long y :: .long x :: rest) M := by
  obtain ⟨d, rfl⟩ := d
  exact fun H locs ls hP hS hl => lv_lmul K.1.1 K.1.2.1 d (k H locs ls hP hS hl)
theorem G_lxor {x y : Int64} (K : KF p l s m args meth c g cc nL own) (d : dc cc pc pc' .lxor 1) (k : GG p l e R s m args below meth c g nL Q cells slots pc' lv (.long (x ^^^ y) :: rest) M) : GG p l e R s m args below meth c g nL Q cells slots pc lv (.long y :: .long x :: rest) M := by
  obtain ⟨d, rfl⟩ := d
  exact fun H locs ls hP hS hl => lv_lxor K.1.1 K.1.2.1 d (k H locs ls hP hS hl)
theorem G_ineg {x : Int32} (K : KF p l s m args meth c g cc nL own) (d : dc cc pc pc' .ineg 1) (k : GG p l e R s m args below meth c g nL Q cells slots pc' lv (.int (-x) :: rest) M) : GG p l e R s m args below meth c g nL Q cells slots pc lv (.int x :: rest) M := by
  obtain ⟨d, rfl⟩ := d
  exact fun H locs ls hP hS hl => lv_ineg K.1.1 K.1.2.1 d (k H locs ls hP hS hl)
theorem G_lneg {x : Int64} (K : KF p l s m args meth c g cc nL own) (d : dc cc pc pc' .lneg 1) (k : GG p l e R s m args below meth c g nL Q cells slots pc' lv (.long (-x) :: rest) M) : GG p l e R s m args below meth c g nL Q cells slots pc lv (.long x :: rest) M := by
  obtain ⟨d, rfl⟩ := d
  exact fun H locs ls hP hS hl => lv_lneg K.1.1 K.1.2.1 d (k H locs ls hP hS hl)
theorem G_idiv {x y : Int32} (hne : ¬ y = 0) (K : KF p l s m args meth c g cc nL own) (d : dc cc pc pc' .idiv 1) (k : GG p l e R s m args below meth c g nL Q cells slots pc' lv (.int (x / y) :: rest) M) : GG p l e R s m args below meth c g nL Q cells slots pc lv (.int y :: .int x :: rest) M := by
  obtain ⟨d, rfl⟩ := d
  exact fun H locs ls hP hS hl => lv_idiv K.1.1 K.1.2.1 d hne (k H locs ls hP hS hl)
theorem G_irem {x y : Int32} (hne : ¬ y = 0) (K : KF p l s m args meth c g cc nL own) (d : dc cc pc pc' .irem 1) (k : GG p l e R s m args below meth c g nL Q cells slots pc' lv (.int (irm x y) :: rest) M) : GG p l e R s m args below meth c g nL Q cells slots pc lv (.int y :: .int x :: rest) M := by
  obtain ⟨d, rfl⟩ := d
  exact fun H locs ls hP hS hl => lv_irem K.1.1 K.1.2.1 d hne (k H locs ls hP hS hl)
theorem G_ldiv {x y : Int64} (hne : ¬ y = 0) (K : KF p l s m args meth c g cc nL own) (d : dc cc pc pc' .ldiv 1) (k : GG p l e R s m args below meth c g nL Q cells slots pc' lv (.long (x / y) :: rest) M) : GG p l e R s m args below meth c g nL Q cells slots pc lv (.long y :: .long x :: rest) M := by
  obtain ⟨d, rfl⟩ := d
  exact fun H locs ls hP hS hl => lv_ldiv K.1.1 K.1.2.1 d hne (k H locs ls hP hS hl)
theorem G_lrem {x y : Int64} (hne : ¬ y = 0) (K : KF p l s m args meth c g cc nL own) (d : dc cc pc pc' .lrem 1) (k : GG p l e R s m args below meth c g nL Q cells slots pc' lv (.long (lrm x y) :: rest) M) : GG p l e R s m args below meth c g nL Q cells slots pc lv (.long y :: .long x :: rest) M := by
  obtain ⟨d, rfl⟩ := d
  exact fun H locs ls hP hS hl => lv_lrem K.1.1 K.1.2.1 d hne (k H locs ls hP hS hl)
theorem G_ishl {x y : Int32} (K : KF p l s m args meth c g cc nL own) (d : dc cc pc pc' .ishl 1) (k : GG p l e R s m args below meth c g nL Q cells slots pc' lv (.int (x <<< (y &&& 31)) :: rest) M) : GG p l e R s m args below meth c g nL Q cells slots pc lv (.int y :: .int x :: rest) M := by
  obtain ⟨d, rfl⟩ := d
  exact fun H locs ls hP hS hl => lv_ishl K.1.1 K.1.2.1 d (k H locs ls hP hS hl)
theorem G_ishr {x y : Int32} (K : KF p l s m args meth c g cc nL own) (d : dc cc pc pc' .ishr 1) (k : GG p l e R s m args below meth c g nL Q cells slots pc' lv (.int (x >>> (y &&& 31)) :: rest) M) : GG p l e R s m args below meth c g nL Q cells slots pc lv (.int y :: .int x :: rest) M := by
  obtain ⟨d, rfl⟩ := d
  exact fun H locs ls hP hS hl => lv_ishr K.1.1 K.1.2.1 d (k H locs ls hP hS hl)
theorem G_iushr {x y : Int32} (K : KF p l s m args meth c g cc nL own) (d : dc cc pc pc' .iushr 1) (k : GG p l e R s m args below meth c g nL Q cells slots pc' lv (.int (ush x y) :: rest) M) : GG p l e R s m args below meth c g nL Q cells slots pc lv (.int y :: .int x :: rest) M := by
  obtain ⟨d, rfl⟩ := d
  exact fun H locs ls hP hS hl => lv_iushr K.1.1 K.1.2.1 d rfl (k H locs ls hP hS hl)
theorem G_i2l {x : Int32} (K : KF p l s m args meth c g cc nL own) (d : dc cc pc pc' .i2l 1) (k : GG p l e R s m args below meth c g nL Q cells slots pc' lv (.long x.toInt64 :: rest) M) : GG p l e R s m args below meth c g nL Q cells slots pc lv (.int x :: rest) M := by
  obtain ⟨d, rfl⟩ := d
  exact fun H locs ls hP hS hl => lv_i2l K.1.1 K.1.2.1 d rfl (k H locs ls hP hS hl)
theorem G_l2i {x : Int64} (K : KF p l s m args meth c g cc nL own) (d : dc cc pc pc' .l2i 1) (k : GG p l e R s m args below meth c g nL Q cells slots pc' lv (.int x.toInt32 :: rest) M) : GG p l e R s m args below meth c g nL Q cells slots pc lv (.long x :: rest) M := by
  obtain ⟨d, rfl⟩ := d
  exact fun H locs ls hP hS hl => lv_l2i K.1.1 K.1.2.1 d rfl (k H locs ls hP hS hl)
theorem G_i2b {x : Int32} (K : KF p l s m args meth c g cc nL own) (d : dc cc pc pc' .i2b 1) (k : GG p l e R s m args below meth c g nL Q cells slots pc' lv (.int x.toInt8.toInt32 :: rest) M) : GG p l e R s m args below meth c g nL Q cells slots pc lv (.int x :: rest) M := by
  obtain ⟨d, rfl⟩ := d
  exact fun H locs ls hP hS hl => lv_i2b K.1.1 K.1.2.1 d rfl (k H locs ls hP hS hl)
theorem G_dup {v : Value} (hv : v.category = 1) (K : KF p l s m args meth c g cc nL own) (d : dc cc pc pc' .dup 1) (k : GG p l e R s m args below meth c g nL Q cells slots pc' lv (v :: v :: rest) M) : GG p l e R s m args below meth c g nL Q cells slots pc lv (v :: rest) M := by
  obtain ⟨d, rfl⟩ := d
  exact fun H locs ls hP hS hl => lv_dup K.1.1 K.1.2.1 d hv (k H locs ls hP hS hl)
theorem G_dup2 {v w : Value} (hv : v.category = 1) (hw : w.category = 1) (K : KF p l s m args meth c g cc nL own) (d : dc cc pc pc' .dup2 1) (k : GG p l e R s m args below meth c g nL Q cells slots pc' lv (v :: w :: v :: w :: rest) M) : GG p l e R s m args below meth c g nL Q cells slots pc lv (v :: w :: rest) M := by
  obtain ⟨d, rfl⟩ := d
  exact fun H locs ls hP hS hl => lv_dup2_11 K.1.1 K.1.2.1 d hv hw (k H locs ls hP hS hl)
theorem G_dup2w {v : Value} (hv : v.category = 2) (K : KF p l s m args meth c g cc nL own) (d : dc cc pc pc' .dup2 1) (k : GG p l e R s m args below meth c g nL Q cells slots pc' lv (v :: v :: rest) M) : GG p l e R s m args below meth c g nL Q cells slots pc lv (v :: rest) M := by
  obtain ⟨d, rfl⟩ := d
  exact fun H locs ls hP hS hl => lv_dup2_2 K.1.1 K.1.2.1 d hv (k H locs ls hP hS hl)
theorem G_pop {v : Value} (hv : v.category = 1) (K : KF p l s m args meth c g cc nL own) (d : dc cc pc pc' .pop 1) (k : GG p l e R s m args below meth c g nL Q cells slots pc' lv (rest) M) : GG p l e R s m args below meth c g nL Q cells slots pc lv (v :: rest) M := by
  obtain ⟨d, rfl⟩ := d
  exact fun H locs ls hP hS hl => lv_pop K.1.1 K.1.2.1 d hv (k H locs ls hP hS hl)
theorem G_goto {off : Int} {tgt : Nat} (K : KF p l s m args meth c g cc nL own) (d : dc cc pc pc' (.goto off) 3) (ht : (pc : Int) + off = (tgt : Int)) (k : GG p l e R s m args below meth c g nL Q cells slots tgt lv (rest) M) : GG p l e R s m args below meth c g nL Q cells slots pc lv (rest) M :=
  fun H locs ls hP hS hl => lv_goto K.1.1 K.1.2.1 d.1 ht (k H locs ls hP hS hl)
theorem G_if_eq {x : Int32} {off : Int} {tgt : Nat} (K : KF p l s m args meth c g cc nL own) (d : dc cc pc pc' (.ifCond .eq off) 3) (ht : (pc : Int) + off = (tgt : Int)) (kt : x = 0 → GG p l e R s m args below meth c g nL Q cells slots tgt lv (rest) M) (kf : ¬ x = 0 → GG p l e R s m args below meth c g nL Q cells slots pc' lv (rest) M) : GG p l e R s m args below meth c g nL Q cells slots pc lv (.int x :: rest) M := by
  obtain ⟨d, rfl⟩ := d
  exact fun H locs ls hP hS hl => lv_if_eq K.1.1 K.1.2.1 d ht (fun h => kt h H locs ls hP hS hl) (fun h => kf h H locs ls hP hS hl)
theorem G_icmp_eq {x y : Int32} {off : Int} {tgt : Nat} (K : KF p l s m args meth c g cc nL own) (d : dc cc pc pc' (.if_icmp .eq off) 3) (ht : (pc : Int) + off = (tgt : Int)) (kt : x = y → GG p l e R s m args below meth c g nL Q cells slots tgt lv (rest) M) (kf : ¬ x = y → GG p l e R s m args below meth c g nL Q cells slots pc' lv (rest) M) : GG p l e R s m args below meth c g nL Q cells slots pc lv (.int y :: .int x :: rest) M := by
  obtain ⟨d, rfl⟩ := d
  exact fun H locs ls hP hS hl => lv_icmp_eq K.1.1 K.1.2.1 d ht (fun h => kt h H locs ls hP hS hl) (fun h => kf h H locs ls hP hS hl)
theorem G_if_ne {x : Int32} {off : Int} {tgt : Nat} (K : KF p l s m args meth c g cc nL own) (d : dc cc pc pc' (.ifCond .ne off) 3) (ht : (pc : Int) + off = (tgt : Int)) (kt : ¬ x = 0 → GG p l e R s m args below meth c g nL Q cells slots tgt lv (rest) M) (kf : x = 0 → GG p l e R s m args below meth c g nL Q cells slots pc' lv (rest) M) : GG p l e R s m args below meth c g nL Q cells slots pc lv (.int x :: rest) M := by
  obtain ⟨d, rfl⟩ := d
  exact fun H locs ls hP hS hl => lv_if_ne K.1.1 K.1.2.1 d ht (fun h => kt h H locs ls hP hS hl) (fun h => kf h H locs ls hP hS hl)
theorem G_icmp_ne {x y : Int32} {off : Int} {tgt : Nat} (K : KF p l s m args meth c g cc nL own) (d : dc cc pc pc' (.if_icmp .ne off) 3) (ht : (pc : Int) + off = (tgt : Int)) (kt : ¬ x = y → GG p l e R s m args below meth c g nL Q cells slots tgt lv (rest) M) (kf : x = y → GG p l e R s m args below meth c g nL Q cells slots pc' lv (rest) M) : GG p l e R s m args below meth c g nL Q cells slots pc lv (.int y :: .int x :: rest) M := by
  obtain ⟨d, rfl⟩ := d
  exact fun H locs ls hP hS hl => lv_icmp_ne K.1.1 K.1.2.1 d ht (fun h => kt h H locs ls hP hS hl) (fun h => kf h H locs ls hP hS hl)
theorem G_if_lt {x : Int32} {off : Int} {tgt : Nat} (K : KF p l s m args meth c g cc nL own) (d : dc cc pc pc' (.ifCond .lt off) 3) (ht : (pc : Int) + off = (tgt : Int)) (kt : x < 0 → GG p l e R s m args below meth c g nL Q cells slots tgt lv (rest) M) (kf : ¬ x < 0 → GG p l e R s m args below meth c g nL Q cells slots pc' lv (rest) M) : GG p l e R s m args below meth c g nL Q cells slots pc lv (.int x :: rest) M := by
  obtain ⟨d, rfl⟩ := d
  exact fun H locs ls hP hS hl => lv_if_lt K.1.1 K.1.2.1 d ht (fun h => kt h H locs ls hP hS hl) (fun h => kf h H locs ls hP hS hl)
theorem G_icmp_lt {x y : Int32} {off : Int} {tgt : Nat} (K : KF p l s m args meth c g cc nL own) (d : dc cc pc pc' (.if_icmp .lt off) 3) (ht : (pc : Int) + off = (tgt : Int)) (kt : x < y → GG p l e R s m args below meth c g nL Q cells slots tgt lv (rest) M) (kf : ¬ x < y → GG p l e R s m args below meth c g nL Q cells slots pc' lv (rest) M) : GG p l e R s m args below meth c g nL Q cells slots pc lv (.int y :: .int x :: rest) M := by
  obtain ⟨d, rfl⟩ := d
  exact fun H locs ls hP hS hl => lv_icmp_lt K.1.1 K.1.2.1 d ht (fun h => kt h H locs ls hP hS hl) (fun h => kf h H locs ls hP hS hl)
theorem G_if_ge {x : Int32} {off : Int} {tgt : Nat} (K : KF p l s m args meth c g cc nL own) (d : dc cc pc pc' (.ifCond .ge off) 3) (ht : (pc : Int) + off = (tgt : Int)) (kt : 0 ≤ x → GG p l e R s m args below meth c g nL Q cells slots tgt lv (rest) M) (kf : ¬ 0 ≤ x → GG p l e R s m args below meth c g nL Q cells slots pc' lv (rest) M) : GG p l e R s m args below meth c g nL Q cells slots pc lv (.int x :: rest) M := by
  obtain ⟨d, rfl⟩ := d
  exact fun H locs ls hP hS hl => lv_if_ge K.1.1 K.1.2.1 d ht (fun h => kt h H locs ls hP hS hl) (fun h => kf h H locs ls hP hS hl)
theorem G_icmp_ge {x y : Int32} {off : Int} {tgt : Nat} (K : KF p l s m args meth c g cc nL own) (d : dc cc pc pc' (.if_icmp .ge off) 3) (ht : (pc : Int) + off = (tgt : Int)) (kt : y ≤ x → GG p l e R s m args below meth c g nL Q cells slots tgt lv (rest) M) (kf : ¬ y ≤ x → GG p l e R s m args below meth c g nL Q cells slots pc' lv (rest) M) : GG p l e R s m args below meth c g nL Q cells slots pc lv (.int y :: .int x :: rest) M := by
  obtain ⟨d, rfl⟩ := d
  exact fun H locs ls hP hS hl => lv_icmp_ge K.1.1 K.1.2.1 d ht (fun h => kt h H locs ls hP hS hl) (fun h => kf h H locs ls hP hS hl)
theorem G_if_gt {x : Int32} {off : Int} {tgt : Nat} (K : KF p l s m args meth c g cc nL own) (d : dc cc pc pc' (.ifCond .gt off) 3) (ht : (pc : Int) + off = (tgt : Int)) (kt : 0 < x → GG p l e R s m args below meth c g nL Q cells slots tgt lv (rest) M) (kf : ¬ 0 < x → GG p l e R s m args below meth c g nL Q cells slots pc' lv (rest) M) : GG p l e R s m args below meth c g nL Q cells slots pc lv (.int x :: rest) M := by
  obtain ⟨d, rfl⟩ := d
  exact fun H locs ls hP hS hl => lv_if_gt K.1.1 K.1.2.1 d ht (fun h => kt h H locs ls hP hS hl) (fun h => kf h H locs ls hP hS hl)
theorem G_icmp_gt {x y : Int32} {off : Int} {tgt : Nat} (K : KF p l s m args meth c g cc nL own) (d : dc cc pc pc' (.if_icmp .gt off) 3) (ht : (pc : Int) + off = (tgt : Int)) (kt : y < x → GG p l e R s m args below meth c g nL Q cells slots tgt lv (rest) M) (kf : ¬ y < x → GG p l e R s m args below meth c g nL Q cells slots pc' lv (rest) M) : GG p l e R s m args below meth c g nL Q cells slots pc lv (.int y :: .int x :: rest) M := by
  obtain ⟨d, rfl⟩ := d
  exact fun H locs ls hP hS hl => lv_icmp_gt K.1.1 K.1.2.1 d ht (fun h => kt h H locs ls hP hS hl) (fun h => kf h H locs ls hP hS hl)
theorem G_if_le {x : Int32} {off : Int} {tgt : Nat} (K : KF p l s m args meth c g cc nL own) (d : dc cc pc pc' (.ifCond .le off) 3) (ht : (pc : Int) + off = (tgt : Int)) (kt : x ≤ 0 → GG p l e R s m args below meth c g nL Q cells slots tgt lv (rest) M) (kf : ¬ x ≤ 0 → GG p l e R s m args below meth c g nL Q cells slots pc' lv (rest) M) : GG p l e R s m args below meth c g nL Q cells slots pc lv (.int x :: rest) M := by
  obtain ⟨d, rfl⟩ := d
  exact fun H locs ls hP hS hl => lv_if_le K.1.1 K.1.2.1 d ht (fun h => kt h H locs ls hP hS hl) (fun h => kf h H locs ls hP hS hl)
theorem G_icmp_le {x y : Int32} {off : Int} {tgt : Nat} (K : KF p l s m args meth c g cc nL own) (d : dc cc pc pc' (.if_icmp .le off) 3) (ht : (pc : Int) + off = (tgt : Int)) (kt : x ≤ y → GG p l e R s m args below meth c g nL Q cells slots tgt lv (rest) M) (kf : ¬ x ≤ y → GG p l e R s m args below meth c g nL Q cells slots pc' lv (rest) M) : GG p l e R s m args below meth c g nL Q cells slots pc lv (.int y :: .int x :: rest) M := by
  obtain ⟨d, rfl⟩ := d
  exact fun H locs ls hP hS hl => lv_icmp_le K.1.1 K.1.2.1 d ht (fun h => kt h H locs ls hP hS hl) (fun h => kf h H locs ls hP hS hl)
theorem G_ifb_eq {b : Bool} {off : Int} {tgt : Nat} (K : KF p l s m args meth c g cc nL own) (d : dc cc pc pc' (.ifCond .eq off) 3) (ht : (pc : Int) + off = (tgt : Int)) (kt : b = false → GG p l e R s m args below meth c g nL Q cells slots tgt lv (rest) M) (kf : b = true → GG p l e R s m args below meth c g nL Q cells slots pc' lv (rest) M) : GG p l e R s m args below meth c g nL Q cells slots pc lv (.int (b2i b) :: rest) M :=
  G_if_eq K d ht (fun h => kt (b2i_z.mp h)) (fun h => kf (b2i_nz.mp h))
theorem G_ifb_ne {b : Bool} {off : Int} {tgt : Nat} (K : KF p l s m args meth c g cc nL own) (d : dc cc pc pc' (.ifCond .ne off) 3) (ht : (pc : Int) + off = (tgt : Int)) (kt : b = true → GG p l e R s m args below meth c g nL Q cells slots tgt lv (rest) M) (kf : b = false → GG p l e R s m args below meth c g nL Q cells slots pc' lv (rest) M) : GG p l e R s m args below meth c g nL Q cells slots pc lv (.int (b2i b) :: rest) M :=
  G_if_ne K d ht (fun h => kt (b2i_nz.mp h)) (fun h => kf (b2i_z.mp h))
theorem G_lcmp_eq {x y : Int64} {off : Int} {tgt pc1 : Nat} (K : KF p l s m args meth c g cc nL own) (d0 : dc cc pc pc1 .lcmp 1) (d : dc cc pc1 pc' (.ifCond .eq off) 3) (ht : (pc1 : Int) + off = (tgt : Int)) (kt : x = y → GG p l e R s m args below meth c g nL Q cells slots tgt lv (rest) M) (kf : ¬ x = y → GG p l e R s m args below meth c g nL Q cells slots pc' lv (rest) M) : GG p l e R s m args below meth c g nL Q cells slots pc lv (.long y :: .long x :: rest) M := by
  obtain ⟨d0, rfl⟩ := d0
  exact fun H locs ls hP hS hl => W.lcmp K.1.1 K.1.2.1 d0 (G_if_eq K d ht (fun h => kt ((lg_cmp_eq x y).mp h)) (fun h => kf (fun q => h ((lg_cmp_eq x y).mpr q))) H locs ls hP hS hl)
theorem G_lcmp_ne {x y : Int64} {off : Int} {tgt pc1 : Nat} (K : KF p l s m args meth c g cc nL own) (d0 : dc cc pc pc1 .lcmp 1) (d : dc cc pc1 pc' (.ifCond .ne off) 3) (ht : (pc1 : Int) + off = (tgt : Int)) (kt : ¬ x = y → GG p l e R s m args below meth c g nL Q cells slots tgt lv (rest) M) (kf : x = y → GG p l e R s m args below meth c g nL Q cells slots pc' lv (rest) M) : GG p l e R s m args below meth c g nL Q cells slots pc lv (.long y :: .long x :: rest) M := by
  obtain ⟨d0, rfl⟩ := d0
  exact fun H locs ls hP hS hl => W.lcmp K.1.1 K.1.2.1 d0 (G_if_ne K d ht (fun h => kt (fun q => h ((lg_cmp_eq x y).mpr q))) (fun h => kf ((lg_cmp_eq x y).mp h)) H locs ls hP hS hl)
theorem G_lcmp_lt {x y : Int64} {off : Int} {tgt pc1 : Nat} (K : KF p l s m args meth c g cc nL own) (d0 : dc cc pc pc1 .lcmp 1) (d : dc cc pc1 pc' (.ifCond .lt off) 3) (ht : (pc1 : Int) + off = (tgt : Int)) (kt : x < y → GG p l e R s m args below meth c g nL Q cells slots tgt lv (rest) M) (kf : ¬ x < y → GG p l e R s m args below meth c g nL Q cells slots pc' lv (rest) M) : GG p l e R s m args below meth c g nL Q cells slots pc lv (.long y :: .long x :: rest) M := by
  obtain ⟨d0, rfl⟩ := d0
  exact fun H locs ls hP hS hl => W.lcmp K.1.1 K.1.2.1 d0 (G_if_lt K d ht (fun h => kt ((lg_cmp_lt x y).mp h)) (fun h => kf (fun q => h ((lg_cmp_lt x y).mpr q))) H locs ls hP hS hl)
theorem G_lcmp_ge {x y : Int64} {off : Int} {tgt pc1 : Nat} (K : KF p l s m args meth c g cc nL own) (d0 : dc cc pc pc1 .lcmp 1) (d : dc cc pc1 pc' (.ifCond .ge off) 3) (ht : (pc1 : Int) + off = (tgt : Int)) (kt : y ≤ x → GG p l e R s m args below meth c g nL Q cells slots tgt lv (rest) M) (kf : ¬ y ≤ x → GG p l e R s m args below meth c g nL Q cells slots pc' lv (rest) M) : GG p l e R s m args below meth c g nL Q cells slots pc lv (.long y :: .long x :: rest) M := by
  obtain ⟨d0, rfl⟩ := d0
  exact fun H locs ls hP hS hl => W.lcmp K.1.1 K.1.2.1 d0 (G_if_ge K d ht (fun h => kt ((lg_cmp_ge x y).mp h)) (fun h => kf (fun q => h ((lg_cmp_ge x y).mpr q))) H locs ls hP hS hl)
theorem G_lcmp_gt {x y : Int64} {off : Int} {tgt pc1 : Nat} (K : KF p l s m args meth c g cc nL own) (d0 : dc cc pc pc1 .lcmp 1) (d : dc cc pc1 pc' (.ifCond .gt off) 3) (ht : (pc1 : Int) + off = (tgt : Int)) (kt : y < x → GG p l e R s m args below meth c g nL Q cells slots tgt lv (rest) M) (kf : ¬ y < x → GG p l e R s m args below meth c g nL Q cells slots pc' lv (rest) M) : GG p l e R s m args below meth c g nL Q cells slots pc lv (.long y :: .long x :: rest) M := by
  obtain ⟨d0, rfl⟩ := d0
  exact fun H locs ls hP hS hl => W.lcmp K.1.1 K.1.2.1 d0 (G_if_gt K d ht (fun h => kt ((lg_cmp_gt x y).mp h)) (fun h => kf (fun q => h ((lg_cmp_gt x y).mpr q))) H locs ls hP hS hl)
theorem G_lcmp_le {x y : Int64} {off : Int} {tgt pc1 : Nat} (K : KF p l s m args meth c g cc nL own) (d0 : dc cc pc pc1 .lcmp 1) (d : dc cc pc1 pc' (.ifCond .le off) 3) (ht : (pc1 : Int) + off = (tgt : Int)) (kt : x ≤ y → GG p l e R s m args below meth c g nL Q cells slots tgt lv (rest) M) (kf : ¬ x ≤ y → GG p l e R s m args below meth c g nL Q cells slots pc' lv (rest) M) : GG p l e R s m args below meth c g nL Q cells slots pc lv (.long y :: .long x :: rest) M := by
  obtain ⟨d0, rfl⟩ := d0
  exact fun H locs ls hP hS hl => W.lcmp K.1.1 K.1.2.1 d0 (G_if_le K d ht (fun h => kt ((lg_cmp_le x y).mp h)) (fun h => kf (fun q => h ((lg_cmp_le x y).mpr q))) H locs ls hP hS hl)
/-- fewer locals -/
theorem G_lv (ks : List Nat) (h : lv_pick lv ks = lv') (k : GG p l e R s m args below meth c g nL Q cells slots pc lv' (rest) M) : GG p l e R s m args below meth c g nL Q cells slots pc lv (rest) M :=
  fun H locs ls hP hS hl => k H locs ls hP hS (lv_sub hl ks h)
theorem G_wide {k n : Nat} (h1 : cells ≤ k) (h2 : slots ≤ n) (kk : GG p l e R s m args below meth c g nL Q k n pc lv rest M) : GG p l e R s m args below meth c g nL Q cells slots pc lv (rest) M :=
  fun H locs ls hP hS hl => W.widen h1 h2 (kk H locs ls hP hS hl)
/-- constants of the pool -/
theorem G_ldc {index : Nat} {v : Int32} (K : KF p l s m args meth c g cc nL own) (d : dc cc pc pc' (.ldc index) 2) (hw : Cond.constant own index v ∈ wAll) (k : GG p l e R s m args below meth c g nL Q cells slots pc' lv (.int v :: rest) M) : GG p l e R s m args below meth c g nL Q cells slots pc lv (rest) M := by
  obtain ⟨d, rfl⟩ := d
  exact fun H locs ls hP hS hl => lv_ldc K.1.1 K.1.2.1 K.1.2.2.2.1 (K.1.2.2.2.2 _ hw) d (k H locs ls hP hS hl)
theorem G_ldc_w {index : Nat} {v : Int32} (K : KF p l s m args meth c g cc nL own) (d : dc cc pc pc' (.ldc_w index) 3) (hw : Cond.constant own index v ∈ wAll) (k : GG p l e R s m args below meth c g nL Q cells slots pc' lv (.int v :: rest) M) : GG p l e R s m args below meth c g nL Q cells slots pc lv (rest) M := by
  obtain ⟨d, rfl⟩ := d
  exact fun H locs ls hP hS hl => lv_ldcw K.1.1 K.1.2.1 K.1.2.2.2.1 (K.1.2.2.2.2 _ hw) d (k H locs ls hP hS hl)
theorem G_ldc2 {index : Nat} {v : Int64} (K : KF p l s m args meth c g cc nL own) (d : dc cc pc pc' (.ldc2_w index) 3) (hw : Cond.constantLong own index v ∈ wAll) (k : GG p l e R s m args below meth c g nL Q cells slots pc' lv (.long v :: rest) M) : GG p l e R s m args below meth c g nL Q cells slots pc lv (rest) M := by
  obtain ⟨d, rfl⟩ := d
  exact fun H locs ls hP hS hl => lv_ldc2 K.1.1 K.1.2.1 K.1.2.2.2.1 (K.1.2.2.2.2 _ hw) d (k H locs ls hP hS hl)
/-- fields -/
theorem G_get {C : String} {T : u_T} {N ci index i k : Nat} {v : Value} {fs : List Value} (K : KF p l s m args meth c g cc nL own) (hc : vwCl[ci]? = some (C, T, N)) (hin : ∀ w ∈ u_ws C T N, w ∈ wAll) (hlink : Cond.fieldLink own index C (T k).2.1 (T k).2.2.1 ∈ wAll) (hT : (T k).1 = C) (d : dc cc pc pc' (.getfield index) 3) (hi : i < NC) (hcell : cell g i M = .inr (ci, fs)) (hk : k < N) (hv : fs[k]? = some v) (kk : GG p l e R s m args below meth c g nL Q cells slots pc' lv (v :: rest) M) : GG p l e R s m args below meth c g nL Q cells slots pc lv (.ref (g.2.1 i) :: rest) M := by
  obtain ⟨d, rfl⟩ := d
  exact fun H locs ls hP hS hl => va_get K.1.1 K.1.2.1 K.1.2.2.2.2 hin K.1.2.2.2.1 K.2.1.1 hP i ((world_get hi).trans (by rw [hcell])) hc k hk (K.1.2.2.2.2 _ hlink) (fun x hx => by rw [hT] at hx; exact hx) hv d (kk H locs ls hP hS hl)
theorem G_putI {C : String} {T : u_T} {N ci index i k : Nat} {v : Int32} {fs fs' : List Value} {ty : FieldType} (K : KF p l s m args meth c g cc nL own) (hc : vwCl[ci]? = some (C, T, N)) (hin : ∀ w ∈ u_ws C T N, w ∈ wAll) (ty0 : Nat → FieldType) (hty : ∀ k, k < N → parseFieldDescriptor (T k).2.2.1 = some (ty0 k)) (hnm : ∀ a, a < N → ∀ b, b < N → a ≠ b → (T a).2.1 ≠ (T b).2.1) (hlink : Cond.fieldLink own index C (T k).2.1 (T k).2.2.1 ∈ wAll) (hT : (T k).1 = C) (hfin : (T k).2.2.2 = false) (hd : parseFieldDescriptor (T k).2.2.1 = some ty) (hn : narrow ty (.int v) = .int v) (hfit : fits ty (.int v) = true) (d : dc cc pc pc' (.putfield index) 3) (hi : i < NC) (hcell : cell g i M = .inr (ci, fs)) (hcell' : cell g i (mSI M i k v) = .inr (ci, fs')) (hk : k < N) (hk2 : k < fs.length) (hset : fs.set k (.int v) = fs') (kk : GG p l e R s m args below meth c g nL Q cells slots pc' lv (rest) (mSI M i k v)) : GG p l e R s m args below meth c g nL Q cells slots pc lv (.int v :: .ref (g.2.1 i) :: rest) M := by
  obtain ⟨d, rfl⟩ := d
  intro H locs ls hP hS hl
  refine va_put K.1.1 K.1.2.1 K.1.2.2.2.2 hin ty0 hty hnm K.1.2.2.2.1 K.2.1.1 hP (world_D K.2.1.2.1) hS i ((world_get hi).trans (by rw [hcell])) hc k hk (K.1.2.2.2.2 _ hlink) (fun x hx => by rw [hT] at hx; exact hx) hfin hd hn hfit hk2 d (fun H1 locs1 hP1 hD1 hS1 => ?_)
  rw [hset, world_set hi (M' := mSI M i k v) cell_mSI hcell'] at hP1
  exact kk H1 locs1 ls hP1 hS1 hl
theorem G_putL {C : String} {T : u_T} {N ci index i k : Nat} {v : Int64} {fs fs' : List Value} {ty : FieldType} (K : KF p l s m args meth c g cc nL own) (hc : vwCl[ci]? = some (C, T, N)) (hin : ∀ w ∈ u_ws C T N, w ∈ wAll) (ty0 : Nat → FieldType) (hty : ∀ k, k < N → parseFieldDescriptor (T k).2.2.1 = some (ty0 k)) (hnm : ∀ a, a < N → ∀ b, b < N → a ≠ b → (T a).2.1 ≠ (T b).2.1) (hlink : Cond.fieldLink own index C (T k).2.1 (T k).2.2.1 ∈ wAll) (hT : (T k).1 = C) (hfin : (T k).2.2.2 = false) (hd : parseFieldDescriptor (T k).2.2.1 = some ty) (hn : narrow ty (.long v) = .long v) (hfit : fits ty (.long v) = true) (d : dc cc pc pc' (.putfield index) 3) (hi : i < NC) (hcell : cell g i M = .inr (ci, fs)) (hcell' : cell g i (mSL M i k v) = .inr (ci, fs')) (hk : k < N) (hk2 : k < fs.length) (hset : fs.set k (.long v) = fs') (kk : GG p l e R s m args below meth c g nL Q cells slots pc' lv (rest) (mSL M i k v)) : GG p l e R s m args below meth c g nL Q cells slots pc lv (.long v :: .ref (g.2.1 i) :: rest) M := by
  obtain ⟨d, rfl⟩ := d
  intro H locs ls hP hS hl
  refine va_put K.1.1 K.1.2.1 K.1.2.2.2.2 hin ty0 hty hnm K.1.2.2.2.1 K.2.1.1 hP (world_D K.2.1.2.1) hS i ((world_get hi).trans (by rw [hcell])) hc k hk (K.1.2.2.2.2 _ hlink) (fun x hx => by rw [hT] at hx; exact hx) hfin hd hn hfit hk2 d (fun H1 locs1 hP1 hD1 hS1 => ?_)
  rw [hset, world_set hi (M' := mSL M i k v) cell_mSL hcell'] at hP1
  exact kk H1 locs1 ls hP1 hS1 hl
theorem G_iald {k n : Nat} {i : Int32} (K : KF p l s m args meth c g cc nL own) (d : dc cc pc pc' .iaload 1) (hk : k < NC) (hcell : cell g k M = .inl (g.2.2.1, n, .inl (M.1 k))) (hin : vp_in i n) (kk : GG p l e R s m args below meth c g nL Q cells slots pc' lv (.int (M.1 k i.toNatClampNeg) :: rest) M) : GG p l e R s m args below meth c g nL Q cells slots pc lv (.int i :: .ref (g.2.1 k) :: rest) M := by
  obtain ⟨d, rfl⟩ := d
  exact fun H locs ls hP hS hl => va_iald K.1.1 K.1.2.1 K.2.1.1 hP k 0 ((world_get hk).trans (by rw [hcell])) rfl hin d (kk H locs ls hP hS hl)
theorem G_bald {k n : Nat} {i : Int32} (K : KF p l s m args meth c g cc nL own) (d : dc cc pc pc' .baload 1) (hk : k < NC) (hcell : cell g k M = .inl (g.2.2.2.2, n, .inl (M.1 k))) (hin : vp_in i n) (kk : GG p l e R s m args below meth c g nL Q cells slots pc' lv (.int (M.1 k i.toNatClampNeg) :: rest) M) : GG p l e R s m args below meth c g nL Q cells slots pc lv (.int i :: .ref (g.2.1 k) :: rest) M := by
  obtain ⟨d, rfl⟩ := d
  exact fun H locs ls hP hS hl => va_bald K.1.1 K.1.2.1 K.2.1.1 hP k 2 ((world_get hk).trans (by rw [hcell])) rfl hin d (kk H locs ls hP hS hl)
theorem G_lald {k n : Nat} {i : Int32} (K : KF p l s m args meth c g cc nL own) (d : dc cc pc pc' .laload 1) (hk : k < NC) (hcell : cell g k M = .inl (g.2.2.2.1, n, .inr (.inl (M.2 k)))) (hin : vp_in i n) (kk : GG p l e R s m args below meth c g nL Q cells slots pc' lv (.long (M.2 k i.toNatClampNeg) :: rest) M) : GG p l e R s m args below meth c g nL Q cells slots pc lv (.int i :: .ref (g.2.1 k) :: rest) M := by
  obtain ⟨d, rfl⟩ := d
  exact fun H locs ls hP hS hl => va_lald K.1.1 K.1.2.1 K.2.1.1 hP k 1 ((world_get hk).trans (by rw [hcell])) rfl hin d (kk H locs ls hP hS hl)
theorem G_iast {k n : Nat} {i : Int32} {x : Int32} (K : KF p l s m args meth c g cc nL own) (d : dc cc pc pc' .iastore 1) (hk : k < NC) (hcell : ∀ M : Mem, cell g k M = .inl (g.2.2.1, n, .inl (M.1 k))) (hin : vp_in i n) (kk : GG p l e R s m args below meth c g nL Q cells slots pc' lv (rest) (mSI M k i.toNatClampNeg x)) : GG p l e R s m args below meth c g nL Q cells slots pc lv (.int x :: .int i :: .ref (g.2.1 k) :: rest) M := by
  obtain ⟨d, rfl⟩ := d
  intro H locs ls hP hS hl
  refine va_iast K.1.1 K.1.2.1 K.2.1.1 hP (world_D K.2.1.2.1) hS k 0 ((world_get hk).trans (by rw [hcell])) rfl hin d (fun H1 locs1 hP1 hD1 hS1 => ?_)
  rw [world_set hk (M' := (mSI M k i.toNatClampNeg x)) cell_mSI ((hcell _).trans (by unfold mSI; dsimp only; rw [if_pos rfl]))] at hP1
  exact kk H1 locs1 ls hP1 hS1 hl
theorem G_bast {k n : Nat} {i : Int32} {x : Int32} (K : KF p l s m args meth c g cc nL own) (d : dc cc pc pc' .bastore 1) (hk : k < NC) (hcell : ∀ M : Mem, cell g k M = .inl (g.2.2.2.2, n, .inl (M.1 k))) (hin : vp_in i n) (kk : GG p l e R s m args below meth c g nL Q cells slots pc' lv (rest) (mSI M k i.toNatClampNeg (vp_nar .byte x))) : GG p l e R s m args below meth c g nL Q cells slots pc lv (.int x :: .int i :: .ref (g.2.1 k) :: rest) M := by
  obtain ⟨d, rfl⟩ := d
  intro H locs ls hP hS hl
  refine va_bast K.1.1 K.1.2.1 K.2.1.1 hP (world_D K.2.1.2.1) hS k 2 ((world_get hk).trans (by rw [hcell])) rfl hin d (fun H1 locs1 hP1 hD1 hS1 => ?_)
  rw [world_set hk (M' := (mSI M k i.toNatClampNeg (vp_nar .byte x))) cell_mSI ((hcell _).trans (by unfold mSI; dsimp only; rw [if_pos rfl]))] at hP1
  exact kk H1 locs1 ls hP1 hS1 hl
theorem G_last {k n : Nat} {i : Int32} {x : Int64} (K : KF p l s m args meth c g cc nL own) (d : dc cc pc pc' .lastore 1) (hk : k < NC) (hcell : ∀ M : Mem, cell g k M = .inl (g.2.2.2.1, n, .inr (.inl (M.2 k)))) (hin : vp_in i n) (kk : GG p l e R s m args below meth c g nL Q cells slots pc' lv (rest) (mSL M k i.toNatClampNeg x)) : GG p l e R s m args below meth c g nL Q cells slots pc lv (.long x :: .int i :: .ref (g.2.1 k) :: rest) M := by
  obtain ⟨d, rfl⟩ := d
  intro H locs ls hP hS hl
  refine va_last K.1.1 K.1.2.1 K.2.1.1 hP (world_D K.2.1.2.1) hS k 1 ((world_get hk).trans (by rw [hcell])) rfl hin d (fun H1 locs1 hP1 hD1 hS1 => ?_)
  rw [world_set hk (M' := (mSL M k i.toNatClampNeg x)) cell_mSL ((hcell _).trans (by unfold mSL; dsimp only; rw [if_pos rfl]))] at hP1
  exact kk H1 locs1 ls hP1 hS1 hl
theorem G_alen {k n : Nat} {a : (Nat → Int32) ⊕ (Nat → Int64) ⊕ (Nat → UInt32) ⊕ (Nat → UInt64) ⊕ (Nat → Option Nat)} {cA : ClassId} {ty : FieldType} {v : Int32} (t0 : Nat) (ht : (tys g)[t0]? = some (cA, ty)) (hv : Int32.ofNat n = v) (K : KF p l s m args meth c g cc nL own) (d : dc cc pc pc' .arraylength 1) (hk : k < NC) (hcell : cell g k M = .inl (cA, n, a)) (kk : GG p l e R s m args below meth c g nL Q cells slots pc' lv (.int v :: rest) M) : GG p l e R s m args below meth c g nL Q cells slots pc lv (.ref (g.2.1 k) :: rest) M := by
  obtain ⟨d, rfl⟩ := d
  exact fun H locs ls hP hS hl => va_alen K.1.1 K.1.2.1 K.2.1.1 hP k t0 ((world_get hk).trans (by rw [hcell])) ht hv d (kk H locs ls hP hS hl)
/-- the end of a method -/
theorem Aft.of {H : Heap} {locs : List Loc} (K : KF p l s m args meth c g cc nL own) (hP : va_P g.1 vwCl (world g M) H) (hS : va_S (AS g s.heap.size) s.heap H locs) {t : State} (ht : t.heap = H) (hW : s.vm.Alike t.vm) : Aft g s.heap.size M s t := ⟨⟨by rw [ht]; exact hP, va_K.moved hW K.2.1.1⟩, hS.F ht⟩
theorem G_iret {v : Int32} {ty : FieldType} {mc ms : Nat} {r : RV} {M' : Mem} (K : KF p l s m args meth c g cc nL own) (hr : meth.sig.returnType = some ty) (hn : narrow ty (.int v) = .int v) (d : dc cc pc pc' .ireturn 1) (hc : cells ≤ mc) (hs : slots ≤ ms) (he : r = .inl (some (.int v)) ∧ M' = M) : GG p l e R s m args below meth c g nL (vx_MQ below (Qn g s.heap.size r M') (QX g s.heap.size r M') args s mc ms (AS g s.heap.size)) cells slots pc lv [.int v] M := by
  obtain ⟨rfl, rfl⟩ := he
  exact fun H locs ls hP hS hl => W.widen hc hs (vx_ret (W.zret K.1.1 K.1.2.1 hr hn (fun t ht hW => ⟨⟨_, rfl, rfl⟩, Aft.of K hP hS ht hW.alike⟩) hS.2.2 d.1 K.2.2.2))
theorem G_lret {v : Int64} {mc ms : Nat} {r : RV} {M' : Mem} (K : KF p l s m args meth c g cc nL own) (hr : meth.sig.returnType = some .long) (d : dc cc pc pc' .lreturn 1) (hc : cells ≤ mc) (hs : slots ≤ ms) (he : r = .inl (some (.long v)) ∧ M' = M) : GG p l e R s m args below meth c g nL (vx_MQ below (Qn g s.heap.size r M') (QX g s.heap.size r M') args s mc ms (AS g s.heap.size)) cells slots pc lv [.long v] M := by
  obtain ⟨rfl, rfl⟩ := he
  exact fun H locs ls hP hS hl => W.widen hc hs (vx_ret (W.lret K.1.1 K.1.2.1 hr (fun t ht hW => ⟨⟨_, rfl, rfl⟩, Aft.of K hP hS ht hW.alike⟩) hS.2.2 d.1 K.2.2.2))
theorem G_vret {mc ms : Nat} {r : RV} {M' : Mem} (K : KF p l s m args meth c g cc nL own) (hr : meth.sig.returnType = none) (d : dc cc pc pc' .return_ 1) (hc : cells ≤ mc) (hs : slots ≤ ms) (he : r = .inl none ∧ M' = M) : GG p l e R s m args below meth c g nL (vx_MQ below (Qn g s.heap.size r M') (QX g s.heap.size r M') args s mc ms (AS g s.heap.size)) cells slots pc lv [] M := by
  obtain ⟨rfl, rfl⟩ := he
  exact fun H locs ls hP hS hl => W.widen hc hs (vx_ret (W.vret K.1.1 K.1.2.1 hr (fun t ht hW => ⟨⟨_, rfl, rfl⟩, Aft.of K hP hS ht hW.alike⟩) hS.2.2 d.1 K.2.2.2))
/-- calls -/
def wdV (own : String) (idx : Nat) (y : MethodName) (b : ByteArray) (nl : Nat) (ret : Option FieldType) : Prop := Cond.methodLink own idx y ∈ wAll ∧ Cond.instanceMethod y ∈ wAll ∧ Cond.selects y.cls y y ∈ wAll ∧ Cond.initialized y.cls ∈ wAll ∧ Cond.code y b nl ret ∈ wAll
def wdS (own : String) (idx : Nat) (y : MethodName) (b : ByteArray) (nl : Nat) (ret : Option FieldType) : Prop := Cond.methodLink own idx y ∈ wAll ∧ Cond.static y ∈ wAll ∧ Cond.initialized y.cls ∈ wAll ∧ Cond.code y b nl ret ∈ wAll
def ydN (y : MethodName) (n : Nat) : Prop := y.cls ≠ "java/lang/invoke/MethodHandle" ∧ y.cls ≠ "java/lang/invoke/VarHandle" ∧ (parseMethodDescriptor y.desc).map (fun d => d.parameters.length) = some n
theorem good_wAll {y : MethodName} {b : ByteArray} {nl : Nat} {ret : Option FieldType} (h : Cond.code y b nl ret ∈ wAll) : GoodIn wAll (.code y b nl ret :: wAll) := fun w hw => (List.mem_cons.mp hw).elim (fun e => by subst e; exact ⟨h, wAll_good h⟩) (fun h => ⟨h, wAll_good h⟩)
theorem cwB {idx nl n : Nat} {y : MethodName} {b : ByteArray} {ret : Option FieldType} {rm : Room} (K : KF p l s m args meth c g cc nL own) (hl : Cond.methodLink own idx y ∈ wAll) (hi : Cond.initialized y.cls ∈ wAll) (hcode : Cond.code y b nl ret ∈ wAll) (hd : ydN y n) (hR : rm.frames + 1 ≤ R.frames ∧ 8 + (nl + 11) + rm.locals ≤ R.locals) : CallB R s args own idx y b nl ret (.code y b nl ret :: wAll) rm rm.cells rm.slots n :=
  callB_of (Ts := wAll) (ws' := wAll) n K.1.2.2.2.2 (good_wAll hcode) rfl rfl rfl (K.1.2.2.2.2 _ hi) (K.1.2.2.2.2 _ hl) hd hR
theorem run_G {y : MethodName} {ws : List Cond} {rm : Room} {As : List Value} {r : RV} {M' : Mem} {H : Heap} {locs : List Loc} {ls : Array Slot} {st : List Value} (K : KF p l s m args meth c g cc nL own) (hS : va_S (AS g s.heap.size) s.heap H locs) (hl : lv_has ls nL lv) {a : Array Value}
    (hr : vx_Run p l e R s m args below meth c H locs cells slots rm.cells rm.slots (F0 m pc ls st) rest (Qn g H.size r M' a) (QX g H.size r M') (AS g H.size))
    (hx : ∀ E, r = .inr E → GX p l e R s m args below meth c g nL Q (cells + rm.cells) (slots + rm.slots) pc lv E M')
    (kk : ∀ v, r = .inl v → GG p l e R s m args below meth c g nL Q (cells + rm.cells) (slots + rm.slots) (pc + 3) lv (v.toList ++ rest) M') : W p l e R s m args below meth c H locs cells slots Q (F0 m pc ls st) := by
  intro T hT X
  have hA : ∀ q, AS g H.size q → AS g s.heap.size q := AS.mono hS.1
  rcases hr T hT X with ⟨v, st₀, t, T', L, h0, X', hL, e1, e2, ⟨⟨v', hv, ho⟩, ⟨hP1, -⟩, hF⟩, st1⟩ | ⟨q, st₀, t, T', L, E, ce, h0, X', hL, e1, e2, ⟨hr1, ⟨hP1, -⟩, hF⟩, hce, hcv, hcl, st1⟩
  · have hvv : v = v' := Outcome.returned.inj ho
    subst hvv
    obtain ⟨k1, k2, k3⟩ := vx_keep (A1 := AS g H.size) (A0 := AS g s.heap.size) h0 e1 hS (fun q _ => hA q) hA hL hF
    obtain ⟨t2, a1, b1⟩ := kk v hv T'.heap (locs ++ L) ls (by rw [e1]; exact hP1) k3 hl T' rfl X'
    exact ⟨t2, st1 t2 a1, b1⟩
  · obtain ⟨k1, k2, k3⟩ := vx_keep (A1 := AS g H.size) (A0 := AS g s.heap.size) h0 e1 hS (fun q _ => hA q) hA hL hF
    obtain ⟨t2, a1, b1⟩ := hx E hr1 T'.heap (locs ++ L) ls rest ce q (by rw [e1]; exact hP1) k3 hl (by rw [e1]; exact hce) hcv hcl T' rfl X'
    exact ⟨t2, st1.trans a1, b1⟩
theorem Pic.of {H : Heap} {locs : List Loc} (K : KF p l s m args meth c g cc nL own) (hP : va_P g.1 vwCl (world g M) H) (hS : va_S (AS g s.heap.size) s.heap H locs) {U : State} (hU : U.heap = H) (hW : s.WarmedH U.vm) : Pic g M H.size U := by
  subst hU
  exact ⟨rfl, hP, va_K.moved hW.alike K.2.1.1, K.2.1.2.2.step hW hS, K.2.1.2.1⟩
theorem G_callVX {k ci idx nl n : Nat} {y : MethodName} {b : ByteArray} {ret : Option FieldType} {rm : Room} {fs : List Value} {T : u_T} {N : Nat} (As rest : List Value) {st : List Value} {r : RV} {M' : Mem} (K : KF p l s m args meth c g cc nL own) (d : dc cc pc pc' (.invokevirtual idx) 3) (hC : CT l g y (.code y b nl ret :: wAll) rm (.ref (g.2.1 k) :: As) M r M') (hw : wdV own idx y b nl ret) (hd : ydN y n) (hR : rm.frames + 1 ≤ R.frames ∧ 8 + (nl + 11) + rm.locals ≤ R.locals) (hcs : cells + rm.cells ≤ R.cells ∧ slots + rm.slots ≤ R.slots)
    (hk : k < NC) (hcell : cell g k M = .inr (ci, fs)) (hci : vwCl[ci]? = some (y.cls, T, N)) (hn : As.length = n) (hst : st = As.reverse ++ .ref (g.2.1 k) :: rest) (hW : (rest.map fun v => v.category).sum ≤ 8)
    (hx : ∀ E, r = .inr E → GX p l e R s m args below meth c g nL Q (cells + rm.cells) (slots + rm.slots) pc lv E M') (kk : ∀ v, r = .inl v → GG p l e R s m args below meth c g nL Q (cells + rm.cells) (slots + rm.slots) pc' lv (v.toList ++ rest) M') : GG p l e R s m args below meth c g nL Q cells slots pc lv (st) M := by
  obtain ⟨d, rfl⟩ := d
  intro H locs ls hP hS hl
  exact run_G (y := y) (ws := .code y b nl ret :: wAll) (As := As) (a := (Value.ref (g.2.1 k) :: As).toArray) K hS hl (vx_runV K.1 (hC H.size) ⟨cwB (n := n) K hw.1 hw.2.2.2.1 hw.2.2.2.2 hd hR, K.1.2.2.2.2 _ hw.2.1, K.1.2.2.2.2 _ hw.2.2.1⟩ ⟨Pic.blind, va_recv (q0 := k) (q := (y.cls, T, N)) K.2.1.1 hP hci ((world_get hk).trans (by rw [hcell])), fun U hU hW => ⟨rfl, Pic.of K hP hS hU hW⟩⟩ rfl hn hl.1 hst (lv_room hW) d hcs) hx kk
theorem G_callSX {idx nl n : Nat} {y : MethodName} {b : ByteArray} {ret : Option FieldType} {rm : Room} (As rest : List Value) {st : List Value} {r : RV} {M' : Mem} (K : KF p l s m args meth c g cc nL own) (d : dc cc pc pc' (.invokestatic idx) 3) (hC : CT l g y (.code y b nl ret :: wAll) rm As M r M') (hw : wdS own idx y b nl ret) (hd : ydN y n) (hR : rm.frames + 1 ≤ R.frames ∧ 8 + (nl + 11) + rm.locals ≤ R.locals) (hcs : cells + rm.cells ≤ R.cells ∧ slots + rm.slots ≤ R.slots)
    (hn : As.length = n) (hst : st = As.reverse ++ rest) (hW : (rest.map fun v => v.category).sum ≤ 8)
    (hx : ∀ E, r = .inr E → GX p l e R s m args below meth c g nL Q (cells + rm.cells) (slots + rm.slots) pc lv E M') (kk : ∀ v, r = .inl v → GG p l e R s m args below meth c g nL Q (cells + rm.cells) (slots + rm.slots) pc' lv (v.toList ++ rest) M') : GG p l e R s m args below meth c g nL Q cells slots pc lv (st) M := by
  obtain ⟨d, rfl⟩ := d
  intro H locs ls hP hS hl
  exact run_G (y := y) (ws := .code y b nl ret :: wAll) (As := As) (a := As.toArray) K hS hl (vx_runS K.1 (hC H.size) ⟨cwB (n := n) K hw.1 hw.2.2.1 hw.2.2.2 hd hR, K.1.2.2.2.2 _ hw.2.1⟩ ⟨Pic.blind, fun U hU hW => ⟨rfl, Pic.of K hP hS hU hW⟩⟩ rfl hn hl.1 hst (lv_room hW) d hcs) hx kk
/-- of a callee that doesn't throw and makes nothing -/
theorem G_callV {k ci idx nl n : Nat} {y : MethodName} {b : ByteArray} {ret : Option FieldType} {fr lo : Nat} {fs : List Value} {T : u_T} {N : Nat} (As rest : List Value) {st : List Value} {v : Option Value} {M' : Mem} (K : KF p l s m args meth c g cc nL own) (d : dc cc pc pc' (.invokevirtual idx) 3) (hw : wdV own idx y b nl ret) (hd : ydN y n)
    (hk : k < NC) (hcell : cell g k M = .inr (ci, fs)) (hci : vwCl[ci]? = some (y.cls, T, N)) (hR : fr + 1 ≤ R.frames ∧ 8 + (nl + 11) + lo ≤ R.locals) (hcs : cells ≤ R.cells ∧ slots ≤ R.slots) (hn : As.length = n) (hst : st = As.reverse ++ .ref (g.2.1 k) :: rest) (hW : (rest.map fun v => v.category).sum ≤ 8)
    (hC : CT l g y (.code y b nl ret :: wAll) { frames := fr, cells := 0, slots := 0, locals := lo } (.ref (g.2.1 k) :: As) M (.inl v) M') (kk : GG p l e R s m args below meth c g nL Q cells slots pc' lv (v.toList ++ rest) M') : GG p l e R s m args below meth c g nL Q cells slots pc lv (st) M :=
  G_callVX As rest K d hC hw hd hR hcs hk hcell hci hn hst hW (fun E h => nomatch h) (fun v' h => by cases h; exact kk)
theorem G_callS {idx nl n : Nat} {y : MethodName} {b : ByteArray} {ret : Option FieldType} {fr lo : Nat} (As rest : List Value) {st : List Value} {v : Option Value} {M' : Mem} (K : KF p l s m args meth c g cc nL own) (d : dc cc pc pc' (.invokestatic idx) 3) (hw : wdS own idx y b nl ret) (hd : ydN y n)
    (hR : fr + 1 ≤ R.frames ∧ 8 + (nl + 11) + lo ≤ R.locals) (hcs : cells ≤ R.cells ∧ slots ≤ R.slots) (hn : As.length = n) (hst : st = As.reverse ++ rest) (hW : (rest.map fun v => v.category).sum ≤ 8)
    (hC : CT l g y (.code y b nl ret :: wAll) { frames := fr, cells := 0, slots := 0, locals := lo } As M (.inl v) M') (kk : GG p l e R s m args below meth c g nL Q cells slots pc' lv (v.toList ++ rest) M') : GG p l e R s m args below meth c g nL Q cells slots pc lv (st) M :=
  G_callSX As rest K d hC hw hd hR hcs hn hst hW (fun E h => nomatch h) (fun v' h => by cases h; exact kk)
end G0
section G1
variable {p : Program} {l : Launch} {e : Env} {R : Room} {s : State} {m : MethodId} {args : Array Value} {below : List Frame} {meth : Method} {c : Code} {g : GB} {nL : Nat} {Q : State → Prop} {cells slots : Nat}
variable {cc : ByteArray} {own : String} {pc pc' : Nat} {lv : List (Nat × Value)} {M : Mem}
theorem G_callVi {k ci idx nl n : Nat} {y : MethodName} {b : ByteArray} {ret : Option FieldType} {fr lo : Nat} {fs : List Value} {T : u_T} {N : Nat} (As rest : List Value) {st : List Value} {x : Int32} {M' : Mem} (K : KF p l s m args meth c g cc nL own) (d : dc cc pc pc' (.invokevirtual idx) 3) (hw : wdV own idx y b nl ret) (hd : ydN y n)
    (hk : k < NC) (hcell : cell g k M = .inr (ci, fs)) (hci : vwCl[ci]? = some (y.cls, T, N)) (hR : fr + 1 ≤ R.frames ∧ 8 + (nl + 11) + lo ≤ R.locals) (hcs : cells ≤ R.cells ∧ slots ≤ R.slots) (hn : As.length = n) (hst : st = As.reverse ++ .ref (g.2.1 k) :: rest) (hW : (rest.map fun v => v.category).sum ≤ 8)
    (hC : CT l g y (.code y b nl ret :: wAll) { frames := fr, cells := 0, slots := 0, locals := lo } (.ref (g.2.1 k) :: As) M (.inl (some (.int x))) M') (kk : GG p l e R s m args below meth c g nL Q cells slots pc' lv (.int x :: rest) M') : GG p l e R s m args below meth c g nL Q cells slots pc lv st M :=
  G_callV As rest K d hw hd hk hcell hci hR hcs hn hst hW hC kk
theorem G_callSi {idx nl n : Nat} {y : MethodName} {b : ByteArray} {ret : Option FieldType} {fr lo : Nat} (As rest : List Value) {st : List Value} {x : Int32} {M' : Mem} (K : KF p l s m args meth c g cc nL own) (d : dc cc pc pc' (.invokestatic idx) 3) (hw : wdS own idx y b nl ret) (hd : ydN y n)
    (hR : fr + 1 ≤ R.frames ∧ 8 + (nl + 11) + lo ≤ R.locals) (hcs : cells ≤ R.cells ∧ slots ≤ R.slots) (hn : As.length = n) (hst : st = As.reverse ++ rest) (hW : (rest.map fun v => v.category).sum ≤ 8)
    (hC : CT l g y (.code y b nl ret :: wAll) { frames := fr, cells := 0, slots := 0, locals := lo } As M (.inl (some (.int x))) M') (kk : GG p l e R s m args below meth c g nL Q cells slots pc' lv (.int x :: rest) M') : GG p l e R s m args below meth c g nL Q cells slots pc lv st M :=
  G_callS As rest K d hw hd hR hcs hn hst hW hC kk
theorem G_callVl {k ci idx nl n : Nat} {y : MethodName} {b : ByteArray} {ret : Option FieldType} {fr lo : Nat} {fs : List Value} {T : u_T} {N : Nat} (As rest : List Value) {st : List Value} {x : Int64} {M' : Mem} (K : KF p l s m args meth c g cc nL own) (d : dc cc pc pc' (.invokevirtual idx) 3) (hw : wdV own idx y b nl ret) (hd : ydN y n)
    (hk : k < NC) (hcell : cell g k M = .inr (ci, fs)) (hci : vwCl[ci]? = some (y.cls, T, N)) (hR : fr + 1 ≤ R.frames ∧ 8 + (nl + 11) + lo ≤ R.locals) (hcs : cells ≤ R.cells ∧ slots ≤ R.slots) (hn : As.length = n) (hst : st = As.reverse ++ .ref (g.2.1 k) :: rest) (hW : (rest.map fun v => v.category).sum ≤ 8)
    (hC : CT l g y (.code y b nl ret :: wAll) { frames := fr, cells := 0, slots := 0, locals := lo } (.ref (g.2.1 k) :: As) M (.inl (some (.long x))) M') (kk : GG p l e R s m args below meth c g nL Q cells slots pc' lv (.long x :: rest) M') : GG p l e R s m args below meth c g nL Q cells slots pc lv st M :=
  G_callV As rest K d hw hd hk hcell hci hR hcs hn hst hW hC kk
theorem G_callSl {idx nl n : Nat} {y : MethodName} {b : ByteArray} {ret : Option FieldType} {fr lo : Nat} (As rest : List Value) {st : List Value} {x : Int64} {M' : Mem} (K : KF p l s m args meth c g cc nL own) (d : dc cc pc pc' (.invokestatic idx) 3) (hw : wdS own idx y b nl ret) (hd : ydN y n)
    (hR : fr + 1 ≤ R.frames ∧ 8 + (nl + 11) + lo ≤ R.locals) (hcs : cells ≤ R.cells ∧ slots ≤ R.slots) (hn : As.length = n) (hst : st = As.reverse ++ rest) (hW : (rest.map fun v => v.category).sum ≤ 8)
    (hC : CT l g y (.code y b nl ret :: wAll) { frames := fr, cells := 0, slots := 0, locals := lo } As M (.inl (some (.long x))) M') (kk : GG p l e R s m args below meth c g nL Q cells slots pc' lv (.long x :: rest) M') : GG p l e R s m args below meth c g nL Q cells slots pc lv st M :=
  G_callS As rest K d hw hd hR hcs hn hst hW hC kk
theorem G_callVv {k ci idx nl n : Nat} {y : MethodName} {b : ByteArray} {ret : Option FieldType} {fr lo : Nat} {fs : List Value} {T : u_T} {N : Nat} (As rest : List Value) {st : List Value} {M' : Mem} (K : KF p l s m args meth c g cc nL own) (d : dc cc pc pc' (.invokevirtual idx) 3) (hw : wdV own idx y b nl ret) (hd : ydN y n)
    (hk : k < NC) (hcell : cell g k M = .inr (ci, fs)) (hci : vwCl[ci]? = some (y.cls, T, N)) (hR : fr + 1 ≤ R.frames ∧ 8 + (nl + 11) + lo ≤ R.locals) (hcs : cells ≤ R.cells ∧ slots ≤ R.slots) (hn : As.length = n) (hst : st = As.reverse ++ .ref (g.2.1 k) :: rest) (hW : (rest.map fun v => v.category).sum ≤ 8)
    (hC : CT l g y (.code y b nl ret :: wAll) { frames := fr, cells := 0, slots := 0, locals := lo } (.ref (g.2.1 k) :: As) M (.inl none) M') (kk : GG p l e R s m args below meth c g nL Q cells slots pc' lv (rest) M') : GG p l e R s m args below meth c g nL Q cells slots pc lv st M :=
  G_callV As rest K d hw hd hk hcell hci hR hcs hn hst hW hC kk
theorem G_callSv {idx nl n : Nat} {y : MethodName} {b : ByteArray} {ret : Option FieldType} {fr lo : Nat} (As rest : List Value) {st : List Value} {M' : Mem} (K : KF p l s m args meth c g cc nL own) (d : dc cc pc pc' (.invokestatic idx) 3) (hw : wdS own idx y b nl ret) (hd : ydN y n)
    (hR : fr + 1 ≤ R.frames ∧ 8 + (nl + 11) + lo ≤ R.locals) (hcs : cells ≤ R.cells ∧ slots ≤ R.slots) (hn : As.length = n) (hst : st = As.reverse ++ rest) (hW : (rest.map fun v => v.category).sum ≤ 8)
    (hC : CT l g y (.code y b nl ret :: wAll) { frames := fr, cells := 0, slots := 0, locals := lo } As M (.inl none) M') (kk : GG p l e R s m args below meth c g nL Q cells slots pc' lv (rest) M') : GG p l e R s m args below meth c g nL Q cells slots pc lv st M :=
  G_callS As rest K d hw hd hR hcs hn hst hW hC kk
end G1
theorem decide_mem {L B : List Cond} (h : L.all (fun w => decide (w ∈ B) && goodWord w) = true) : ∀ w ∈ L, w ∈ B ∧ goodWord w = true := fun w hw => by
  have h1 := List.all_eq_true.mp h w hw
  simp only [Bool.and_eq_true, decide_eq_true_eq] at h1
  exact h1
theorem wAll_tbl {w : Cond} (h : w ∈ lw_tbl ∧ goodWord w = true) : w ∈ wAll := List.mem_filter.mpr h
theorem memS {L S : List Cond} (hS : ∀ w ∈ S, w ∈ lw_tbl) (h : L.all (fun w => !goodWord w || decide (w ∈ S)) = true) : ∀ w ∈ L.filter goodWord, w ∈ wAll := fun w hw => by
  obtain ⟨h1, h2⟩ := List.mem_filter.mp hw
  have h3 := List.all_eq_true.mp h w h1
  have h4 : w ∈ S := by simpa [h2] using h3
  exact wAll_tbl ⟨hS w h4, h2⟩
section G2
variable {p : Program} {l : Launch} {e : Env} {R : Room} {s : State} {m : MethodId} {args : Array Value} {below : List Frame} {meth : Method} {c : Code} {g : GB} {nL : Nat} {Q : State → Prop} {cells slots : Nat}
variable {cc : ByteArray} {own : String} {pc pc' : Nat} {lv : List (Nat × Value)} {M M' : Mem} {rest : List Value}
/-- what a 'throw new cls()' at the pool places ik, ic needs of the words -/
def ExOK (own : String) (ik ic : Nat) (cls : String) : Prop := Bundle.fit cls = true ∧ cls ∈ ExcC ∧ Cond.classLink own ik cls ∈ wAll ∧ Cond.initialized cls ∈ wAll ∧ (∀ w ∈ (vx_at0 own ic cls EXN).filter goodWord, w ∈ wAll) ∧ (∀ w ∈ (vx_at0 own ic cls EXN).filter (fun w => !goodWord w), w ∈ BwL) ∧ ∀ w ∈ Cond.classLink own ik cls :: Cond.initialized cls :: vx_at0 own ic cls EXN, vx_ot w = true
theorem G_throw {cls : String} {ik ic p1 p2 p3 p4 mc ms : Nat} {r : RV} (K : KF p l s m args meth c g cc nL own) (X : ExOK own ik ic cls) (hml : ∀ ls : Array Slot, ls.size = nL → ls.size = c.maxLocals) (d0 : dc cc pc p1 (.new ik) 3) (d1 : dc cc p1 p2 .dup 1) (d2 : dc cc p2 p3 (.invokespecial ic) 3) (d3 : dc cc p3 p4 .athrow 1) (ht : ∀ x ∈ c.exceptionTable.toList, False) (hf : 6 ≤ R.frames) (hlo : (rest.map fun v => v.category).sum + 81 ≤ R.locals) (hc : cells + 1 ≤ mc) (hs : slots + 6 ≤ ms) (hmc : mc ≤ R.cells) (hms : ms ≤ R.slots) (he : r = .inr cls ∧ M' = M) :
    GG p l e R s m args below meth c g nL (vx_MQ below (Qn g s.heap.size r M') (QX g s.heap.size r M') args s mc ms (AS g s.heap.size)) cells slots pc lv rest M := by
  obtain ⟨d0, rfl⟩ := d0
  obtain ⟨d1, rfl⟩ := d1
  obtain ⟨d2, rfl⟩ := d2
  obtain ⟨d3, -⟩ := d3
  obtain ⟨rfl, rfl⟩ := he
  obtain ⟨x1, x2, x3, x4, x5, x6, x7⟩ := X
  intro H locs ls hP hS hl
  have hN : ∀ n ∈ EXN, Bundle.fit n = true := by decide +kernel
  exact vx_throw0 (names := EXN) (A := AS g s.heap.size) K.1.1 K.1.2.1 K.2.2.1 K.1.2.2.2.1 x1 hN (K.1.2.2.2.2 _ x3) (K.1.2.2.2.2 _ x4) (vx_hat (B := BwL) (fun w hw => K.1.2.2.2.2 _ (x5 w hw)) x6 (fun w hw => va_Nw.use (BwL_ok w hw).2 (K.2.1.2.2.2.2.2.1 w hw))) x7 K.2.1.2.2.1.1 K.2.1.2.2.1.2 hS (hml ls hl.1) d0 d1 d2 d3 (fun x hx => (ht x hx).elim) (show 2 + 3 < R.frames by omega) (show _ + (13 * (2 + 1) + 42) ≤ R.locals by omega) (Nat.le_trans hc hmc) (Nat.le_trans hs hms) K.2.2.2 (fun t hW hz hq => ⟨rfl, ⟨fun k q hk => ((hP k q hk).kept (hq _ (hP k q hk).lt)), va_K.moved hW K.2.1.1⟩, ⟨Nat.le_trans hS.1 hz, fun q h1 h2 => by rw [hq q (Nat.lt_of_lt_of_le h1 hS.1)]; exact hS.2.1 q h1 h2⟩⟩) hS.2.2 hc hs
/-- not caught here -/
theorem GX_out {mc ms : Nat} {r : RV} {E : String} (K : KF p l s m args meth c g cc nL own) (ht : ∀ x ∈ c.exceptionTable.toList, False) (hc : cells ≤ mc) (hs : slots ≤ ms) (he : r = .inr E ∧ M' = M) : GX p l e R s m args below meth c g nL (vx_MQ below (Qn g s.heap.size r M') (QX g s.heap.size r M') args s mc ms (AS g s.heap.size)) cells slots pc lv E M := by
  obtain ⟨rfl, rfl⟩ := he
  exact fun H locs ls rest ce q hP hS hl h1 h2 h3 => vx_out (fun x hx => (ht x hx).elim) K.2.2.2 h1 h2 h3 (fun t htt hW => ⟨rfl, Aft.of K hP hS htt hW⟩) hS.2.2 hc hs
theorem G_callXVt {idx nl n : Nat} {y : MethodName} {b : ByteArray} {ret : Option FieldType} {rm : Room} {k ci : Nat} {fs : List Value} {T : u_T} {N : Nat} (As rest : List Value) {st : List Value} {E : String} (K : KF p l s m args meth c g cc nL own) (d : dc cc pc pc' (.invokevirtual idx) 3) (hw : wdV own idx y b nl ret) (hd : ydN y n) (hk : k < NC) (hcell : cell g k M = .inr (ci, fs)) (hci : vwCl[ci]? = some (y.cls, T, N)) (hR : rm.frames + 1 ≤ R.frames ∧ 8 + (nl + 11) + rm.locals ≤ R.locals) (hcs : cells + rm.cells ≤ R.cells ∧ slots + rm.slots ≤ R.slots) (hn : As.length = n) (hst : st = As.reverse ++ .ref (g.2.1 k) :: rest) (hW : (rest.map fun v => v.category).sum ≤ 8) (hC : CT l g y (.code y b nl ret :: wAll) rm (.ref (g.2.1 k) :: As) M (.inr E) M') (hx : GX p l e R s m args below meth c g nL Q (cells + rm.cells) (slots + rm.slots) pc lv E M') : GG p l e R s m args below meth c g nL Q cells slots pc lv st M :=
  G_callVX As rest K d hC hw hd hR hcs hk hcell hci hn hst hW (fun E h => by cases h; exact hx) (fun v' h => nomatch h)
theorem G_callXVi {idx nl n : Nat} {y : MethodName} {b : ByteArray} {ret : Option FieldType} {rm : Room} {k ci : Nat} {fs : List Value} {T : u_T} {N : Nat} (As rest : List Value) {st : List Value} {x : Int32} (K : KF p l s m args meth c g cc nL own) (d : dc cc pc pc' (.invokevirtual idx) 3) (hw : wdV own idx y b nl ret) (hd : ydN y n) (hk : k < NC) (hcell : cell g k M = .inr (ci, fs)) (hci : vwCl[ci]? = some (y.cls, T, N)) (hR : rm.frames + 1 ≤ R.frames ∧ 8 + (nl + 11) + rm.locals ≤ R.locals) (hcs : cells + rm.cells ≤ R.cells ∧ slots + rm.slots ≤ R.slots) (hn : As.length = n) (hst : st = As.reverse ++ .ref (g.2.1 k) :: rest) (hW : (rest.map fun v => v.category).sum ≤ 8) (hC : CT l g y (.code y b nl ret :: wAll) rm (.ref (g.2.1 k) :: As) M (.inl (some (.int x))) M') (kk : GG p l e R s m args below meth c g nL Q (cells + rm.cells) (slots + rm.slots) pc' lv (.int x :: rest) M') : GG p l e R s m args below meth c g nL Q cells slots pc lv st M :=
  G_callVX As rest K d hC hw hd hR hcs hk hcell hci hn hst hW (fun E h => nomatch h) (fun v' h => by cases h; exact kk)
theorem G_callXVl {idx nl n : Nat} {y : MethodName} {b : ByteArray} {ret : Option FieldType} {rm : Room} {k ci : Nat} {fs : List Value} {T : u_T} {N : Nat} (As rest : List Value) {st : List Value} {x : Int64} (K : KF p l s m args meth c g cc nL own) (d : dc cc pc pc' (.invokevirtual idx) 3) (hw : wdV own idx y b nl ret) (hd : ydN y n) (hk : k < NC) (hcell : cell g k M = .inr (ci, fs)) (hci : vwCl[ci]? = some (y.cls, T, N)) (hR : rm.frames + 1 ≤ R.frames ∧ 8 + (nl + 11) + rm.locals ≤ R.locals) (hcs : cells + rm.cells ≤ R.cells ∧ slots + rm.slots ≤ R.slots) (hn : As.length = n) (hst : st = As.reverse ++ .ref (g.2.1 k) :: rest) (hW : (rest.map fun v => v.category).sum ≤ 8) (hC : CT l g y (.code y b nl ret :: wAll) rm (.ref (g.2.1 k) :: As) M (.inl (some (.long x))) M') (kk : GG p l e R s m args below meth c g nL Q (cells + rm.cells) (slots + rm.slots) pc' lv (.long x :: rest) M') : GG p l e R s m args below meth c g nL Q cells slots pc lv st M :=
  G_callVX As rest K d hC hw hd hR hcs hk hcell hci hn hst hW (fun E h => nomatch h) (fun v' h => by cases h; exact kk)
theorem G_callXVv {idx nl n : Nat} {y : MethodName} {b : ByteArray} {ret : Option FieldType} {rm : Room} {k ci : Nat} {fs : List Value} {T : u_T} {N : Nat} (As rest : List Value) {st : List Value} (K : KF p l s m args meth c g cc nL own) (d : dc cc pc pc' (.invokevirtual idx) 3) (hw : wdV own idx y b nl ret) (hd : ydN y n) (hk : k < NC) (hcell : cell g k M = .inr (ci, fs)) (hci : vwCl[ci]? = some (y.cls, T, N)) (hR : rm.frames + 1 ≤ R.frames ∧ 8 + (nl + 11) + rm.locals ≤ R.locals) (hcs : cells + rm.cells ≤ R.cells ∧ slots + rm.slots ≤ R.slots) (hn : As.length = n) (hst : st = As.reverse ++ .ref (g.2.1 k) :: rest) (hW : (rest.map fun v => v.category).sum ≤ 8) (hC : CT l g y (.code y b nl ret :: wAll) rm (.ref (g.2.1 k) :: As) M (.inl none) M') (kk : GG p l e R s m args below meth c g nL Q (cells + rm.cells) (slots + rm.slots) pc' lv (rest) M') : GG p l e R s m args below meth c g nL Q cells slots pc lv st M :=
  G_callVX As rest K d hC hw hd hR hcs hk hcell hci hn hst hW (fun E h => nomatch h) (fun v' h => by cases h; exact kk)
theorem G_callXSt {idx nl n : Nat} {y : MethodName} {b : ByteArray} {ret : Option FieldType} {rm : Room} (As rest : List Value) {st : List Value} {E : String} (K : KF p l s m args meth c g cc nL own) (d : dc cc pc pc' (.invokestatic idx) 3) (hw : wdS own idx y b nl ret) (hd : ydN y n) (hR : rm.frames + 1 ≤ R.frames ∧ 8 + (nl + 11) + rm.locals ≤ R.locals) (hcs : cells + rm.cells ≤ R.cells ∧ slots + rm.slots ≤ R.slots) (hn : As.length = n) (hst : st = As.reverse ++ rest) (hW : (rest.map fun v => v.category).sum ≤ 8) (hC : CT l g y (.code y b nl ret :: wAll) rm As M (.inr E) M') (hx : GX p l e R s m args below meth c g nL Q (cells + rm.cells) (slots + rm.slots) pc lv E M') : GG p l e R s m args below meth c g nL Q cells slots pc lv st M :=
  G_callSX As rest K d hC hw hd hR hcs hn hst hW (fun E h => by cases h; exact hx) (fun v' h => nomatch h)
theorem G_callXSi {idx nl n : Nat} {y : MethodName} {b : ByteArray} {ret : Option FieldType} {rm : Room} (As rest : List Value) {st : List Value} {x : Int32} (K : KF p l s m args meth c g cc nL own) (d : dc cc pc pc' (.invokestatic idx) 3) (hw : wdS own idx y b nl ret) (hd : ydN y n) (hR : rm.frames + 1 ≤ R.frames ∧ 8 + (nl + 11) + rm.locals ≤ R.locals) (hcs : cells + rm.cells ≤ R.cells ∧ slots + rm.slots ≤ R.slots) (hn : As.length = n) (hst : st = As.reverse ++ rest) (hW : (rest.map fun v => v.category).sum ≤ 8) (hC : CT l g y (.code y b nl ret :: wAll) rm As M (.inl (some (.int x))) M') (kk : GG p l e R s m args below meth c g nL Q (cells + rm.cells) (slots + rm.slots) pc' lv (.int x :: rest) M') : GG p l e R s m args below meth c g nL Q cells slots pc lv st M :=
  G_callSX As rest K d hC hw hd hR hcs hn hst hW (fun E h => nomatch h) (fun v' h => by cases h; exact kk)
theorem G_callXSl {idx nl n : Nat} {y : MethodName} {b : ByteArray} {ret : Option FieldType} {rm : Room} (As rest : List Value) {st : List Value} {x : Int64} (K : KF p l s m args meth c g cc nL own) (d : dc cc pc pc' (.invokestatic idx) 3) (hw : wdS own idx y b nl ret) (hd : ydN y n) (hR : rm.frames + 1 ≤ R.frames ∧ 8 + (nl + 11) + rm.locals ≤ R.locals) (hcs : cells + rm.cells ≤ R.cells ∧ slots + rm.slots ≤ R.slots) (hn : As.length = n) (hst : st = As.reverse ++ rest) (hW : (rest.map fun v => v.category).sum ≤ 8) (hC : CT l g y (.code y b nl ret :: wAll) rm As M (.inl (some (.long x))) M') (kk : GG p l e R s m args below meth c g nL Q (cells + rm.cells) (slots + rm.slots) pc' lv (.long x :: rest) M') : GG p l e R s m args below meth c g nL Q cells slots pc lv st M :=
  G_callSX As rest K d hC hw hd hR hcs hn hst hW (fun E h => nomatch h) (fun v' h => by cases h; exact kk)
theorem G_callXSv {idx nl n : Nat} {y : MethodName} {b : ByteArray} {ret : Option FieldType} {rm : Room} (As rest : List Value) {st : List Value} (K : KF p l s m args meth c g cc nL own) (d : dc cc pc pc' (.invokestatic idx) 3) (hw : wdS own idx y b nl ret) (hd : ydN y n) (hR : rm.frames + 1 ≤ R.frames ∧ 8 + (nl + 11) + rm.locals ≤ R.locals) (hcs : cells + rm.cells ≤ R.cells ∧ slots + rm.slots ≤ R.slots) (hn : As.length = n) (hst : st = As.reverse ++ rest) (hW : (rest.map fun v => v.category).sum ≤ 8) (hC : CT l g y (.code y b nl ret :: wAll) rm As M (.inl none) M') (kk : GG p l e R s m args below meth c g nL Q (cells + rm.cells) (slots + rm.slots) pc' lv (rest) M') : GG p l e R s m args below meth c g nL Q cells slots pc lv st M :=
  G_callSX As rest K d hC hw hd hR hcs hn hst hW (fun E h => nomatch h) (fun v' h => by cases h; exact kk)
/-- switches -/
theorem ne_i {x k : Int32} {n : Int} (hk : k.toInt = n) (h : ¬ x = k) : x.toInt ≠ n := fun q => h (Int32.toInt_inj.mp (by rw [hk]; exact q))
theorem G_tswIn {x k : Int32} {dflt lo hi off : Int} {offs : Array Int} {len tgt : Nat} (K : KF p l s m args meth c g cc nL own) (d : dc cc pc pc' (.tableswitch dflt lo hi offs) len) (hx : x = k) (h1 : ¬ k.toInt < lo) (h2 : ¬ hi < k.toInt) (ho : offs[(k.toInt - lo).toNat]? = some off) (ht : (pc : Int) + off = (tgt : Int)) (kk : GG p l e R s m args below meth c g nL Q cells slots tgt lv rest M) : GG p l e R s m args below meth c g nL Q cells slots pc lv (.int x :: rest) M := by
  subst hx
  exact fun H locs ls hP hS hl => lv_tableIn K.1.1 K.1.2.1 d.1 h1 h2 ho ht (kk H locs ls hP hS hl)
theorem G_tswOut {x : Int32} {dflt lo hi : Int} {offs : Array Int} {len tgt : Nat} (K : KF p l s m args meth c g cc nL own) (d : dc cc pc pc' (.tableswitch dflt lo hi offs) len) (h : x.toInt < lo ∨ hi < x.toInt) (ht : (pc : Int) + dflt = (tgt : Int)) (kk : GG p l e R s m args below meth c g nL Q cells slots tgt lv rest M) : GG p l e R s m args below meth c g nL Q cells slots pc lv (.int x :: rest) M :=
  fun H locs ls hP hS hl => lv_tableOut K.1.1 K.1.2.1 d.1 h ht (kk H locs ls hP hS hl)
end G2
/-- results that may be thrown -/
def xbind {α β : Type} (X : Option ((String ⊕ α) × Mem)) (k : α → Mem → Option ((String ⊕ β) × Mem)) : Option ((String ⊕ β) × Mem) := X.bind fun r => match r with
  | (.inl E, M) => some (.inl E, M)
  | (.inr v, M) => k v M
theorem wpO_x {α β : Type} {X : Option ((String ⊕ α) × Mem)} {k : α → Mem → Option ((String ⊕ β) × Mem)} {Φ : (String ⊕ β) × Mem → Prop} (h : wpO (xbind X k) Φ) : (∃ E M, X = some (.inl E, M) ∧ Φ (.inl E, M)) ∨ ∃ v M, X = some (.inr v, M) ∧ wpO (k v M) Φ := by
  obtain ⟨⟨r, M⟩, h1, h2⟩ := wpO_bind (X := X) h
  cases r with
  | inl E => exact Or.inl ⟨E, M, h1, wpO_some h2⟩
  | inr v => exact Or.inr ⟨v, M, h1, h2⟩
def rvU : String ⊕ Unit → RV
  | .inl E => .inr E
  | .inr _ => .inl none
def rvI : String ⊕ Int32 → RV
  | .inl E => .inr E
  | .inr v => .inl (some (.int v))
def rvJ : String ⊕ Int64 → RV
  | .inl E => .inr E
  | .inr v => .inl (some (.long v))
def rvB : String ⊕ Bool → RV
  | .inl E => .inr E
  | .inr v => .inl (some (.int (b2i v)))
/-- as vx_ofW, the method plain by its own name (a class of the JDK) -/
theorem vx_ofWF {l : Launch} {y : MethodName} {ws ws' : List Cond} {rm : Room} {Pc : Array Value → State → Prop} {Qc : Array Value → State → Outcome → State → Prop} {XC : String → State → State → Prop} {mc ms : Nat} {free : Addr → Prop} {cc : ByteArray} {maxL : Nat} {ret : Option FieldType}
    (hy : plainFor y = true) (hw : ws = Cond.code y cc maxL ret :: ws')
    (body : ∀ p e s m args below meth c s₁, BodyLoose p l y (headSpec ws rm) cc maxL ret e s m args below meth c s₁ → c.maxLocals = maxL → (∀ x ∈ c.exceptionTable.toList, False) → Pc args s →
      W p l e (headSpec ws rm).room s m args below meth c s.heap [] 0 0 (vx_MQ below Qc XC args s mc ms free) (entryFrame m args maxL)) : vx_Met l y ws rm Pc Qc XC mc ms free := by
  refine MetFree.of_bodySF (code := cc) (maxLocals := maxL) (ret := ret) hy ?_ ?_
  · intro args s m h hn
    obtain ⟨meth, c, h1, h2, h3, h4, h5, h6, -, -⟩ := Cond.code_spec hn (atoms_spec (ws := ws) h _ (by rw [hw]; exact List.mem_cons_self))
    exact ⟨meth, c, h1, h2, h3, h4, h5, h6⟩
  · intro p e s m args below meth c s₁ B hml hP _
    have hh0 : s₁.heap = s.heap := by rw [B.state]; rfl
    have ht : ∀ x ∈ c.exceptionTable.toList, False := by
      obtain ⟨meth9, c9, h1, h2, -, -, -, -, h7, -⟩ := Cond.code_spec B.named (atoms_spec (ws := ws) B.pre _ (by rw [hw]; exact List.mem_cons_self))
      cases Option.some.inj (h1.symm.trans B.method)
      cases Option.some.inj (h2.symm.trans (Stand.of_body B).code)
      intro x hx
      rw [Array.isEmpty_iff.mp h7] at hx
      cases hx
    obtain ⟨t, a1, o, b1, b2, b3⟩ := body p e s m args below meth c s₁ B hml ht hP s₁ hh0 (Stand.of_body B)
    exact ⟨t, o, a1, b1, b2, b3⟩
/-- a contract out of a walk from the method's entry -/
theorem CT.of {l : Launch} {g : GB} {y : MethodName} {b : ByteArray} {nl : Nat} {ret : Option FieldType} {rm : Room} {av : List Value} {M : Mem} {r : RV} {M' : Mem} (lvl : List (Nat × Value)) (hy : plainFor y = true) (hlen : (lg_sl av).length ≤ nl) (hlv : lv_args 0 av = lvl) (htr : l.stackTraces = false)
    (hw : ∀ (p : Program) (e : Env) (s : State) (m : MethodId) (args : Array Value) (below : List Frame) (meth : Method) (c : Code), KF p l s m args meth c g b nl y.cls → meth.sig.returnType = ret → (∀ x ∈ c.exceptionTable.toList, False) →
      GG p l e rm s m args below meth c g nl (vx_MQ below (Qn g s.heap.size r M') (QX g s.heap.size r M') args s rm.cells rm.slots (AS g s.heap.size)) 0 0 0 lvl [] M) : CT l g y (.code y b nl ret :: wAll) rm av M r M' := by
  intro sz
  refine vx_ofWF (cc := b) (maxL := nl) (ret := ret) hy rfl ?_
  intro p e s m args below meth c s₁ B hml ht hv
  obtain ⟨rfl, hsz, hP, hK, hSt, hI⟩ := hv
  subst hsz
  have hts := atoms_spec (ws := .code y b nl ret :: wAll) B.pre
  have hl := lv_entry av (n := nl) hlen
  rw [hlv] at hl
  rw [lg_entry_eq]
  exact hw p e s m av.toArray below meth c ⟨⟨B.exec, B.bytes, hml, findClass_of_methodNamed B.named, fun w hw => hts w (List.mem_cons_of_mem _ hw)⟩, ⟨hK, hI, hSt⟩, htr, B.notSynchronized⟩ B.returns ht s.heap [] _ hP va_S.rf hl
/-- a call whose exceptions are caught -/
def hbind {α β : Type} (X : Option ((String ⊕ α) × Mem)) (hx : String → Mem → Option β) (k : α → Mem → Option β) : Option β := X.bind fun r => match r with
  | (.inl E, M) => hx E M
  | (.inr v, M) => k v M
theorem wpO_h {α β : Type} {X : Option ((String ⊕ α) × Mem)} {hx : String → Mem → Option β} {k : α → Mem → Option β} {Φ : β → Prop} (h : wpO (hbind X hx k) Φ) : (∃ E M, X = some (.inl E, M) ∧ wpO (hx E M) Φ) ∨ ∃ v M, X = some (.inr v, M) ∧ wpO (k v M) Φ := by
  obtain ⟨⟨r, M⟩, h1, h2⟩ := wpO_bind (X := X) h
  cases r with
  | inl E => exact Or.inl ⟨E, M, h1, h2⟩
  | inr v => exact Or.inr ⟨v, M, h1, h2⟩
theorem wpO_none {α : Type} {Φ : α → Prop} {Q : Prop} (h : wpO (none : Option α) Φ) : Q := by obtain ⟨_, h, _⟩ := h; cases h
section G3
variable {p : Program} {l : Launch} {e : Env} {R : Room} {s : State} {m : MethodId} {args : Array Value} {below : List Frame} {meth : Method} {c : Code} {g : GB} {nL : Nat} {Q : State → Prop} {cells slots : Nat}
variable {cc : ByteArray} {own : String} {pc pc' : Nat} {lv : List (Nat × Value)} {M M' : Mem}
abbrev ete (q : Nat × Nat × Nat × Nat) : ExceptionTableEntry := ⟨q.1, q.2.1, q.2.2.1, q.2.2.2⟩
/-- an exception of class E in the range of a handler for E, behind handlers of other classes -/
theorem G_catch {hh : List (Nat × Nat × Nat × Nat)} {E : String} (hpre : List (Nat × Nat × Nat × Nat)) (x : Nat × Nat × Nat × Nat) (hsuf : List (Nat × Nat × Nat × Nat)) (K : KF p l s m args meth c g cc nL own) (htb : c.exceptionTable.toList = tableOf hh) (hs : hh = hpre ++ x :: hsuf)
    (hpass : ∀ z ∈ hpre, z.2.2.2 ≠ 0 ∧ ∃ nm : String, Cond.classLink own z.2.2.2 nm ∈ wAll ∧ (E, nm) ∈ NcL) (hx : covers (ete x) pc = true) (h0 : x.2.2.2 ≠ 0) (hl : Cond.classLink own x.2.2.2 E ∈ wAll) (hE : E ∈ ExcC)
    (kk : ∀ q : Addr, GG p l e R s m args below meth c g nL Q cells slots x.2.2.1 lv [.ref q] M) : GX p l e R s m args below meth c g nL Q cells slots pc lv E M := by
  intro H locs ls rest ce q hP hS hl2 h1 h2 h3
  refine vx_catch (name := E) K.1.2.2.2.1 (tableOf hpre) (ete x) (tableOf hsuf) ?_ ?_ hx h0 (K.1.2.2.2.2 _ hl) (va_Nw.use rfl (K.2.1.2.2.2.2.2.1 _ (BwL_cast hE))) h1 h2 h3 (kk q H locs ls hP hS hl2)
  · rw [htb, hs]
    unfold tableOf
    rw [List.map_append, List.map_cons]
  · intro z hz
    obtain ⟨z0, hz0, rfl⟩ := List.mem_map.mp hz
    obtain ⟨a1, nm, a2, a3⟩ := hpass z0 hz0
    exact Or.inr ⟨a1, nm, K.1.2.2.2.2 _ a2, K.2.1.2.2.2.2.2.2.1 (E, nm) a3⟩
/-- a static method with a table of handlers -/
def wdH (own : String) (idx : Nat) (y : MethodName) (b : ByteArray) (nl : Nat) (ret : Option FieldType) (hh : List (Nat × Nat × Nat × Nat)) : Prop := Cond.methodLink own idx y ∈ wAll ∧ Cond.static y ∈ wAll ∧ Cond.initialized y.cls ∈ wAll ∧ Cond.codeWith y b nl ret hh ∈ wAll
theorem good_wsH {idx nl : Nat} {y : MethodName} {b : ByteArray} {ret : Option FieldType} {hh : List (Nat × Nat × Nat × Nat)} (h : wdH own idx y b nl ret hh) : GoodIn wAll (va_wsS own idx y (.codeWith y b nl ret hh :: wAll)) := by
  intro w hw
  have hm : w ∈ wAll := by
    unfold va_wsS at hw
    simp only [List.cons_append, List.nil_append, List.mem_cons] at hw
    rcases hw with rfl | rfl | rfl | rfl | hw
    · exact h.1
    · exact h.2.1
    · exact h.2.2.1
    · exact h.2.2.2
    · exact hw
  exact ⟨hm, wAll_good hm⟩
theorem G_callH {idx nl n : Nat} {y : MethodName} {b : ByteArray} {ret : Option FieldType} {hh : List (Nat × Nat × Nat × Nat)} {rm : Room} (As rest : List Value) {st : List Value} {x : Int32} (K : KF p l s m args meth c g cc nL own) (d : dc cc pc pc' (.invokestatic idx) 3) (hw : wdH own idx y b nl ret hh) (hd : ydN y n)
    (hR : rm.frames + 1 ≤ R.frames ∧ 8 + (nl + 11) + rm.locals ≤ R.locals) (hcs : cells + rm.cells ≤ R.cells ∧ slots + rm.slots ≤ R.slots) (hn : As.length = n) (hst : st = As.reverse ++ rest) (hW : (rest.map fun v => v.category).sum ≤ 8)
    (hC : CT l g y (.codeWith y b nl ret hh :: wAll) rm As M (.inl (some (.int x))) M') (kk : GG p l e R s m args below meth c g nL Q (cells + rm.cells) (slots + rm.slots) pc' lv (.int x :: rest) M') : GG p l e R s m args below meth c g nL Q cells slots pc lv st M := by
  obtain ⟨d, rfl⟩ := d
  intro H locs ls hP hS hl
  exact run_G (y := y) (ws := .codeWith y b nl ret hh :: wAll) (As := As) (a := As.toArray) K hS hl (vx_runSX K.1 (hC H.size) (vx_cwSW (Ts := wAll) (ws' := wAll) n K.1.2.2.2.2 (good_wsH hw) rfl rfl rfl hd hR) ⟨Pic.blind, fun U hU hW => ⟨rfl, Pic.of K hP hS hU hW⟩⟩ rfl hn hl.1 hst (lv_room hW) d hcs) (fun E h => nomatch h) (fun v' h => by cases h; exact kk)
theorem CT.ofH {y : MethodName} {b : ByteArray} {nl : Nat} {ret : Option FieldType} {hh : List (Nat × Nat × Nat × Nat)} {rm : Room} {av : List Value} {r : RV} (lvl : List (Nat × Value)) (hy : plainName y.cls = true) (hlen : (lg_sl av).length ≤ nl) (hlv : lv_args 0 av = lvl) (htr : l.stackTraces = false)
    (hw : ∀ (p : Program) (e : Env) (s : State) (m : MethodId) (args : Array Value) (below : List Frame) (meth : Method) (c : Code), KF p l s m args meth c g b nl y.cls → meth.sig.returnType = ret → c.exceptionTable.toList = tableOf hh →
      GG p l e rm s m args below meth c g nl (vx_MQ below (Qn g s.heap.size r M') (QX g s.heap.size r M') args s rm.cells rm.slots (AS g s.heap.size)) 0 0 0 lvl [] M) : CT l g y (.codeWith y b nl ret hh :: wAll) rm av M r M' := by
  intro sz
  refine vx_ofWH (cc := b) (maxL := nl) (ret := ret) (hh := hh) hy rfl ?_
  intro p e s m args below meth c s₁ B hml hv
  obtain ⟨rfl, hsz, hP, hK, hSt, hI⟩ := hv
  subst hsz
  have hts := atoms_spec (ws := .codeWith y b nl ret hh :: wAll) B.pre
  have ht := vx_table (x := y) B (hts _ List.mem_cons_self)
  have hl := lv_entry av (n := nl) hlen
  rw [hlv] at hl
  rw [lg_entry_eq]
  exact hw p e s m av.toArray below meth c ⟨⟨B.exec, B.bytes, hml, findClass_of_methodNamed B.named, fun w hw => hts w (List.mem_cons_of_mem _ hw)⟩, ⟨hK, hI, hSt⟩, htr, B.notSynchronized⟩ B.returns ht s.heap [] _ hP va_S.rf hl
end G3
def pf_names : List (String × String) := [("abs", "(J)J"), ("floorDiv", "(JJ)J"), ("max", "(II)I"), ("max", "(JJ)J"), ("min", "(II)I"), ("min", "(JJ)J")]
theorem pf_rows : ((Jvm.natives.filter (fun r => r.cls == "java/lang/Math")).all fun r => pf_names.all fun q => !(r.name == q.1 && r.desc == q.2)) = true := by decide +kernel
theorem pf_of {y : MethodName} (hc : y.cls = "java/lang/Math") (hm : (y.name, y.desc) ∈ pf_names) : plainFor y = true := by
  have e : (Jvm.NativeRow.find? Jvm.natives y.cls y.name y.desc) = none := by
    unfold Jvm.NativeRow.find?
    rw [List.find?_eq_none]
    intro r hr hh
    simp only [Bool.and_eq_true, beq_iff_eq] at hh
    obtain ⟨⟨h1, h2⟩, h3⟩ := hh
    have a := List.all_eq_true.mp pf_rows r (List.mem_filter.mpr ⟨hr, by rw [beq_iff_eq, h2, hc]⟩)
    have b := List.all_eq_true.mp a _ hm
    rw [h1, h3] at b
    simp at b
  unfold plainFor
  rw [e, Option.isNone_none, Bool.or_true]
theorem pf_J9_abs_067f4 : plainFor yJ9_abs_067f4 = true := pf_of rfl (List.mem_of_getElem? (i := 0) rfl)
theorem pf_J9_floorDiv_f86c9 : plainFor yJ9_floorDiv_f86c9 = true := pf_of rfl (List.mem_of_getElem? (i := 1) rfl)
theorem pf_J9_max_7cf53 : plainFor yJ9_max_7cf53 = true := pf_of rfl (List.mem_of_getElem? (i := 2) rfl)
theorem pf_J9_max_f86c9 : plainFor yJ9_max_f86c9 = true := pf_of rfl (List.mem_of_getElem? (i := 3) rfl)
theorem pf_J9_min_7cf53 : plainFor yJ9_min_7cf53 = true := pf_of rfl (List.mem_of_getElem? (i := 4) rfl)
theorem pf_J9_min_f86c9 : plainFor yJ9_min_f86c9 = true := pf_of rfl (List.mem_of_getElem? (i := 5) rfl)

theorem sh_0 (g : GB) (M : Mem) : cell g 0 M = .inr (11, [.ref (g.2.1 1), .ref (g.2.1 14), .int (M.1 0 2), .ref (g.2.1 27), .int (M.1 0 4), .ref (g.2.1 34), .ref (g.2.1 52), .ref (g.2.1 68), .ref (g.2.1 79), .ref (g.2.1 80), .ref (g.2.1 91), .ref (g.2.1 93)]) := rfl
theorem sh_1 (g : GB) (M : Mem) : cell g 1 M = .inr (10, [.int (M.1 1 0), .int (M.1 1 1), .int (M.1 1 2), .int (M.1 1 3), .int (M.1 1 4), .int (M.1 1 5), .int (M.1 1 6), .int (M.1 1 7), .int (M.1 1 8), .ref (g.2.1 2), .ref (g.2.1 4), .ref (g.2.1 6), .ref (g.2.1 8), .ref (g.2.1 10), .ref (g.2.1 12)]) := rfl
theorem sh_2 (g : GB) (M : Mem) : cell g 2 M = .inr (7, [.ref (g.2.1 3)]) := rfl
theorem sh_3 (g : GB) (M : Mem) : cell g 3 M = .inl (g.2.2.2.1, 18, .inr (.inl (M.2 3))) := rfl
theorem sh_4 (g : GB) (M : Mem) : cell g 4 M = .inr (7, [.ref (g.2.1 5)]) := rfl
theorem sh_5 (g : GB) (M : Mem) : cell g 5 M = .inl (g.2.2.2.1, 117, .inr (.inl (M.2 5))) := rfl
theorem sh_6 (g : GB) (M : Mem) : cell g 6 M = .inr (7, [.ref (g.2.1 7)]) := rfl
theorem sh_7 (g : GB) (M : Mem) : cell g 7 M = .inl (g.2.2.2.1, 400, .inr (.inl (M.2 7))) := rfl
theorem sh_8 (g : GB) (M : Mem) : cell g 8 M = .inr (7, [.ref (g.2.1 9)]) := rfl
theorem sh_9 (g : GB) (M : Mem) : cell g 9 M = .inl (g.2.2.2.1, 8, .inr (.inl (M.2 9))) := rfl
theorem sh_10 (g : GB) (M : Mem) : cell g 10 M = .inr (7, [.ref (g.2.1 11)]) := rfl
theorem sh_11 (g : GB) (M : Mem) : cell g 11 M = .inl (g.2.2.2.1, 6, .inr (.inl (M.2 11))) := rfl
theorem sh_12 (g : GB) (M : Mem) : cell g 12 M = .inr (7, [.ref (g.2.1 13)]) := rfl
theorem sh_13 (g : GB) (M : Mem) : cell g 13 M = .inl (g.2.2.2.1, 6, .inr (.inl (M.2 13))) := rfl
theorem sh_14 (g : GB) (M : Mem) : cell g 14 M = .inr (10, [.int (M.1 14 0), .int (M.1 14 1), .int (M.1 14 2), .int (M.1 14 3), .int (M.1 14 4), .int (M.1 14 5), .int (M.1 14 6), .int (M.1 14 7), .int (M.1 14 8), .ref (g.2.1 15), .ref (g.2.1 17), .ref (g.2.1 19), .ref (g.2.1 21), .ref (g.2.1 23), .ref (g.2.1 25)]) := rfl
theorem sh_15 (g : GB) (M : Mem) : cell g 15 M = .inr (7, [.ref (g.2.1 16)]) := rfl
theorem sh_16 (g : GB) (M : Mem) : cell g 16 M = .inl (g.2.2.2.1, 18, .inr (.inl (M.2 16))) := rfl
theorem sh_17 (g : GB) (M : Mem) : cell g 17 M = .inr (7, [.ref (g.2.1 18)]) := rfl
theorem sh_18 (g : GB) (M : Mem) : cell g 18 M = .inl (g.2.2.2.1, 117, .inr (.inl (M.2 18))) := rfl
theorem sh_19 (g : GB) (M : Mem) : cell g 19 M = .inr (7, [.ref (g.2.1 20)]) := rfl
theorem sh_20 (g : GB) (M : Mem) : cell g 20 M = .inl (g.2.2.2.1, 400, .inr (.inl (M.2 20))) := rfl
theorem sh_21 (g : GB) (M : Mem) : cell g 21 M = .inr (7, [.ref (g.2.1 22)]) := rfl
theorem sh_22 (g : GB) (M : Mem) : cell g 22 M = .inl (g.2.2.2.1, 8, .inr (.inl (M.2 22))) := rfl
theorem sh_23 (g : GB) (M : Mem) : cell g 23 M = .inr (7, [.ref (g.2.1 24)]) := rfl
theorem sh_24 (g : GB) (M : Mem) : cell g 24 M = .inl (g.2.2.2.1, 6, .inr (.inl (M.2 24))) := rfl
theorem sh_25 (g : GB) (M : Mem) : cell g 25 M = .inr (7, [.ref (g.2.1 26)]) := rfl
theorem sh_26 (g : GB) (M : Mem) : cell g 26 M = .inl (g.2.2.2.1, 6, .inr (.inl (M.2 26))) := rfl
theorem sh_27 (g : GB) (M : Mem) : cell g 27 M = .inr (8, [.ref (g.2.1 28), .int (M.1 27 1), .ref (g.2.1 30), .ref (g.2.1 32), .int (M.1 27 4), .int (M.1 27 5), .int (M.1 27 6), .int (M.1 27 7)]) := rfl
theorem sh_28 (g : GB) (M : Mem) : cell g 28 M = .inr (7, [.ref (g.2.1 29)]) := rfl
theorem sh_29 (g : GB) (M : Mem) : cell g 29 M = .inl (g.2.2.2.1, 400, .inr (.inl (M.2 29))) := rfl
theorem sh_30 (g : GB) (M : Mem) : cell g 30 M = .inr (7, [.ref (g.2.1 31)]) := rfl
theorem sh_31 (g : GB) (M : Mem) : cell g 31 M = .inl (g.2.2.2.1, 13, .inr (.inl (M.2 31))) := rfl
theorem sh_32 (g : GB) (M : Mem) : cell g 32 M = .inr (7, [.ref (g.2.1 33)]) := rfl
theorem sh_33 (g : GB) (M : Mem) : cell g 33 M = .inl (g.2.2.2.1, 3, .inr (.inl (M.2 33))) := rfl
theorem sh_34 (g : GB) (M : Mem) : cell g 34 M = .inr (6, [.ref (g.2.1 1), .ref (g.2.1 35), .int (M.1 34 2), .int (M.1 34 3), .int (M.1 34 4), .int (M.1 34 5), .ref (g.2.1 48), .ref (g.2.1 50)]) := rfl
theorem sh_35 (g : GB) (M : Mem) : cell g 35 M = .inr (2, [.ref (g.2.1 36), .ref (g.2.1 38), .ref (g.2.1 40), .ref (g.2.1 42), .ref (g.2.1 44), .ref (g.2.1 46), .long (M.2 35 6), .long (M.2 35 7)]) := rfl
theorem sh_36 (g : GB) (M : Mem) : cell g 36 M = .inr (7, [.ref (g.2.1 37)]) := rfl
theorem sh_37 (g : GB) (M : Mem) : cell g 37 M = .inl (g.2.2.2.1, 9, .inr (.inl (M.2 37))) := rfl
theorem sh_38 (g : GB) (M : Mem) : cell g 38 M = .inr (7, [.ref (g.2.1 39)]) := rfl
theorem sh_39 (g : GB) (M : Mem) : cell g 39 M = .inl (g.2.2.2.1, 18, .inr (.inl (M.2 39))) := rfl
theorem sh_40 (g : GB) (M : Mem) : cell g 40 M = .inr (7, [.ref (g.2.1 41)]) := rfl
theorem sh_41 (g : GB) (M : Mem) : cell g 41 M = .inl (g.2.2.2.1, 18, .inr (.inl (M.2 41))) := rfl
theorem sh_42 (g : GB) (M : Mem) : cell g 42 M = .inr (7, [.ref (g.2.1 43)]) := rfl
theorem sh_43 (g : GB) (M : Mem) : cell g 43 M = .inl (g.2.2.2.1, 9, .inr (.inl (M.2 43))) := rfl
theorem sh_44 (g : GB) (M : Mem) : cell g 44 M = .inr (7, [.ref (g.2.1 45)]) := rfl
theorem sh_45 (g : GB) (M : Mem) : cell g 45 M = .inl (g.2.2.2.1, 9, .inr (.inl (M.2 45))) := rfl
theorem sh_46 (g : GB) (M : Mem) : cell g 46 M = .inr (7, [.ref (g.2.1 47)]) := rfl
theorem sh_47 (g : GB) (M : Mem) : cell g 47 M = .inl (g.2.2.2.1, 9, .inr (.inl (M.2 47))) := rfl
theorem sh_48 (g : GB) (M : Mem) : cell g 48 M = .inr (7, [.ref (g.2.1 49)]) := rfl
theorem sh_49 (g : GB) (M : Mem) : cell g 49 M = .inl (g.2.2.2.1, 16, .inr (.inl (M.2 49))) := rfl
theorem sh_50 (g : GB) (M : Mem) : cell g 50 M = .inr (7, [.ref (g.2.1 51)]) := rfl
theorem sh_51 (g : GB) (M : Mem) : cell g 51 M = .inl (g.2.2.2.1, 8, .inr (.inl (M.2 51))) := rfl
theorem sh_52 (g : GB) (M : Mem) : cell g 52 M = .inr (0, [.ref (g.2.1 1), .ref (g.2.1 53), .ref (g.2.1 66), .int (M.1 52 3), .int (M.1 52 4), .int (M.1 52 5)]) := rfl
theorem sh_53 (g : GB) (M : Mem) : cell g 53 M = .inr (2, [.ref (g.2.1 54), .ref (g.2.1 56), .ref (g.2.1 58), .ref (g.2.1 60), .ref (g.2.1 62), .ref (g.2.1 64), .long (M.2 53 6), .long (M.2 53 7)]) := rfl
theorem sh_54 (g : GB) (M : Mem) : cell g 54 M = .inr (7, [.ref (g.2.1 55)]) := rfl
theorem sh_55 (g : GB) (M : Mem) : cell g 55 M = .inl (g.2.2.2.1, 9, .inr (.inl (M.2 55))) := rfl
theorem sh_56 (g : GB) (M : Mem) : cell g 56 M = .inr (7, [.ref (g.2.1 57)]) := rfl
theorem sh_57 (g : GB) (M : Mem) : cell g 57 M = .inl (g.2.2.2.1, 18, .inr (.inl (M.2 57))) := rfl
theorem sh_58 (g : GB) (M : Mem) : cell g 58 M = .inr (7, [.ref (g.2.1 59)]) := rfl
theorem sh_59 (g : GB) (M : Mem) : cell g 59 M = .inl (g.2.2.2.1, 18, .inr (.inl (M.2 59))) := rfl
theorem sh_60 (g : GB) (M : Mem) : cell g 60 M = .inr (7, [.ref (g.2.1 61)]) := rfl
theorem sh_61 (g : GB) (M : Mem) : cell g 61 M = .inl (g.2.2.2.1, 9, .inr (.inl (M.2 61))) := rfl
theorem sh_62 (g : GB) (M : Mem) : cell g 62 M = .inr (7, [.ref (g.2.1 63)]) := rfl
theorem sh_63 (g : GB) (M : Mem) : cell g 63 M = .inl (g.2.2.2.1, 9, .inr (.inl (M.2 63))) := rfl
theorem sh_64 (g : GB) (M : Mem) : cell g 64 M = .inr (7, [.ref (g.2.1 65)]) := rfl
theorem sh_65 (g : GB) (M : Mem) : cell g 65 M = .inl (g.2.2.2.1, 9, .inr (.inl (M.2 65))) := rfl
theorem sh_66 (g : GB) (M : Mem) : cell g 66 M = .inr (7, [.ref (g.2.1 67)]) := rfl
theorem sh_67 (g : GB) (M : Mem) : cell g 67 M = .inl (g.2.2.2.1, 3, .inr (.inl (M.2 67))) := rfl
theorem sh_68 (g : GB) (M : Mem) : cell g 68 M = .inr (4, [.ref (g.2.1 1), .ref (g.2.1 69), .ref (g.2.1 71), .long (M.2 68 3), .long (M.2 68 4), .int (M.1 68 5), .ref (g.2.1 73), .ref (g.2.1 75), .ref (g.2.1 77)]) := rfl
theorem sh_69 (g : GB) (M : Mem) : cell g 69 M = .inr (7, [.ref (g.2.1 70)]) := rfl
theorem sh_70 (g : GB) (M : Mem) : cell g 70 M = .inl (g.2.2.2.1, 9, .inr (.inl (M.2 70))) := rfl
theorem sh_71 (g : GB) (M : Mem) : cell g 71 M = .inr (7, [.ref (g.2.1 72)]) := rfl
theorem sh_72 (g : GB) (M : Mem) : cell g 72 M = .inl (g.2.2.2.1, 3, .inr (.inl (M.2 72))) := rfl
theorem sh_73 (g : GB) (M : Mem) : cell g 73 M = .inr (7, [.ref (g.2.1 74)]) := rfl
theorem sh_74 (g : GB) (M : Mem) : cell g 74 M = .inl (g.2.2.2.1, 9, .inr (.inl (M.2 74))) := rfl
theorem sh_75 (g : GB) (M : Mem) : cell g 75 M = .inr (7, [.ref (g.2.1 76)]) := rfl
theorem sh_76 (g : GB) (M : Mem) : cell g 76 M = .inl (g.2.2.2.1, 9, .inr (.inl (M.2 76))) := rfl
theorem sh_77 (g : GB) (M : Mem) : cell g 77 M = .inr (7, [.ref (g.2.1 78)]) := rfl
theorem sh_78 (g : GB) (M : Mem) : cell g 78 M = .inl (g.2.2.2.1, 10, .inr (.inl (M.2 78))) := rfl
theorem sh_79 (g : GB) (M : Mem) : cell g 79 M = .inr (9, [.ref (g.2.1 1), .int (M.1 79 1), .int (M.1 79 2), .int (M.1 79 3), .int (M.1 79 4), .int (M.1 79 5)]) := rfl
theorem sh_80 (g : GB) (M : Mem) : cell g 80 M = .inr (3, [.ref (g.2.1 1), .ref (g.2.1 79), .ref (g.2.1 81), .ref (g.2.1 83), .ref (g.2.1 85), .ref (g.2.1 87), .ref (g.2.1 89)]) := rfl
theorem sh_81 (g : GB) (M : Mem) : cell g 81 M = .inr (7, [.ref (g.2.1 82)]) := rfl
theorem sh_82 (g : GB) (M : Mem) : cell g 82 M = .inl (g.2.2.2.1, 8, .inr (.inl (M.2 82))) := rfl
theorem sh_83 (g : GB) (M : Mem) : cell g 83 M = .inr (7, [.ref (g.2.1 84)]) := rfl
theorem sh_84 (g : GB) (M : Mem) : cell g 84 M = .inl (g.2.2.2.1, 64, .inr (.inl (M.2 84))) := rfl
theorem sh_85 (g : GB) (M : Mem) : cell g 85 M = .inr (7, [.ref (g.2.1 86)]) := rfl
theorem sh_86 (g : GB) (M : Mem) : cell g 86 M = .inl (g.2.2.2.1, 8, .inr (.inl (M.2 86))) := rfl
theorem sh_87 (g : GB) (M : Mem) : cell g 87 M = .inr (7, [.ref (g.2.1 88)]) := rfl
theorem sh_88 (g : GB) (M : Mem) : cell g 88 M = .inl (g.2.2.2.1, 8, .inr (.inl (M.2 88))) := rfl
theorem sh_89 (g : GB) (M : Mem) : cell g 89 M = .inr (7, [.ref (g.2.1 90)]) := rfl
theorem sh_90 (g : GB) (M : Mem) : cell g 90 M = .inl (g.2.2.2.1, 8, .inr (.inl (M.2 90))) := rfl
theorem sh_91 (g : GB) (M : Mem) : cell g 91 M = .inr (1, [.ref (g.2.1 1), .ref (g.2.1 92)]) := rfl
theorem sh_92 (g : GB) (M : Mem) : cell g 92 M = .inr (5, [.long (M.2 92 0), .long (M.2 92 1)]) := rfl
theorem sh_93 (g : GB) (M : Mem) : cell g 93 M = .inr (5, [.long (M.2 93 0), .long (M.2 93 1)]) := rfl
theorem sh_94 (g : GB) (M : Mem) : cell g 94 M = .inr (12, [.int (M.1 94 0), .ref (g.2.1 95), .ref (g.2.1 96), .int (M.1 94 3), .ref (g.2.1 97), .int (M.1 94 5), .int (M.1 94 6), .int (M.1 94 7), .int (M.1 94 8), .int (M.1 94 9), .ref (g.2.1 98), .ref (g.2.1 99), .ref (g.2.1 100), .ref (g.2.1 101), .int (M.1 94 14), .long (M.2 94 15), .long (M.2 94 16), .ref (g.2.1 102), .ref (g.2.1 103), .int (M.1 94 19), .int (M.1 94 20), .ref (g.2.1 104), .ref (g.2.1 105), .ref (g.2.1 106), .ref (g.2.1 107), .ref (g.2.1 108), .ref (g.2.1 109), .ref (g.2.1 110), .ref (g.2.1 111), .ref (g.2.1 112), .ref (g.2.1 113), .ref (g.2.1 114), .ref (g.2.1 115), .ref (g.2.1 116), .ref (g.2.1 117), .int (M.1 94 35), .int (M.1 94 36), .int (M.1 94 37), .ref (g.2.1 118), .ref (g.2.1 119), .ref (g.2.1 120)]) := rfl
theorem sh_95 (g : GB) (M : Mem) : cell g 95 M = .inl (g.2.2.1, 564, .inl (M.1 95)) := rfl
theorem sh_96 (g : GB) (M : Mem) : cell g 96 M = .inl (g.2.2.1, 564, .inl (M.1 96)) := rfl
theorem sh_97 (g : GB) (M : Mem) : cell g 97 M = .inl (g.2.2.2.2, 400, .inl (M.1 97)) := rfl
theorem sh_98 (g : GB) (M : Mem) : cell g 98 M = .inl (g.2.2.1, 5, .inl (M.1 98)) := rfl
theorem sh_99 (g : GB) (M : Mem) : cell g 99 M = .inl (g.2.2.1, 13, .inl (M.1 99)) := rfl
theorem sh_100 (g : GB) (M : Mem) : cell g 100 M = .inl (g.2.2.1, 400, .inl (M.1 100)) := rfl
theorem sh_101 (g : GB) (M : Mem) : cell g 101 M = .inl (g.2.2.1, 400, .inl (M.1 101)) := rfl
theorem sh_102 (g : GB) (M : Mem) : cell g 102 M = .inl (g.2.2.1, 10, .inl (M.1 102)) := rfl
theorem sh_103 (g : GB) (M : Mem) : cell g 103 M = .inl (g.2.2.1, 9, .inl (M.1 103)) := rfl
theorem sh_104 (g : GB) (M : Mem) : cell g 104 M = .inl (g.2.2.2.1, 18, .inr (.inl (M.2 104))) := rfl
theorem sh_105 (g : GB) (M : Mem) : cell g 105 M = .inl (g.2.2.2.1, 18, .inr (.inl (M.2 105))) := rfl
theorem sh_106 (g : GB) (M : Mem) : cell g 106 M = .inl (g.2.2.2.1, 3, .inr (.inl (M.2 106))) := rfl
theorem sh_107 (g : GB) (M : Mem) : cell g 107 M = .inl (g.2.2.2.1, 3, .inr (.inl (M.2 107))) := rfl
theorem sh_108 (g : GB) (M : Mem) : cell g 108 M = .inl (g.2.2.1, 3, .inl (M.1 108)) := rfl
theorem sh_109 (g : GB) (M : Mem) : cell g 109 M = .inl (g.2.2.1, 3, .inl (M.1 109)) := rfl
theorem sh_110 (g : GB) (M : Mem) : cell g 110 M = .inl (g.2.2.2.1, 16, .inr (.inl (M.2 110))) := rfl
theorem sh_111 (g : GB) (M : Mem) : cell g 111 M = .inl (g.2.2.2.1, 16, .inr (.inl (M.2 111))) := rfl
theorem sh_112 (g : GB) (M : Mem) : cell g 112 M = .inl (g.2.2.2.1, 3, .inr (.inl (M.2 112))) := rfl
theorem sh_113 (g : GB) (M : Mem) : cell g 113 M = .inl (g.2.2.2.1, 3, .inr (.inl (M.2 113))) := rfl
theorem sh_114 (g : GB) (M : Mem) : cell g 114 M = .inl (g.2.2.1, 9, .inl (M.1 114)) := rfl
theorem sh_115 (g : GB) (M : Mem) : cell g 115 M = .inl (g.2.2.1, 9, .inl (M.1 115)) := rfl
theorem sh_116 (g : GB) (M : Mem) : cell g 116 M = .inl (g.2.2.1, 10, .inl (M.1 116)) := rfl
theorem sh_117 (g : GB) (M : Mem) : cell g 117 M = .inl (g.2.2.1, 10, .inl (M.1 117)) := rfl
theorem sh_118 (g : GB) (M : Mem) : cell g 118 M = .inl (g.2.2.1, 64, .inl (M.1 118)) := rfl
theorem sh_119 (g : GB) (M : Mem) : cell g 119 M = .inl (g.2.2.2.1, 8, .inr (.inl (M.2 119))) := rfl
theorem sh_120 (g : GB) (M : Mem) : cell g 120 M = .inl (g.2.2.2.1, 8, .inr (.inl (M.2 120))) := rfl
theorem sh_121 (g : GB) (M : Mem) : cell g 121 M = .inl (g.2.2.2.1, 1, .inr (.inl (M.2 121))) := rfl
theorem put_5_0 (g : GB) (b : Nat) (M : Mem) (v : Int64) : ([.long (M.2 b 0), .long (M.2 b 1)] : List Value).set 0 (.long v) = [.long ((mSL M b 0 v).2 b 0), .long ((mSL M b 0 v).2 b 1)] := by simp [mSL, vp_updL]
theorem put_5_1 (g : GB) (b : Nat) (M : Mem) (v : Int64) : ([.long (M.2 b 0), .long (M.2 b 1)] : List Value).set 1 (.long v) = [.long ((mSL M b 1 v).2 b 0), .long ((mSL M b 1 v).2 b 1)] := by simp [mSL, vp_updL]
theorem put_2_6 (g : GB) (b : Nat) (M : Mem) (v : Int64) : ([.ref (g.2.1 (b + 1)), .ref (g.2.1 (b + 3)), .ref (g.2.1 (b + 5)), .ref (g.2.1 (b + 7)), .ref (g.2.1 (b + 9)), .ref (g.2.1 (b + 11)), .long (M.2 b 6), .long (M.2 b 7)] : List Value).set 6 (.long v) = [.ref (g.2.1 (b + 1)), .ref (g.2.1 (b + 3)), .ref (g.2.1 (b + 5)), .ref (g.2.1 (b + 7)), .ref (g.2.1 (b + 9)), .ref (g.2.1 (b + 11)), .long ((mSL M b 6 v).2 b 6), .long ((mSL M b 6 v).2 b 7)] := by simp [mSL, vp_updL]
theorem put_2_7 (g : GB) (b : Nat) (M : Mem) (v : Int64) : ([.ref (g.2.1 (b + 1)), .ref (g.2.1 (b + 3)), .ref (g.2.1 (b + 5)), .ref (g.2.1 (b + 7)), .ref (g.2.1 (b + 9)), .ref (g.2.1 (b + 11)), .long (M.2 b 6), .long (M.2 b 7)] : List Value).set 7 (.long v) = [.ref (g.2.1 (b + 1)), .ref (g.2.1 (b + 3)), .ref (g.2.1 (b + 5)), .ref (g.2.1 (b + 7)), .ref (g.2.1 (b + 9)), .ref (g.2.1 (b + 11)), .long ((mSL M b 7 v).2 b 6), .long ((mSL M b 7 v).2 b 7)] := by simp [mSL, vp_updL]
theorem put_10_0 (g : GB) (b : Nat) (M : Mem) (v : Int32) : ([.int (M.1 b 0), .int (M.1 b 1), .int (M.1 b 2), .int (M.1 b 3), .int (M.1 b 4), .int (M.1 b 5), .int (M.1 b 6), .int (M.1 b 7), .int (M.1 b 8), .ref (g.2.1 (b + 1)), .ref (g.2.1 (b + 3)), .ref (g.2.1 (b + 5)), .ref (g.2.1 (b + 7)), .ref (g.2.1 (b + 9)), .ref (g.2.1 (b + 11))] : List Value).set 0 (.int v) = [.int ((mSI M b 0 v).1 b 0), .int ((mSI M b 0 v).1 b 1), .int ((mSI M b 0 v).1 b 2), .int ((mSI M b 0 v).1 b 3), .int ((mSI M b 0 v).1 b 4), .int ((mSI M b 0 v).1 b 5), .int ((mSI M b 0 v).1 b 6), .int ((mSI M b 0 v).1 b 7), .int ((mSI M b 0 v).1 b 8), .ref (g.2.1 (b + 1)), .ref (g.2.1 (b + 3)), .ref (g.2.1 (b + 5)), .ref (g.2.1 (b + 7)), .ref (g.2.1 (b + 9)), .ref (g.2.1 (b + 11))] := by simp [mSI, upd]
theorem put_10_1 (g : GB) (b : Nat) (M : Mem) (v : Int32) : ([.int (M.1 b 0), .int (M.1 b 1), .int (M.1 b 2), .int (M.1 b 3), .int (M.1 b 4), .int (M.1 b 5), .int (M.1 b 6), .int (M.1 b 7), .int (M.1 b 8), .ref (g.2.1 (b + 1)), .ref (g.2.1 (b + 3)), .ref (g.2.1 (b + 5)), .ref (g.2.1 (b + 7)), .ref (g.2.1 (b + 9)), .ref (g.2.1 (b + 11))] : List Value).set 1 (.int v) = [.int ((mSI M b 1 v).1 b 0), .int ((mSI M b 1 v).1 b 1), .int ((mSI M b 1 v).1 b 2), .int ((mSI M b 1 v).1 b 3), .int ((mSI M b 1 v).1 b 4), .int ((mSI M b 1 v).1 b 5), .int ((mSI M b 1 v).1 b 6), .int ((mSI M b 1 v).1 b 7), .int ((mSI M b 1 v).1 b 8), .ref (g.2.1 (b + 1)), .ref (g.2.1 (b + 3)), .ref (g.2.1 (b + 5)), .ref (g.2.1 (b + 7)), .ref (g.2.1 (b + 9)), .ref (g.2.1 (b + 11))] := by simp [mSI, upd]
theorem put_10_2 (g : GB) (b : Nat) (M : Mem) (v : Int32) : ([.int (M.1 b 0), .int (M.1 b 1), .int (M.1 b 2), .int (M.1 b 3), .int (M.1 b 4), .int (M.1 b 5), .int (M.1 b 6), .int (M.1 b 7), .int (M.1 b 8), .ref (g.2.1 (b + 1)), .ref (g.2.1 (b + 3)), .ref (g.2.1 (b + 5)), .ref (g.2.1 (b + 7)), .ref (g.2.1 (b + 9)), .ref (g.2.1 (b + 11))] : List Value).set 2 (.int v) = [.int ((mSI M b 2 v).1 b 0), .int ((mSI M b 2 v).1 b 1), .int ((mSI M b 2 v).1 b 2), .int ((mSI M b 2 v).1 b 3), .int ((mSI M b 2 v).1 b 4), .int ((mSI M b 2 v).1 b 5), .int ((mSI M b 2 v).1 b 6), .int ((mSI M b 2 v).1 b 7), .int ((mSI M b 2 v).1 b 8), .ref (g.2.1 (b + 1)), .ref (g.2.1 (b + 3)), .ref (g.2.1 (b + 5)), .ref (g.2.1 (b + 7)), .ref (g.2.1 (b + 9)), .ref (g.2.1 (b + 11))] := by simp [mSI, upd]
theorem put_10_3 (g : GB) (b : Nat) (M : Mem) (v : Int32) : ([.int (M.1 b 0), .int (M.1 b 1), .int (M.1 b 2), .int (M.1 b 3), .int (M.1 b 4), .int (M.1 b 5), .int (M.1 b 6), .int (M.1 b 7), .int (M.1 b 8), .ref (g.2.1 (b + 1)), .ref (g.2.1 (b + 3)), .ref (g.2.1 (b + 5)), .ref (g.2.1 (b + 7)), .ref (g.2.1 (b + 9)), .ref (g.2.1 (b + 11))] : List Value).set 3 (.int v) = [.int ((mSI M b 3 v).1 b 0), .int ((mSI M b 3 v).1 b 1), .int ((mSI M b 3 v).1 b 2), .int ((mSI M b 3 v).1 b 3), .int ((mSI M b 3 v).1 b 4), .int ((mSI M b 3 v).1 b 5), .int ((mSI M b 3 v).1 b 6), .int ((mSI M b 3 v).1 b 7), .int ((mSI M b 3 v).1 b 8), .ref (g.2.1 (b + 1)), .ref (g.2.1 (b + 3)), .ref (g.2.1 (b + 5)), .ref (g.2.1 (b + 7)), .ref (g.2.1 (b + 9)), .ref (g.2.1 (b + 11))] := by simp [mSI, upd]
theorem put_10_4 (g : GB) (b : Nat) (M : Mem) (v : Int32) : ([.int (M.1 b 0), .int (M.1 b 1), .int (M.1 b 2), .int (M.1 b 3), .int (M.1 b 4), .int (M.1 b 5), .int (M.1 b 6), .int (M.1 b 7), .int (M.1 b 8), .ref (g.2.1 (b + 1)), .ref (g.2.1 (b + 3)), .ref (g.2.1 (b + 5)), .ref (g.2.1 (b + 7)), .ref (g.2.1 (b + 9)), .ref (g.2.1 (b + 11))] : List Value).set 4 (.int v) = [.int ((mSI M b 4 v).1 b 0), .int ((mSI M b 4 v).1 b 1), .int ((mSI M b 4 v).1 b 2), .int ((mSI M b 4 v).1 b 3), .int ((mSI M b 4 v).1 b 4), .int ((mSI M b 4 v).1 b 5), .int ((mSI M b 4 v).1 b 6), .int ((mSI M b 4 v).1 b 7), .int ((mSI M b 4 v).1 b 8), .ref (g.2.1 (b + 1)), .ref (g.2.1 (b + 3)), .ref (g.2.1 (b + 5)), .ref (g.2.1 (b + 7)), .ref (g.2.1 (b + 9)), .ref (g.2.1 (b + 11))] := by simp [mSI, upd]
theorem put_10_5 (g : GB) (b : Nat) (M : Mem) (v : Int32) : ([.int (M.1 b 0), .int (M.1 b 1), .int (M.1 b 2), .int (M.1 b 3), .int (M.1 b 4), .int (M.1 b 5), .int (M.1 b 6), .int (M.1 b 7), .int (M.1 b 8), .ref (g.2.1 (b + 1)), .ref (g.2.1 (b + 3)), .ref (g.2.1 (b + 5)), .ref (g.2.1 (b + 7)), .ref (g.2.1 (b + 9)), .ref (g.2.1 (b + 11))] : List Value).set 5 (.int v) = [.int ((mSI M b 5 v).1 b 0), .int ((mSI M b 5 v).1 b 1), .int ((mSI M b 5 v).1 b 2), .int ((mSI M b 5 v).1 b 3), .int ((mSI M b 5 v).1 b 4), .int ((mSI M b 5 v).1 b 5), .int ((mSI M b 5 v).1 b 6), .int ((mSI M b 5 v).1 b 7), .int ((mSI M b 5 v).1 b 8), .ref (g.2.1 (b + 1)), .ref (g.2.1 (b + 3)), .ref (g.2.1 (b + 5)), .ref (g.2.1 (b + 7)), .ref (g.2.1 (b + 9)), .ref (g.2.1 (b + 11))] := by simp [mSI, upd]
theorem put_10_6 (g : GB) (b : Nat) (M : Mem) (v : Int32) : ([.int (M.1 b 0), .int (M.1 b 1), .int (M.1 b 2), .int (M.1 b 3), .int (M.1 b 4), .int (M.1 b 5), .int (M.1 b 6), .int (M.1 b 7), .int (M.1 b 8), .ref (g.2.1 (b + 1)), .ref (g.2.1 (b + 3)), .ref (g.2.1 (b + 5)), .ref (g.2.1 (b + 7)), .ref (g.2.1 (b + 9)), .ref (g.2.1 (b + 11))] : List Value).set 6 (.int v) = [.int ((mSI M b 6 v).1 b 0), .int ((mSI M b 6 v).1 b 1), .int ((mSI M b 6 v).1 b 2), .int ((mSI M b 6 v).1 b 3), .int ((mSI M b 6 v).1 b 4), .int ((mSI M b 6 v).1 b 5), .int ((mSI M b 6 v).1 b 6), .int ((mSI M b 6 v).1 b 7), .int ((mSI M b 6 v).1 b 8), .ref (g.2.1 (b + 1)), .ref (g.2.1 (b + 3)), .ref (g.2.1 (b + 5)), .ref (g.2.1 (b + 7)), .ref (g.2.1 (b + 9)), .ref (g.2.1 (b + 11))] := by simp [mSI, upd]
theorem put_10_7 (g : GB) (b : Nat) (M : Mem) (v : Int32) : ([.int (M.1 b 0), .int (M.1 b 1), .int (M.1 b 2), .int (M.1 b 3), .int (M.1 b 4), .int (M.1 b 5), .int (M.1 b 6), .int (M.1 b 7), .int (M.1 b 8), .ref (g.2.1 (b + 1)), .ref (g.2.1 (b + 3)), .ref (g.2.1 (b + 5)), .ref (g.2.1 (b + 7)), .ref (g.2.1 (b + 9)), .ref (g.2.1 (b + 11))] : List Value).set 7 (.int v) = [.int ((mSI M b 7 v).1 b 0), .int ((mSI M b 7 v).1 b 1), .int ((mSI M b 7 v).1 b 2), .int ((mSI M b 7 v).1 b 3), .int ((mSI M b 7 v).1 b 4), .int ((mSI M b 7 v).1 b 5), .int ((mSI M b 7 v).1 b 6), .int ((mSI M b 7 v).1 b 7), .int ((mSI M b 7 v).1 b 8), .ref (g.2.1 (b + 1)), .ref (g.2.1 (b + 3)), .ref (g.2.1 (b + 5)), .ref (g.2.1 (b + 7)), .ref (g.2.1 (b + 9)), .ref (g.2.1 (b + 11))] := by simp [mSI, upd]
theorem put_10_8 (g : GB) (b : Nat) (M : Mem) (v : Int32) : ([.int (M.1 b 0), .int (M.1 b 1), .int (M.1 b 2), .int (M.1 b 3), .int (M.1 b 4), .int (M.1 b 5), .int (M.1 b 6), .int (M.1 b 7), .int (M.1 b 8), .ref (g.2.1 (b + 1)), .ref (g.2.1 (b + 3)), .ref (g.2.1 (b + 5)), .ref (g.2.1 (b + 7)), .ref (g.2.1 (b + 9)), .ref (g.2.1 (b + 11))] : List Value).set 8 (.int v) = [.int ((mSI M b 8 v).1 b 0), .int ((mSI M b 8 v).1 b 1), .int ((mSI M b 8 v).1 b 2), .int ((mSI M b 8 v).1 b 3), .int ((mSI M b 8 v).1 b 4), .int ((mSI M b 8 v).1 b 5), .int ((mSI M b 8 v).1 b 6), .int ((mSI M b 8 v).1 b 7), .int ((mSI M b 8 v).1 b 8), .ref (g.2.1 (b + 1)), .ref (g.2.1 (b + 3)), .ref (g.2.1 (b + 5)), .ref (g.2.1 (b + 7)), .ref (g.2.1 (b + 9)), .ref (g.2.1 (b + 11))] := by simp [mSI, upd]
theorem isRow_2 : isRow 2 3 18 := ⟨Nat.le_of_ble_eq_true rfl, Nat.le_of_ble_eq_true rfl, sh_2, sh_3⟩
theorem isRow_4 : isRow 4 5 117 := ⟨Nat.le_of_ble_eq_true rfl, Nat.le_of_ble_eq_true rfl, sh_4, sh_5⟩
theorem isRow_6 : isRow 6 7 400 := ⟨Nat.le_of_ble_eq_true rfl, Nat.le_of_ble_eq_true rfl, sh_6, sh_7⟩
theorem isRow_8 : isRow 8 9 8 := ⟨Nat.le_of_ble_eq_true rfl, Nat.le_of_ble_eq_true rfl, sh_8, sh_9⟩
theorem isRow_10 : isRow 10 11 6 := ⟨Nat.le_of_ble_eq_true rfl, Nat.le_of_ble_eq_true rfl, sh_10, sh_11⟩
theorem isRow_12 : isRow 12 13 6 := ⟨Nat.le_of_ble_eq_true rfl, Nat.le_of_ble_eq_true rfl, sh_12, sh_13⟩
theorem isRow_15 : isRow 15 16 18 := ⟨Nat.le_of_ble_eq_true rfl, Nat.le_of_ble_eq_true rfl, sh_15, sh_16⟩
theorem isRow_17 : isRow 17 18 117 := ⟨Nat.le_of_ble_eq_true rfl, Nat.le_of_ble_eq_true rfl, sh_17, sh_18⟩
theorem isRow_19 : isRow 19 20 400 := ⟨Nat.le_of_ble_eq_true rfl, Nat.le_of_ble_eq_true rfl, sh_19, sh_20⟩
theorem isRow_21 : isRow 21 22 8 := ⟨Nat.le_of_ble_eq_true rfl, Nat.le_of_ble_eq_true rfl, sh_21, sh_22⟩
theorem isRow_23 : isRow 23 24 6 := ⟨Nat.le_of_ble_eq_true rfl, Nat.le_of_ble_eq_true rfl, sh_23, sh_24⟩
theorem isRow_25 : isRow 25 26 6 := ⟨Nat.le_of_ble_eq_true rfl, Nat.le_of_ble_eq_true rfl, sh_25, sh_26⟩
theorem isRow_28 : isRow 28 29 400 := ⟨Nat.le_of_ble_eq_true rfl, Nat.le_of_ble_eq_true rfl, sh_28, sh_29⟩
theorem isRow_30 : isRow 30 31 13 := ⟨Nat.le_of_ble_eq_true rfl, Nat.le_of_ble_eq_true rfl, sh_30, sh_31⟩
theorem isRow_32 : isRow 32 33 3 := ⟨Nat.le_of_ble_eq_true rfl, Nat.le_of_ble_eq_true rfl, sh_32, sh_33⟩
theorem isRow_36 : isRow 36 37 9 := ⟨Nat.le_of_ble_eq_true rfl, Nat.le_of_ble_eq_true rfl, sh_36, sh_37⟩
theorem isRow_38 : isRow 38 39 18 := ⟨Nat.le_of_ble_eq_true rfl, Nat.le_of_ble_eq_true rfl, sh_38, sh_39⟩
theorem isRow_40 : isRow 40 41 18 := ⟨Nat.le_of_ble_eq_true rfl, Nat.le_of_ble_eq_true rfl, sh_40, sh_41⟩
theorem isRow_42 : isRow 42 43 9 := ⟨Nat.le_of_ble_eq_true rfl, Nat.le_of_ble_eq_true rfl, sh_42, sh_43⟩
theorem isRow_44 : isRow 44 45 9 := ⟨Nat.le_of_ble_eq_true rfl, Nat.le_of_ble_eq_true rfl, sh_44, sh_45⟩
theorem isRow_46 : isRow 46 47 9 := ⟨Nat.le_of_ble_eq_true rfl, Nat.le_of_ble_eq_true rfl, sh_46, sh_47⟩
theorem isRow_48 : isRow 48 49 16 := ⟨Nat.le_of_ble_eq_true rfl, Nat.le_of_ble_eq_true rfl, sh_48, sh_49⟩
theorem isRow_50 : isRow 50 51 8 := ⟨Nat.le_of_ble_eq_true rfl, Nat.le_of_ble_eq_true rfl, sh_50, sh_51⟩
theorem isRow_54 : isRow 54 55 9 := ⟨Nat.le_of_ble_eq_true rfl, Nat.le_of_ble_eq_true rfl, sh_54, sh_55⟩
theorem isRow_56 : isRow 56 57 18 := ⟨Nat.le_of_ble_eq_true rfl, Nat.le_of_ble_eq_true rfl, sh_56, sh_57⟩
theorem isRow_58 : isRow 58 59 18 := ⟨Nat.le_of_ble_eq_true rfl, Nat.le_of_ble_eq_true rfl, sh_58, sh_59⟩
theorem isRow_60 : isRow 60 61 9 := ⟨Nat.le_of_ble_eq_true rfl, Nat.le_of_ble_eq_true rfl, sh_60, sh_61⟩
theorem isRow_62 : isRow 62 63 9 := ⟨Nat.le_of_ble_eq_true rfl, Nat.le_of_ble_eq_true rfl, sh_62, sh_63⟩
theorem isRow_64 : isRow 64 65 9 := ⟨Nat.le_of_ble_eq_true rfl, Nat.le_of_ble_eq_true rfl, sh_64, sh_65⟩
theorem isRow_66 : isRow 66 67 3 := ⟨Nat.le_of_ble_eq_true rfl, Nat.le_of_ble_eq_true rfl, sh_66, sh_67⟩
theorem isRow_69 : isRow 69 70 9 := ⟨Nat.le_of_ble_eq_true rfl, Nat.le_of_ble_eq_true rfl, sh_69, sh_70⟩
theorem isRow_71 : isRow 71 72 3 := ⟨Nat.le_of_ble_eq_true rfl, Nat.le_of_ble_eq_true rfl, sh_71, sh_72⟩
theorem isRow_73 : isRow 73 74 9 := ⟨Nat.le_of_ble_eq_true rfl, Nat.le_of_ble_eq_true rfl, sh_73, sh_74⟩
theorem isRow_75 : isRow 75 76 9 := ⟨Nat.le_of_ble_eq_true rfl, Nat.le_of_ble_eq_true rfl, sh_75, sh_76⟩
theorem isRow_77 : isRow 77 78 10 := ⟨Nat.le_of_ble_eq_true rfl, Nat.le_of_ble_eq_true rfl, sh_77, sh_78⟩
theorem isRow_81 : isRow 81 82 8 := ⟨Nat.le_of_ble_eq_true rfl, Nat.le_of_ble_eq_true rfl, sh_81, sh_82⟩
theorem isRow_83 : isRow 83 84 64 := ⟨Nat.le_of_ble_eq_true rfl, Nat.le_of_ble_eq_true rfl, sh_83, sh_84⟩
theorem isRow_85 : isRow 85 86 8 := ⟨Nat.le_of_ble_eq_true rfl, Nat.le_of_ble_eq_true rfl, sh_85, sh_86⟩
theorem isRow_87 : isRow 87 88 8 := ⟨Nat.le_of_ble_eq_true rfl, Nat.le_of_ble_eq_true rfl, sh_87, sh_88⟩
theorem isRow_89 : isRow 89 90 8 := ⟨Nat.le_of_ble_eq_true rfl, Nat.le_of_ble_eq_true rfl, sh_89, sh_90⟩
theorem isWell_1 : isWell 1 := ⟨Nat.le_of_ble_eq_true rfl, sh_1, isRow_2, isRow_4, isRow_6, isRow_8, isRow_10, isRow_12⟩
theorem isWell_14 : isWell 14 := ⟨Nat.le_of_ble_eq_true rfl, sh_14, isRow_15, isRow_17, isRow_19, isRow_21, isRow_23, isRow_25⟩
theorem isChain_35 : isChain 35 := ⟨Nat.le_of_ble_eq_true rfl, sh_35, isRow_36, isRow_38, isRow_40, isRow_42, isRow_44, isRow_46⟩
theorem isChain_53 : isChain 53 := ⟨Nat.le_of_ble_eq_true rfl, sh_53, isRow_54, isRow_56, isRow_58, isRow_60, isRow_62, isRow_64⟩
theorem isFrac_92 : isFrac 92 := ⟨Nat.le_of_ble_eq_true rfl, sh_92⟩
theorem isFrac_93 : isFrac 93 := ⟨Nat.le_of_ble_eq_true rfl, sh_93⟩
