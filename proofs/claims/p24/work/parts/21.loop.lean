-- ===== end of PART A; then your names; then what follows =====
/-! THE CLAIM OUT OF ONE WALK OF THE LAW'S BODY. Your part is whole_start (and what it stands on); all else here is the same for every law, but numbers. -/
def R_law : String := "KeptWellLaw"
def lw_P (b : Addr) (xs : List Int32) (args : Array Value) (s : State) : Prop := args = #[.ref b] ∧ s.IntsAt b xs ∧ xs.length ≤ 3584 ∧ (Jvm.Cond.and given_1 narrow_1).before args s = true
def lw_Q (_ : Array Value) (s : State) (o : Outcome) (t : State) : Prop := o = .returned (some (.int 1)) ∧ Framed s o t [] 601024 7293034
def lw_Z (below : List Frame) (a : Array Value) (s : State) : State → Prop := fun t => ∃ o, t.status = .running ∧ Ended t below o ∧ lw_Q a s o t
/-- the law's own end, with 1 on the stack, nothing written that was there before, its room as the claim has it -/
theorem lw_ret {p : Program} {l : Launch} {e : Env} {s : State} {m : MethodId} {below : List Frame} {meth : Method} {c : Code} {b : Nat} (hx : p.tables.exec = Jvm.exec) (hb : c.code = code) (hr : meth.sig.returnType = ret) (hlocks : meth.locks = false) {pc : Nat} {H : Heap} {ls : Array Slot} (hdg : decode code pc = .ok (.ireturn, 1)) : W p l e room_1 s m #[Value.ref b] below meth c H [] 601024 7293034 (lw_Z below #[Value.ref b] s) (F0 m pc ls [.int 1]) := by
  intro T hT X
  obtain ⟨fs, hret, hrun, hended, hW, hframe⟩ := X.leave (v := some (.int 1)) (hlocks := hlocks) (fun h => by rw [hr] at h; cases h)
  have hmeth' : T.vm.method? m = some meth := X.method'
  refine ⟨T.setFrames fs, ?_, .returned (some (.int 1)), hrun, hended, rfl, ⟨_, rfl⟩, hW, hframe⟩
  jvm_step X.here [X.here.top, hx, hb, hdg, hmeth', hr, ret, narrow_b1]
  (try refine ⟨rfl, ?_⟩); (try refine ⟨rfl, ?_⟩)
  first | (intro acts; rw [hret _ acts rfl rfl rfl]) | rw [hret _ _ rfl rfl rfl]
  exact Steps.refl _
/-- what holds at the law's entry: the machine, the code, the tables' words (any of lw_tbl by 'hts w (by decide +kernel)'), the script of L ints xs at the cell b, what the Statement gives of the start (any of its parts by flat_of_before) -/
def lw_At (p : Program) (s : State) (m : MethodId) (meth : Method) (c : Code) (b L : Nat) (xs : Nat → Int32) : Prop :=
  p.tables.exec = Jvm.exec ∧ c.code = code ∧ meth.sig.returnType = ret ∧ c.maxLocals = 8 ∧ s.vm.findClass R_law = some m.cls ∧ (∀ w ∈ lw_tbl, w.before #[Value.ref b] s = true) ∧ va_X b L xs s s.heap ∧ b < s.heap.size ∧ meth.locks = false ∧ (Jvm.Cond.and given_1 narrow_1).before #[Value.ref b] s = true

def F_law_sw (xs : Nat → Int32) (L : Nat) (x4 k : Int32) (M : Mem) : Option Mem :=
  if k = 0 then F_LAWc_0 xs L x4 M else if k = 1 then F_LAWc_1 xs L x4 M else if k = 2 then F_LAWc_2 xs L x4 M else if k = 3 then F_LAWc_3 xs L x4 M else if k = 4 then F_LAWc_4 xs L x4 M else if k = 5 then F_LAWc_5 xs L x4 M else if k = 6 then F_LAWc_6 xs L x4 M else if k = 7 then F_LAWc_7 xs L x4 M else if k = 8 then F_LAWc_8 xs L x4 M else if k = 9 then F_LAWc_9 xs L x4 M else if k = 10 then F_LAWc_10 xs L x4 M else if k = 11 then F_LAWc_11 xs L x4 M else if k = 12 then F_LAWc_12 xs L x4 M else if k = 13 then F_LAWc_13 xs L x4 M else if k = 14 then F_LAWc_14 xs L x4 M else if k = 15 then F_LAWc_15 xs L x4 M else if k = 16 then F_LAWc_16 xs L x4 M else if k = 17 then F_LAWc_17 xs L x4 M else if k = 18 then F_LAWc_18 xs L x4 M else if k = 19 then F_LAWc_19 xs L x4 M else if k = 20 then F_LAWc_20 xs L x4 M else if k = 21 then F_LAWc_21 xs L x4 M else if k = 22 then F_LAWc_22 xs L x4 M else if k = 23 then F_LAWc_23 xs L x4 M else if k = 24 then F_LAWc_24 xs L x4 M else if k = 25 then F_LAWc_25 xs L x4 M else if k = 26 then F_LAWc_26 xs L x4 M else if k = 27 then F_LAWc_27 xs L x4 M else if k = 28 then F_LAWc_28 xs L x4 M else if k = 29 then F_LAWc_29 xs L x4 M else if k = 30 then F_LAWc_30 xs L x4 M else if k = 31 then F_LAWc_31 xs L x4 M else if k = 32 then F_LAWc_32 xs L x4 M else if k = 33 then F_LAWc_33 xs L x4 M else if k = 34 then F_LAWc_34 xs L x4 M else if k = 35 then F_LAWc_35 xs L x4 M else if k = 36 then F_LAWc_36 xs L x4 M else if k = 37 then F_LAWc_37 xs L x4 M else if k = 38 then F_LAWc_38 xs L x4 M else if k = 39 then F_LAWc_39 xs L x4 M else if k = 40 then F_LAWc_40 xs L x4 M else some M
def F_law_b (xs : Nat → Int32) (L : Nat) (z : Int32 × Mem) : Option ((Int32 × Mem) ⊕ Unit) :=
  if (nI L) - 7 < z.1 then some (.inr ()) else if inb z.1 L then (F_law_sw xs L z.1 ((xs z.1.toNatClampNeg) &&& 63) z.2).bind fun M => some (.inl (z.1 + 7, M)) else none
set_option maxRecDepth 100000 in
set_option maxHeartbeats 8000000 in
theorem K_law_sw {p : Program} {l : Launch} {e : Env} {s : State} {m : MethodId} {args : Array Value} {below : List Frame} {meth : Method} {c : Code} {g : GB} {Q : State → Prop} {b L : Nat} {xs : Nat → Int32} (K : KF p l s m args meth c g code 8 "KeptWellLaw") (htr : l.stackTraces = false) (hX : va_X b L xs s s.heap) (hbl : b < s.heap.size) (hbA : ¬ AS g s.heap.size b) (C S : Nat) (hC : C + 8 ≤ 601024) (hS : S + 48 ≤ 7293034) (x4 k : Int32) (M : Mem) (PHI : Mem → Prop) (hnext : ∀ M, PHI M → GG p l e room_1 s m args below meth c g 8 Q (C + 8) (S + 48) 1998 [(0, .ref b), (1, .ref (g.2.1 0)), (2, .ref (g.2.1 94)), (3, .ref (g.2.1 121)), (4, .int x4)] [] M) (h : wpO (F_law_sw xs L x4 k M) PHI) : GG p l e room_1 s m args below meth c g 8 Q C S 40 [(0, .ref b), (1, .ref (g.2.1 0)), (2, .ref (g.2.1 94)), (3, .ref (g.2.1 121)), (4, .int x4)] [.int k] M := by
  unfold F_law_sw at h
  by_cases hs0 : k = 0
  · have h := wpO_t h hs0
    refine G_tswIn (k := 0) (tgt := 220) K dL_40 hs0 (by decide) (by decide) rfl (by decide) ?_
    exact K_LAWc_0 K htr hX hbl hbA C S hC hS x4 M PHI hnext h
  have h := wpO_f h hs0
  by_cases hs1 : k = 1
  · have h := wpO_t h hs1
    refine G_tswIn (k := 1) (tgt := 293) K dL_40 hs1 (by decide) (by decide) rfl (by decide) ?_
    exact K_LAWc_1 K htr hX hbl hbA C S hC hS x4 M PHI hnext h
  have h := wpO_f h hs1
  by_cases hs2 : k = 2
  · have h := wpO_t h hs2
    refine G_tswIn (k := 2) (tgt := 318) K dL_40 hs2 (by decide) (by decide) rfl (by decide) ?_
    exact K_LAWc_2 K htr hX hbl hbA C S hC hS x4 M PHI hnext h
  have h := wpO_f h hs2
  by_cases hs3 : k = 3
  · have h := wpO_t h hs3
    refine G_tswIn (k := 3) (tgt := 343) K dL_40 hs3 (by decide) (by decide) rfl (by decide) ?_
    exact K_LAWc_3 K htr hX hbl hbA C S hC hS x4 M PHI hnext h
  have h := wpO_f h hs3
  by_cases hs4 : k = 4
  · have h := wpO_t h hs4
    refine G_tswIn (k := 4) (tgt := 404) K dL_40 hs4 (by decide) (by decide) rfl (by decide) ?_
    exact K_LAWc_4 K htr hX hbl hbA C S hC hS x4 M PHI hnext h
  have h := wpO_f h hs4
  by_cases hs5 : k = 5
  · have h := wpO_t h hs5
    refine G_tswIn (k := 5) (tgt := 441) K dL_40 hs5 (by decide) (by decide) rfl (by decide) ?_
    exact K_LAWc_5 K htr hX hbl hbA C S hC hS x4 M PHI hnext h
  have h := wpO_f h hs5
  by_cases hs6 : k = 6
  · have h := wpO_t h hs6
    refine G_tswIn (k := 6) (tgt := 457) K dL_40 hs6 (by decide) (by decide) rfl (by decide) ?_
    exact K_LAWc_6 K htr hX hbl hbA C S hC hS x4 M PHI hnext h
  have h := wpO_f h hs6
  by_cases hs7 : k = 7
  · have h := wpO_t h hs7
    refine G_tswIn (k := 7) (tgt := 470) K dL_40 hs7 (by decide) (by decide) rfl (by decide) ?_
    exact K_LAWc_7 K htr hX hbl hbA C S hC hS x4 M PHI hnext h
  have h := wpO_f h hs7
  by_cases hs8 : k = 8
  · have h := wpO_t h hs8
    refine G_tswIn (k := 8) (tgt := 522) K dL_40 hs8 (by decide) (by decide) rfl (by decide) ?_
    exact K_LAWc_8 K htr hX hbl hbA C S hC hS x4 M PHI hnext h
  have h := wpO_f h hs8
  by_cases hs9 : k = 9
  · have h := wpO_t h hs9
    refine G_tswIn (k := 9) (tgt := 628) K dL_40 hs9 (by decide) (by decide) rfl (by decide) ?_
    exact K_LAWc_9 K htr hX hbl hbA C S hC hS x4 M PHI hnext h
  have h := wpO_f h hs9
  by_cases hs10 : k = 10
  · have h := wpO_t h hs10
    refine G_tswIn (k := 10) (tgt := 668) K dL_40 hs10 (by decide) (by decide) rfl (by decide) ?_
    exact K_LAWc_10 K htr hX hbl hbA C S hC hS x4 M PHI hnext h
  have h := wpO_f h hs10
  by_cases hs11 : k = 11
  · have h := wpO_t h hs11
    refine G_tswIn (k := 11) (tgt := 708) K dL_40 hs11 (by decide) (by decide) rfl (by decide) ?_
    exact K_LAWc_11 K htr hX hbl hbA C S hC hS x4 M PHI hnext h
  have h := wpO_f h hs11
  by_cases hs12 : k = 12
  · have h := wpO_t h hs12
    refine G_tswIn (k := 12) (tgt := 760) K dL_40 hs12 (by decide) (by decide) rfl (by decide) ?_
    exact K_LAWc_12 K htr hX hbl hbA C S hC hS x4 M PHI hnext h
  have h := wpO_f h hs12
  by_cases hs13 : k = 13
  · have h := wpO_t h hs13
    refine G_tswIn (k := 13) (tgt := 840) K dL_40 hs13 (by decide) (by decide) rfl (by decide) ?_
    exact K_LAWc_13 K htr hX hbl hbA C S hC hS x4 M PHI hnext h
  have h := wpO_f h hs13
  by_cases hs14 : k = 14
  · have h := wpO_t h hs14
    refine G_tswIn (k := 14) (tgt := 896) K dL_40 hs14 (by decide) (by decide) rfl (by decide) ?_
    exact K_LAWc_14 K htr hX hbl hbA C S hC hS x4 M PHI hnext h
  have h := wpO_f h hs14
  by_cases hs15 : k = 15
  · have h := wpO_t h hs15
    refine G_tswIn (k := 15) (tgt := 952) K dL_40 hs15 (by decide) (by decide) rfl (by decide) ?_
    exact K_LAWc_15 K htr hX hbl hbA C S hC hS x4 M PHI hnext h
  have h := wpO_f h hs15
  by_cases hs16 : k = 16
  · have h := wpO_t h hs16
    refine G_tswIn (k := 16) (tgt := 965) K dL_40 hs16 (by decide) (by decide) rfl (by decide) ?_
    exact K_LAWc_16 K htr hX hbl hbA C S hC hS x4 M PHI hnext h
  have h := wpO_f h hs16
  by_cases hs17 : k = 17
  · have h := wpO_t h hs17
    refine G_tswIn (k := 17) (tgt := 1018) K dL_40 hs17 (by decide) (by decide) rfl (by decide) ?_
    exact K_LAWc_17 K htr hX hbl hbA C S hC hS x4 M PHI hnext h
  have h := wpO_f h hs17
  by_cases hs18 : k = 18
  · have h := wpO_t h hs18
    refine G_tswIn (k := 18) (tgt := 1098) K dL_40 hs18 (by decide) (by decide) rfl (by decide) ?_
    exact K_LAWc_18 K htr hX hbl hbA C S hC hS x4 M PHI hnext h
  have h := wpO_f h hs18
  by_cases hs19 : k = 19
  · have h := wpO_t h hs19
    refine G_tswIn (k := 19) (tgt := 1162) K dL_40 hs19 (by decide) (by decide) rfl (by decide) ?_
    exact K_LAWc_19 K htr hX hbl hbA C S hC hS x4 M PHI hnext h
  have h := wpO_f h hs19
  by_cases hs20 : k = 20
  · have h := wpO_t h hs20
    refine G_tswIn (k := 20) (tgt := 1214) K dL_40 hs20 (by decide) (by decide) rfl (by decide) ?_
    exact K_LAWc_20 K htr hX hbl hbA C S hC hS x4 M PHI hnext h
  have h := wpO_f h hs20
  by_cases hs21 : k = 21
  · have h := wpO_t h hs21
    refine G_tswIn (k := 21) (tgt := 1227) K dL_40 hs21 (by decide) (by decide) rfl (by decide) ?_
    exact K_LAWc_21 K htr hX hbl hbA C S hC hS x4 M PHI hnext h
  have h := wpO_f h hs21
  by_cases hs22 : k = 22
  · have h := wpO_t h hs22
    refine G_tswIn (k := 22) (tgt := 1264) K dL_40 hs22 (by decide) (by decide) rfl (by decide) ?_
    exact K_LAWc_22 K htr hX hbl hbA C S hC hS x4 M PHI hnext h
  have h := wpO_f h hs22
  by_cases hs23 : k = 23
  · have h := wpO_t h hs23
    refine G_tswIn (k := 23) (tgt := 1399) K dL_40 hs23 (by decide) (by decide) rfl (by decide) ?_
    exact K_LAWc_23 K htr hX hbl hbA C S hC hS x4 M PHI hnext h
  have h := wpO_f h hs23
  by_cases hs24 : k = 24
  · have h := wpO_t h hs24
    refine G_tswIn (k := 24) (tgt := 1415) K dL_40 hs24 (by decide) (by decide) rfl (by decide) ?_
    exact K_LAWc_24 K htr hX hbl hbA C S hC hS x4 M PHI hnext h
  have h := wpO_f h hs24
  by_cases hs25 : k = 25
  · have h := wpO_t h hs25
    refine G_tswIn (k := 25) (tgt := 1455) K dL_40 hs25 (by decide) (by decide) rfl (by decide) ?_
    exact K_LAWc_25 K htr hX hbl hbA C S hC hS x4 M PHI hnext h
  have h := wpO_f h hs25
  by_cases hs26 : k = 26
  · have h := wpO_t h hs26
    refine G_tswIn (k := 26) (tgt := 1483) K dL_40 hs26 (by decide) (by decide) rfl (by decide) ?_
    exact K_LAWc_26 K htr hX hbl hbA C S hC hS x4 M PHI hnext h
  have h := wpO_f h hs26
  by_cases hs27 : k = 27
  · have h := wpO_t h hs27
    refine G_tswIn (k := 27) (tgt := 1559) K dL_40 hs27 (by decide) (by decide) rfl (by decide) ?_
    exact K_LAWc_27 K htr hX hbl hbA C S hC hS x4 M PHI hnext h
  have h := wpO_f h hs27
  by_cases hs28 : k = 28
  · have h := wpO_t h hs28
    refine G_tswIn (k := 28) (tgt := 1596) K dL_40 hs28 (by decide) (by decide) rfl (by decide) ?_
    exact K_LAWc_28 K htr hX hbl hbA C S hC hS x4 M PHI hnext h
  have h := wpO_f h hs28
  by_cases hs29 : k = 29
  · have h := wpO_t h hs29
    refine G_tswIn (k := 29) (tgt := 1621) K dL_40 hs29 (by decide) (by decide) rfl (by decide) ?_
    exact K_LAWc_29 K htr hX hbl hbA C S hC hS x4 M PHI hnext h
  have h := wpO_f h hs29
  by_cases hs30 : k = 30
  · have h := wpO_t h hs30
    refine G_tswIn (k := 30) (tgt := 1661) K dL_40 hs30 (by decide) (by decide) rfl (by decide) ?_
    exact K_LAWc_30 K htr hX hbl hbA C S hC hS x4 M PHI hnext h
  have h := wpO_f h hs30
  by_cases hs31 : k = 31
  · have h := wpO_t h hs31
    refine G_tswIn (k := 31) (tgt := 1689) K dL_40 hs31 (by decide) (by decide) rfl (by decide) ?_
    exact K_LAWc_31 K htr hX hbl hbA C S hC hS x4 M PHI hnext h
  have h := wpO_f h hs31
  by_cases hs32 : k = 32
  · have h := wpO_t h hs32
    refine G_tswIn (k := 32) (tgt := 1717) K dL_40 hs32 (by decide) (by decide) rfl (by decide) ?_
    exact K_LAWc_32 K htr hX hbl hbA C S hC hS x4 M PHI hnext h
  have h := wpO_f h hs32
  by_cases hs33 : k = 33
  · have h := wpO_t h hs33
    refine G_tswIn (k := 33) (tgt := 1745) K dL_40 hs33 (by decide) (by decide) rfl (by decide) ?_
    exact K_LAWc_33 K htr hX hbl hbA C S hC hS x4 M PHI hnext h
  have h := wpO_f h hs33
  by_cases hs34 : k = 34
  · have h := wpO_t h hs34
    refine G_tswIn (k := 34) (tgt := 1785) K dL_40 hs34 (by decide) (by decide) rfl (by decide) ?_
    exact K_LAWc_34 K htr hX hbl hbA C S hC hS x4 M PHI hnext h
  have h := wpO_f h hs34
  by_cases hs35 : k = 35
  · have h := wpO_t h hs35
    refine G_tswIn (k := 35) (tgt := 1825) K dL_40 hs35 (by decide) (by decide) rfl (by decide) ?_
    exact K_LAWc_35 K htr hX hbl hbA C S hC hS x4 M PHI hnext h
  have h := wpO_f h hs35
  by_cases hs36 : k = 36
  · have h := wpO_t h hs36
    refine G_tswIn (k := 36) (tgt := 1865) K dL_40 hs36 (by decide) (by decide) rfl (by decide) ?_
    exact K_LAWc_36 K htr hX hbl hbA C S hC hS x4 M PHI hnext h
  have h := wpO_f h hs36
  by_cases hs37 : k = 37
  · have h := wpO_t h hs37
    refine G_tswIn (k := 37) (tgt := 1921) K dL_40 hs37 (by decide) (by decide) rfl (by decide) ?_
    exact K_LAWc_37 K htr hX hbl hbA C S hC hS x4 M PHI hnext h
  have h := wpO_f h hs37
  by_cases hs38 : k = 38
  · have h := wpO_t h hs38
    refine G_tswIn (k := 38) (tgt := 1949) K dL_40 hs38 (by decide) (by decide) rfl (by decide) ?_
    exact K_LAWc_38 K htr hX hbl hbA C S hC hS x4 M PHI hnext h
  have h := wpO_f h hs38
  by_cases hs39 : k = 39
  · have h := wpO_t h hs39
    refine G_tswIn (k := 39) (tgt := 1960) K dL_40 hs39 (by decide) (by decide) rfl (by decide) ?_
    exact K_LAWc_39 K htr hX hbl hbA C S hC hS x4 M PHI hnext h
  have h := wpO_f h hs39
  by_cases hs40 : k = 40
  · have h := wpO_t h hs40
    refine G_tswIn (k := 40) (tgt := 1973) K dL_40 hs40 (by decide) (by decide) rfl (by decide) ?_
    exact K_LAWc_40 K htr hX hbl hbA C S hC hS x4 M PHI hnext h
  have h := wpO_f h hs40
  have ht0 := ne_i (n := 0) (by decide) hs0
  have ht1 := ne_i (n := 1) (by decide) hs1
  have ht2 := ne_i (n := 2) (by decide) hs2
  have ht3 := ne_i (n := 3) (by decide) hs3
  have ht4 := ne_i (n := 4) (by decide) hs4
  have ht5 := ne_i (n := 5) (by decide) hs5
  have ht6 := ne_i (n := 6) (by decide) hs6
  have ht7 := ne_i (n := 7) (by decide) hs7
  have ht8 := ne_i (n := 8) (by decide) hs8
  have ht9 := ne_i (n := 9) (by decide) hs9
  have ht10 := ne_i (n := 10) (by decide) hs10
  have ht11 := ne_i (n := 11) (by decide) hs11
  have ht12 := ne_i (n := 12) (by decide) hs12
  have ht13 := ne_i (n := 13) (by decide) hs13
  have ht14 := ne_i (n := 14) (by decide) hs14
  have ht15 := ne_i (n := 15) (by decide) hs15
  have ht16 := ne_i (n := 16) (by decide) hs16
  have ht17 := ne_i (n := 17) (by decide) hs17
  have ht18 := ne_i (n := 18) (by decide) hs18
  have ht19 := ne_i (n := 19) (by decide) hs19
  have ht20 := ne_i (n := 20) (by decide) hs20
  have ht21 := ne_i (n := 21) (by decide) hs21
  have ht22 := ne_i (n := 22) (by decide) hs22
  have ht23 := ne_i (n := 23) (by decide) hs23
  have ht24 := ne_i (n := 24) (by decide) hs24
  have ht25 := ne_i (n := 25) (by decide) hs25
  have ht26 := ne_i (n := 26) (by decide) hs26
  have ht27 := ne_i (n := 27) (by decide) hs27
  have ht28 := ne_i (n := 28) (by decide) hs28
  have ht29 := ne_i (n := 29) (by decide) hs29
  have ht30 := ne_i (n := 30) (by decide) hs30
  have ht31 := ne_i (n := 31) (by decide) hs31
  have ht32 := ne_i (n := 32) (by decide) hs32
  have ht33 := ne_i (n := 33) (by decide) hs33
  have ht34 := ne_i (n := 34) (by decide) hs34
  have ht35 := ne_i (n := 35) (by decide) hs35
  have ht36 := ne_i (n := 36) (by decide) hs36
  have ht37 := ne_i (n := 37) (by decide) hs37
  have ht38 := ne_i (n := 38) (by decide) hs38
  have ht39 := ne_i (n := 39) (by decide) hs39
  have ht40 := ne_i (n := 40) (by decide) hs40
  refine G_tswOut (tgt := 1998) K dL_40 (by omega) (by decide) ?_
  exact G_wide (k := C + 8) (n := S + 48) (by omega) (by omega) (hnext M (wpO_some h))
set_option maxRecDepth 100000 in
set_option maxHeartbeats 8000000 in
theorem law_loop {p : Program} {l : Launch} {e : Env} {s : State} {m : MethodId} {below : List Frame} {meth : Method} {c : Code} {g : GB} {b L : Nat} {xs : Nat → Int32} (K : KF p l s m #[Value.ref b] meth c g code 8 "KeptWellLaw") (htr : l.stackTraces = false) (hret : meth.sig.returnType = ret) (hX : va_X b L xs s s.heap) (hbl : b < s.heap.size) (hbA : ¬ AS g s.heap.size b) (hA : ∀ q, AS g s.heap.size q → s.heap.size ≤ q) (hL : L ≤ 3584) : ∀ (n t : Nat) (M : Mem), t ≤ 512 → wpO (iter (F_law_b xs L) n (nI (7 * t), M)) (fun _ => True) → GG p l e room_1 s m #[Value.ref b] below meth c g 8 (lw_Z below #[Value.ref b] s) (10000 + 8 * t) (10000 + 48 * t) 23 [(0, .ref b), (1, .ref (g.2.1 0)), (2, .ref (g.2.1 94)), (3, .ref (g.2.1 121)), (4, .int (nI (7 * t)))] [] M := by
  intro n
  induction n with
  | zero => intro t M ht h; obtain ⟨_, h1, _⟩ := h; cases h1
  | succ n ih =>
    intro t M ht h
    have h := wpO_bind (X := F_law_b xs L (nI (7 * t), M)) h
    obtain ⟨PB, hPB, h⟩ : ∃ PB : (Int32 × Mem) ⊕ Unit → Prop, (∀ i M, PB (.inl (i, M)) → wpO (iter (F_law_b xs L) n (i, M)) (fun _ => True)) ∧ wpO (F_law_b xs L (nI (7 * t), M)) PB := ⟨_, fun i M q => q, h⟩
    unfold F_law_b at h
    dsimp only at h
    refine G_iload 4 rfl K dL_23 ?_
    refine G_aload_n rfl 0 rfl K dL_25 ?_
    refine G_slen K hX hbl hbA dL_26 ?_
    refine G_bipush (v := 7) rfl K dL_27 ?_
    refine G_isub K dL_29 ?_
    refine G_icmp_gt (tgt := 2004) K dL_30 (by decide) (fun hc => ?_) (fun hc => ?_)
    · refine G_iconst (v := 1) rfl K dL_2004 ?_
      intro H locs ls hP hS hl
      refine va_forget (fun q hq => hA _ (hS.2.2 q hq)) ?_
      exact W.widen (by omega) (by omega) (lw_ret K.1.1 K.1.2.1 hret K.2.2.2 dL_2005.1)
    · have h := wpO_f h hc
      obtain ⟨hin, h⟩ := wpO_g h
      have ht2 : t < 512 := by
        have h7 : ¬ (nI L - 7).toInt < (nI (7 * t)).toInt := fun q => hc (Int32.lt_iff_toInt_lt.mpr q)
        have e1 : (nI (7 * t)).toInt = ((7 * t : Nat) : Int) := nI_toInt (by omega)
        have hin2 : vp_in (nI (7 * t)) L := hin
        have h8 := (vp_in_iff.mp hin2).2
        have e2 : (nI L - 7).toInt = (L : Int) - 7 := by
          have e3 : (7 : Int32) = nI 7 := rfl
          rw [e3, pk_sub_toInt (by omega) (by omega)]
          rfl
        omega
      refine G_aload_n rfl 0 rfl K dL_33 ?_
      refine G_iload 4 rfl K dL_34 ?_
      refine G_sld K hX hbl hbA dL_36 hin ?_
      refine G_bipush (v := 63) rfl K dL_37 ?_
      refine G_iand K dL_39 ?_
      refine K_law_sw K htr hX hbl hbA (10000 + 8 * t) (10000 + 48 * t) (by omega) (by omega) (nI (7 * t)) _ M (fun M' => wpO (some (.inl (nI (7 * t) + 7, M'))) PB) (fun M' hM' => ?_) (wpO_bind h)
      have e7 : nI (7 * t) + 7 = nI (7 * (t + 1)) := by
        have e3 : (7 : Int32) = nI 7 := rfl
        rw [e3, nI_add]
        exact congrArg nI (by omega)
      have h9 := hPB _ _ (wpO_some hM')
      rw [e7] at h9
      refine G_iinc (v := nI (7 * t) + 7) 4 rfl K dL_1998 rfl (Nat.le_of_ble_eq_true rfl) rfl ?_
      refine G_goto (tgt := 23) K dL_2001 (by decide) ?_
      rw [e7]
      refine G_lv (lv' := [(0, .ref b), (1, .ref (g.2.1 0)), (2, .ref (g.2.1 94)), (3, .ref (g.2.1 121)), (4, .int (nI (7 * (t + 1))))]) [1, 2, 3, 4, 0] rfl ?_
      exact G_wide (by omega) (by omega) (ih (t + 1) M' (by omega) h9)
