theorem dX8_hasRoom_0 : dc cX8_hasRoom 0 1 (.aload_n 0) 1 := ⟨by decide +kernel, rfl⟩
theorem dX8_hasRoom_1 : dc cX8_hasRoom 1 4 (.getfield 20) 3 := ⟨by decide +kernel, rfl⟩
theorem dX8_hasRoom_4 : dc cX8_hasRoom 4 6 (.bipush 20) 2 := ⟨by decide +kernel, rfl⟩
theorem dX8_hasRoom_6 : dc cX8_hasRoom 6 7 .iadd 1 := ⟨by decide +kernel, rfl⟩
theorem dX8_hasRoom_7 : dc cX8_hasRoom 7 10 (.sipush 400) 3 := ⟨by decide +kernel, rfl⟩
theorem dX8_hasRoom_10 : dc cX8_hasRoom 10 13 (.if_icmp .gt 7) 3 := ⟨by decide +kernel, rfl⟩
theorem dX8_hasRoom_13 : dc cX8_hasRoom 13 14 (.iconst 1) 1 := ⟨by decide +kernel, rfl⟩
theorem dX8_hasRoom_14 : dc cX8_hasRoom 14 17 (.goto 4) 3 := ⟨by decide +kernel, rfl⟩
theorem dX8_hasRoom_17 : dc cX8_hasRoom 17 18 (.iconst 0) 1 := ⟨by decide +kernel, rfl⟩
theorem dX8_hasRoom_18 : dc cX8_hasRoom 18 19 .ireturn 1 := ⟨by decide +kernel, rfl⟩
def F_Tape_hasRoom (M : Mem) : Option (Bool) :=
  if 400 < ((M.1 27 1) + 20) then some false else some true
set_option maxRecDepth 100000 in
set_option maxHeartbeats 4000000 in
theorem K_Tape_hasRoom (l : Launch) (g : GB) (htr : l.stackTraces = false) (M : Mem) (rr : Bool) (h : F_Tape_hasRoom M = some rr) : CT l g yX8_hasRoom (.code yX8_hasRoom cX8_hasRoom 1 (some .boolean) :: wAll) { frames := 0, cells := 0, slots := 0, locals := 0 } [.ref (g.2.1 27)] M (.inl (some (.int (b2i rr)))) M := by
  refine CT.of [(0, .ref (g.2.1 27))] (by decide +kernel) (Nat.le_of_ble_eq_true rfl) rfl htr ?_
  intro p e s m args below meth c K hr ht
  skip
  obtain ⟨PHI, hPHI, h⟩ : ∃ PHI : Bool → Prop, (∀ a, PHI a → a = rr) ∧ wpO (F_Tape_hasRoom M) PHI := ⟨fun a => a = rr, fun _ h => h, _, h, rfl⟩
  unfold F_Tape_hasRoom at h
  refine G_aload_n rfl 0 rfl K dX8_hasRoom_0 ?_
  refine G_get (ci := 8) (k := 1) K rfl in_X8 wd_149 rfl dX8_hasRoom_1 (Nat.le_of_ble_eq_true rfl) (sh_27 _ _) (Nat.le_of_ble_eq_true rfl) rfl ?_
  refine G_bipush (v := 20) rfl K dX8_hasRoom_4 ?_
  refine G_iadd K dX8_hasRoom_6 ?_
  refine G_sipush (v := 400) rfl K dX8_hasRoom_7 ?_
  refine G_icmp_gt (tgt := 17) K dX8_hasRoom_10 (by decide) (fun hc => ?_) (fun hc => ?_)
  · have h := wpO_t h hc
    refine G_iconst (v := 0) rfl K dX8_hasRoom_17 ?_
    cases hPHI _ (wpO_some h)
    exact G_iret K hr rfl dX8_hasRoom_18 (Nat.le_of_ble_eq_true rfl) (Nat.le_of_ble_eq_true rfl) ⟨rfl, rfl⟩
  · have h := wpO_f h hc
    refine G_iconst (v := 1) rfl K dX8_hasRoom_13 ?_
    refine G_goto (tgt := 18) K dX8_hasRoom_14 (by decide) ?_
    cases hPHI _ (wpO_some h)
    exact G_iret K hr rfl dX8_hasRoom_18 (Nat.le_of_ble_eq_true rfl) (Nat.le_of_ble_eq_true rfl) ⟨rfl, rfl⟩
theorem wv_451 : wdV "KeptWell$Tape" 44 yX7_put cX7_put 4 none := ⟨wd_451, wd_452, wd_453, wd_3, wd_454⟩
theorem dX8_append_0 : dc cX8_append 0 2 (.bipush 24) 2 := ⟨by decide +kernel, rfl⟩
theorem dX8_append_2 : dc cX8_append 2 3 (.istore_n 2) 1 := ⟨by decide +kernel, rfl⟩
theorem dX8_append_3 : dc cX8_append 3 4 (.iload_n 2) 1 := ⟨by decide +kernel, rfl⟩
theorem dX8_append_4 : dc cX8_append 4 7 (.ifCond .lt 38) 3 := ⟨by decide +kernel, rfl⟩
theorem dX8_append_7 : dc cX8_append 7 8 (.aload_n 0) 1 := ⟨by decide +kernel, rfl⟩
theorem dX8_append_8 : dc cX8_append 8 11 (.getfield 16) 3 := ⟨by decide +kernel, rfl⟩
theorem dX8_append_11 : dc cX8_append 11 12 (.aload_n 0) 1 := ⟨by decide +kernel, rfl⟩
theorem dX8_append_12 : dc cX8_append 12 15 (.getfield 20) 3 := ⟨by decide +kernel, rfl⟩
theorem dX8_append_15 : dc cX8_append 15 16 (.iload_n 1) 1 := ⟨by decide +kernel, rfl⟩
theorem dX8_append_16 : dc cX8_append 16 17 (.iload_n 2) 1 := ⟨by decide +kernel, rfl⟩
theorem dX8_append_17 : dc cX8_append 17 18 .iushr 1 := ⟨by decide +kernel, rfl⟩
theorem dX8_append_18 : dc cX8_append 18 21 (.sipush 255) 3 := ⟨by decide +kernel, rfl⟩
theorem dX8_append_21 : dc cX8_append 21 22 .iand 1 := ⟨by decide +kernel, rfl⟩
theorem dX8_append_22 : dc cX8_append 22 23 .i2l 1 := ⟨by decide +kernel, rfl⟩
theorem dX8_append_23 : dc cX8_append 23 26 (.invokevirtual 44) 3 := ⟨by decide +kernel, rfl⟩
theorem dX8_append_26 : dc cX8_append 26 27 (.aload_n 0) 1 := ⟨by decide +kernel, rfl⟩
theorem dX8_append_27 : dc cX8_append 27 28 .dup 1 := ⟨by decide +kernel, rfl⟩
theorem dX8_append_28 : dc cX8_append 28 31 (.getfield 20) 3 := ⟨by decide +kernel, rfl⟩
theorem dX8_append_31 : dc cX8_append 31 32 (.iconst 1) 1 := ⟨by decide +kernel, rfl⟩
theorem dX8_append_32 : dc cX8_append 32 33 .iadd 1 := ⟨by decide +kernel, rfl⟩
theorem dX8_append_33 : dc cX8_append 33 36 (.putfield 20) 3 := ⟨by decide +kernel, rfl⟩
theorem dX8_append_36 : dc cX8_append 36 39 (.iinc 2 (-8)) 3 := ⟨by decide +kernel, rfl⟩
theorem dX8_append_39 : dc cX8_append 39 42 (.goto (-36)) 3 := ⟨by decide +kernel, rfl⟩
theorem dX8_append_42 : dc cX8_append 42 43 .return_ 1 := ⟨by decide +kernel, rfl⟩
def F_Tape_append_b3 (x1 : Int32) (z : Int32 × Mem) : Option ((Int32 × Mem) ⊕ ((Mem))) :=
  if z.1 < 0 then some (.inr z.2) else (F_Row_put 29 400 (z.2.1 27 1) (((ush x1 z.1) &&& 255).toInt64) z.2).bind fun r1 => some (.inl ((z.1 + (-8), mSI r1 27 1 ((r1.1 27 1) + 1))))
def F_Tape_append_l3 (x1 : Int32) (x2 : Int32) (M : Mem) : Option (Mem) :=
  (iter (F_Tape_append_b3 x1) FUEL (x2, M)).bind fun r => some r
def F_Tape_append (x1 : Int32) (M : Mem) : Option (Mem) :=
  F_Tape_append_l3 x1 24 M
set_option maxRecDepth 100000 in
set_option maxHeartbeats 4000000 in
theorem K_Tape_append (l : Launch) (g : GB) (htr : l.stackTraces = false) (x1 : Int32) (M : Mem) (MZ : Mem) (h : F_Tape_append x1 M = some MZ) : CT l g yX8_append (.code yX8_append cX8_append 3 none :: wAll) { frames := 1, cells := 0, slots := 0, locals := 23 } [.ref (g.2.1 27), .int x1] M (.inl none) MZ := by
  refine CT.of [(0, .ref (g.2.1 27)), (1, .int x1)] (by decide +kernel) (Nat.le_of_ble_eq_true rfl) rfl htr ?_
  intro p e s m args below meth c K hr ht
  skip
  obtain ⟨PHI, hPHI, h⟩ : ∃ PHI : Mem → Prop, (∀ a, PHI a → a = MZ) ∧ wpO (F_Tape_append x1 M) PHI := ⟨fun a => a = MZ, fun _ h => h, _, h, rfl⟩
  have J3 : ∀ (x1 : Int32) (x2 : Int32) (M : Mem), wpO (F_Tape_append_l3 x1 x2 M) PHI → GG p l e { frames := 1, cells := 0, slots := 0, locals := 23 } s m args below meth c g 3 (vx_MQ below (Qn g s.heap.size (.inl none) MZ) (QX g s.heap.size (.inl none) MZ) args s 0 0 (AS g s.heap.size)) 0 0 3 [(0, .ref (g.2.1 27)), (1, .int x1), (2, .int x2)] [] M := by
    intro x1 x2 M h
    unfold F_Tape_append_l3 at h
    refine loop_C2 (G := fun (x2 : Int32) (M : Mem) => GG p l e { frames := 1, cells := 0, slots := 0, locals := 23 } s m args below meth c g 3 (vx_MQ below (Qn g s.heap.size (.inl none) MZ) (QX g s.heap.size (.inl none) MZ) args s 0 0 (AS g s.heap.size)) 0 0 3 [(0, .ref (g.2.1 27)), (1, .int x1), (2, .int x2)] [] M) (body := F_Tape_append_b3 x1) ?_ FUEL _ _ (wpO_bind h)
    intro P3 E3 X3
    intro z h
    unfold F_Tape_append_b3 at h
    refine G_iload_n rfl 2 rfl K dX8_append_3 ?_
    refine G_if_lt (tgt := 42) K dX8_append_4 (by decide) (fun hc => ?_) (fun hc => ?_)
    · have h := wpO_t h hc
      have h := X3 _ (wpO_some h)
      try dsimp only at h
      cases hPHI _ (wpO_some h)
      exact G_vret K hr dX8_append_42 (Nat.le_of_ble_eq_true rfl) (Nat.le_of_ble_eq_true rfl) ⟨rfl, rfl⟩
    · have h := wpO_f h hc
      refine G_aload_n rfl 0 rfl K dX8_append_7 ?_
      refine G_get (ci := 8) (k := 0) K rfl in_X8 wd_147 rfl dX8_append_8 (Nat.le_of_ble_eq_true rfl) (sh_27 _ _) (Nat.le_of_ble_eq_true rfl) rfl ?_
      refine G_aload_n rfl 0 rfl K dX8_append_11 ?_
      refine G_get (ci := 8) (k := 1) K rfl in_X8 wd_149 rfl dX8_append_12 (Nat.le_of_ble_eq_true rfl) (sh_27 _ _) (Nat.le_of_ble_eq_true rfl) rfl ?_
      refine G_iload_n rfl 1 rfl K dX8_append_15 ?_
      refine G_iload_n rfl 2 rfl K dX8_append_16 ?_
      refine G_iushr K dX8_append_17 ?_
      refine G_sipush (v := 255) rfl K dX8_append_18 ?_
      refine G_iand K dX8_append_21 ?_
      refine G_i2l K dX8_append_22 ?_
      obtain ⟨r1, e1, h⟩ := wpO_bind h
      refine G_callVv (ci := 7) [.int (z.2.1 27 1), .long (((ush x1 z.1) &&& 255).toInt64)] [] K dX8_append_23 wv_451 yd_X7_put (Nat.le_of_ble_eq_true rfl) (sh_28 _ _) rfl (by decide) (by decide) rfl rfl (Nat.le_of_ble_eq_true rfl) (K_Row_put l g htr 28 29 400 isRow_28 (z.2.1 27 1) (((ush x1 z.1) &&& 255).toInt64) z.2 _ e1) ?_
      refine G_aload_n rfl 0 rfl K dX8_append_26 ?_
      refine G_dup rfl K dX8_append_27 ?_
      refine G_get (ci := 8) (k := 1) K rfl in_X8 wd_149 rfl dX8_append_28 (Nat.le_of_ble_eq_true rfl) (sh_27 _ _) (Nat.le_of_ble_eq_true rfl) rfl ?_
      refine G_iconst (v := 1) rfl K dX8_append_31 ?_
      refine G_iadd K dX8_append_32 ?_
      refine G_putI (ci := 8) (k := 1) (ty := .int) K rfl in_X8 tyX8 tyX8_ok nmX8 wd_149 rfl rfl rfl rfl rfl dX8_append_33 (Nat.le_of_ble_eq_true rfl) (sh_27 _ _) (sh_27 _ _) (Nat.le_of_ble_eq_true rfl) (Nat.le_of_ble_eq_true rfl) rfl ?_
      refine G_iinc (v := z.1 + (-8)) 2 rfl K dX8_append_36 rfl (Nat.le_of_ble_eq_true rfl) rfl ?_
      refine G_goto (tgt := 3) K dX8_append_39 (by decide) ?_
      exact G_lv (lv' := [(0, .ref (g.2.1 27)), (1, .int x1), (2, .int (z.1 + (-8)))]) [1, 2, 0] rfl (E3 (z.1 + (-8)) (mSI r1 27 1 ((r1.1 27 1) + 1)) (wpO_some h))
  unfold F_Tape_append at h
  refine G_bipush (v := 24) rfl K dX8_append_0 ?_
  refine G_istore_n rfl K dX8_append_2 (Nat.le_of_ble_eq_true rfl) rfl ?_
  exact G_lv (lv' := [(0, .ref (g.2.1 27)), (1, .int x1), (2, .int 24)]) [1, 2, 0] rfl (J3 x1 24 M h)
theorem wv_784 : wdV "KeptWell$Tape" 48 yX7_small cX7_small 2 (some .int) := ⟨wd_784, wd_480, wd_481, wd_3, wd_482⟩
theorem dX8_byteAt_0 : dc cX8_byteAt 0 1 (.iload_n 1) 1 := ⟨by decide +kernel, rfl⟩
theorem dX8_byteAt_1 : dc cX8_byteAt 1 2 (.aload_n 0) 1 := ⟨by decide +kernel, rfl⟩
theorem dX8_byteAt_2 : dc cX8_byteAt 2 5 (.getfield 20) 3 := ⟨by decide +kernel, rfl⟩
theorem dX8_byteAt_5 : dc cX8_byteAt 5 8 (.if_icmp .ge 14) 3 := ⟨by decide +kernel, rfl⟩
theorem dX8_byteAt_8 : dc cX8_byteAt 8 9 (.aload_n 0) 1 := ⟨by decide +kernel, rfl⟩
theorem dX8_byteAt_9 : dc cX8_byteAt 9 12 (.getfield 16) 3 := ⟨by decide +kernel, rfl⟩
theorem dX8_byteAt_12 : dc cX8_byteAt 12 13 (.iload_n 1) 1 := ⟨by decide +kernel, rfl⟩
theorem dX8_byteAt_13 : dc cX8_byteAt 13 16 (.invokevirtual 48) 3 := ⟨by decide +kernel, rfl⟩
theorem dX8_byteAt_16 : dc cX8_byteAt 16 19 (.goto 4) 3 := ⟨by decide +kernel, rfl⟩
theorem dX8_byteAt_19 : dc cX8_byteAt 19 20 (.iconst (-1)) 1 := ⟨by decide +kernel, rfl⟩
theorem dX8_byteAt_20 : dc cX8_byteAt 20 21 .ireturn 1 := ⟨by decide +kernel, rfl⟩
def F_Tape_byteAt (x1 : Int32) (M : Mem) : Option (Int32) :=
  if (M.1 27 1) ≤ x1 then some ((-1)) else (F_Row_small 29 400 x1 M).bind fun r1 => some r1
set_option maxRecDepth 100000 in
set_option maxHeartbeats 4000000 in
theorem K_Tape_byteAt (l : Launch) (g : GB) (htr : l.stackTraces = false) (x1 : Int32) (M : Mem) (rr : Int32) (h : F_Tape_byteAt x1 M = some rr) : CT l g yX8_byteAt (.code yX8_byteAt cX8_byteAt 2 (some .int) :: wAll) { frames := 1, cells := 0, slots := 0, locals := 21 } [.ref (g.2.1 27), .int x1] M (.inl (some (.int rr))) M := by
  refine CT.of [(0, .ref (g.2.1 27)), (1, .int x1)] (by decide +kernel) (Nat.le_of_ble_eq_true rfl) rfl htr ?_
  intro p e s m args below meth c K hr ht
  skip
  obtain ⟨PHI, hPHI, h⟩ : ∃ PHI : Int32 → Prop, (∀ a, PHI a → a = rr) ∧ wpO (F_Tape_byteAt x1 M) PHI := ⟨fun a => a = rr, fun _ h => h, _, h, rfl⟩
  unfold F_Tape_byteAt at h
  refine G_iload_n rfl 1 rfl K dX8_byteAt_0 ?_
  refine G_aload_n rfl 0 rfl K dX8_byteAt_1 ?_
  refine G_get (ci := 8) (k := 1) K rfl in_X8 wd_149 rfl dX8_byteAt_2 (Nat.le_of_ble_eq_true rfl) (sh_27 _ _) (Nat.le_of_ble_eq_true rfl) rfl ?_
  refine G_icmp_ge (tgt := 19) K dX8_byteAt_5 (by decide) (fun hc => ?_) (fun hc => ?_)
  · have h := wpO_t h hc
    refine G_iconst (v := (-1)) rfl K dX8_byteAt_19 ?_
    cases hPHI _ (wpO_some h)
    exact G_iret K hr rfl dX8_byteAt_20 (Nat.le_of_ble_eq_true rfl) (Nat.le_of_ble_eq_true rfl) ⟨rfl, rfl⟩
  · have h := wpO_f h hc
    refine G_aload_n rfl 0 rfl K dX8_byteAt_8 ?_
    refine G_get (ci := 8) (k := 0) K rfl in_X8 wd_147 rfl dX8_byteAt_9 (Nat.le_of_ble_eq_true rfl) (sh_27 _ _) (Nat.le_of_ble_eq_true rfl) rfl ?_
    refine G_iload_n rfl 1 rfl K dX8_byteAt_12 ?_
    obtain ⟨r1, e1, h⟩ := wpO_bind h
    refine G_callVi (ci := 7) [.int x1] [] K dX8_byteAt_13 wv_784 yd_X7_small (Nat.le_of_ble_eq_true rfl) (sh_28 _ _) rfl (by decide) (by decide) rfl rfl (Nat.le_of_ble_eq_true rfl) (K_Row_small l g htr 28 29 400 isRow_28 x1 M _ e1) ?_
    refine G_goto (tgt := 20) K dX8_byteAt_16 (by decide) ?_
    cases hPHI _ (wpO_some h)
    exact G_iret K hr rfl dX8_byteAt_20 (Nat.le_of_ble_eq_true rfl) (Nat.le_of_ble_eq_true rfl) ⟨rfl, rfl⟩
theorem yd_X8_byteAt : ydN yX8_byteAt 1 := ⟨by decide, by decide, by decide +kernel⟩
theorem wv_780 : wdV "KeptWell$Tape" 52 yX8_byteAt cX8_byteAt 2 (some .int) := ⟨wd_780, wd_781, wd_782, wd_5, wd_783⟩
theorem dX8_isRowOfDays_0 : dc cX8_isRowOfDays 0 1 (.iconst 0) 1 := ⟨by decide +kernel, rfl⟩
theorem dX8_isRowOfDays_1 : dc cX8_isRowOfDays 1 2 (.istore_n 1) 1 := ⟨by decide +kernel, rfl⟩
theorem dX8_isRowOfDays_2 : dc cX8_isRowOfDays 2 3 (.iload_n 1) 1 := ⟨by decide +kernel, rfl⟩
theorem dX8_isRowOfDays_3 : dc cX8_isRowOfDays 3 4 (.aload_n 0) 1 := ⟨by decide +kernel, rfl⟩
theorem dX8_isRowOfDays_4 : dc cX8_isRowOfDays 4 7 (.getfield 20) 3 := ⟨by decide +kernel, rfl⟩
theorem dX8_isRowOfDays_7 : dc cX8_isRowOfDays 7 10 (.if_icmp .ge 20) 3 := ⟨by decide +kernel, rfl⟩
theorem dX8_isRowOfDays_10 : dc cX8_isRowOfDays 10 11 (.aload_n 0) 1 := ⟨by decide +kernel, rfl⟩
theorem dX8_isRowOfDays_11 : dc cX8_isRowOfDays 11 12 (.iload_n 1) 1 := ⟨by decide +kernel, rfl⟩
theorem dX8_isRowOfDays_12 : dc cX8_isRowOfDays 12 15 (.invokevirtual 52) 3 := ⟨by decide +kernel, rfl⟩
theorem dX8_isRowOfDays_15 : dc cX8_isRowOfDays 15 16 (.iconst 3) 1 := ⟨by decide +kernel, rfl⟩
theorem dX8_isRowOfDays_16 : dc cX8_isRowOfDays 16 19 (.if_icmp .lt 5) 3 := ⟨by decide +kernel, rfl⟩
theorem dX8_isRowOfDays_19 : dc cX8_isRowOfDays 19 20 (.iconst 0) 1 := ⟨by decide +kernel, rfl⟩
theorem dX8_isRowOfDays_20 : dc cX8_isRowOfDays 20 21 .ireturn 1 := ⟨by decide +kernel, rfl⟩
theorem dX8_isRowOfDays_21 : dc cX8_isRowOfDays 21 24 (.iinc 1 1) 3 := ⟨by decide +kernel, rfl⟩
theorem dX8_isRowOfDays_24 : dc cX8_isRowOfDays 24 27 (.goto (-22)) 3 := ⟨by decide +kernel, rfl⟩
theorem dX8_isRowOfDays_27 : dc cX8_isRowOfDays 27 28 (.aload_n 0) 1 := ⟨by decide +kernel, rfl⟩
theorem dX8_isRowOfDays_28 : dc cX8_isRowOfDays 28 31 (.getfield 20) 3 := ⟨by decide +kernel, rfl⟩
theorem dX8_isRowOfDays_31 : dc cX8_isRowOfDays 31 32 (.iconst 2) 1 := ⟨by decide +kernel, rfl⟩
theorem dX8_isRowOfDays_32 : dc cX8_isRowOfDays 32 33 .irem 1 := ⟨by decide +kernel, rfl⟩
theorem dX8_isRowOfDays_33 : dc cX8_isRowOfDays 33 36 (.ifCond .ne 7) 3 := ⟨by decide +kernel, rfl⟩
theorem dX8_isRowOfDays_36 : dc cX8_isRowOfDays 36 37 (.iconst 1) 1 := ⟨by decide +kernel, rfl⟩
theorem dX8_isRowOfDays_37 : dc cX8_isRowOfDays 37 40 (.goto 4) 3 := ⟨by decide +kernel, rfl⟩
theorem dX8_isRowOfDays_40 : dc cX8_isRowOfDays 40 41 (.iconst 0) 1 := ⟨by decide +kernel, rfl⟩
theorem dX8_isRowOfDays_41 : dc cX8_isRowOfDays 41 42 .ireturn 1 := ⟨by decide +kernel, rfl⟩
def F_Tape_isRowOfDays_j27 (M : Mem) : Option (Bool) :=
  if (irm (M.1 27 1) 2) = 0 then some true else some false
def F_Tape_isRowOfDays_b2 (M : Mem) (z : Int32) : Option ((Int32) ⊕ ((Unit) ⊕ ((Unit)))) :=
  if (M.1 27 1) ≤ z then some (.inr (.inr (()))) else (F_Tape_byteAt z M).bind fun r1 => if r1 < 3 then some (.inl (z + 1)) else some (.inr (.inl (())))
def F_Tape_isRowOfDays_l2 (x1 : Int32) (M : Mem) : Option (Bool) :=
  (iter (F_Tape_isRowOfDays_b2 M) FUEL x1).bind fun q => match q with
    | .inl r => some false
    | .inr r => F_Tape_isRowOfDays_j27 M
def F_Tape_isRowOfDays (M : Mem) : Option (Bool) :=
  F_Tape_isRowOfDays_l2 0 M
set_option maxRecDepth 100000 in
set_option maxHeartbeats 4000000 in
theorem K_Tape_isRowOfDays (l : Launch) (g : GB) (htr : l.stackTraces = false) (M : Mem) (rr : Bool) (h : F_Tape_isRowOfDays M = some rr) : CT l g yX8_isRowOfDays (.code yX8_isRowOfDays cX8_isRowOfDays 2 (some .boolean) :: wAll) { frames := 2, cells := 0, slots := 0, locals := 42 } [.ref (g.2.1 27)] M (.inl (some (.int (b2i rr)))) M := by
  refine CT.of [(0, .ref (g.2.1 27))] (by decide +kernel) (Nat.le_of_ble_eq_true rfl) rfl htr ?_
  intro p e s m args below meth c K hr ht
  skip
  obtain ⟨PHI, hPHI, h⟩ : ∃ PHI : Bool → Prop, (∀ a, PHI a → a = rr) ∧ wpO (F_Tape_isRowOfDays M) PHI := ⟨fun a => a = rr, fun _ h => h, _, h, rfl⟩
  have J27 : wpO (F_Tape_isRowOfDays_j27 M) PHI → GG p l e { frames := 2, cells := 0, slots := 0, locals := 42 } s m args below meth c g 2 (vx_MQ below (Qn g s.heap.size (.inl (some (.int (b2i rr)))) M) (QX g s.heap.size (.inl (some (.int (b2i rr)))) M) args s 0 0 (AS g s.heap.size)) 0 0 27 [(0, .ref (g.2.1 27))] [] M := by
    intro h
    unfold F_Tape_isRowOfDays_j27 at h
    refine G_aload_n rfl 0 rfl K dX8_isRowOfDays_27 ?_
    refine G_get (ci := 8) (k := 1) K rfl in_X8 wd_149 rfl dX8_isRowOfDays_28 (Nat.le_of_ble_eq_true rfl) (sh_27 _ _) (Nat.le_of_ble_eq_true rfl) rfl ?_
    refine G_iconst (v := 2) rfl K dX8_isRowOfDays_31 ?_
    refine G_irem (by decide) K dX8_isRowOfDays_32 ?_
    refine G_if_ne (tgt := 40) K dX8_isRowOfDays_33 (by decide) (fun hc => ?_) (fun hc => ?_)
    · have h := wpO_f h hc
      refine G_iconst (v := 0) rfl K dX8_isRowOfDays_40 ?_
      cases hPHI _ (wpO_some h)
      exact G_iret K hr rfl dX8_isRowOfDays_41 (Nat.le_of_ble_eq_true rfl) (Nat.le_of_ble_eq_true rfl) ⟨rfl, rfl⟩
    · have h := wpO_t h hc
      refine G_iconst (v := 1) rfl K dX8_isRowOfDays_36 ?_
      refine G_goto (tgt := 41) K dX8_isRowOfDays_37 (by decide) ?_
      cases hPHI _ (wpO_some h)
      exact G_iret K hr rfl dX8_isRowOfDays_41 (Nat.le_of_ble_eq_true rfl) (Nat.le_of_ble_eq_true rfl) ⟨rfl, rfl⟩
  have J2 : ∀ (x1 : Int32), wpO (F_Tape_isRowOfDays_l2 x1 M) PHI → GG p l e { frames := 2, cells := 0, slots := 0, locals := 42 } s m args below meth c g 2 (vx_MQ below (Qn g s.heap.size (.inl (some (.int (b2i rr)))) M) (QX g s.heap.size (.inl (some (.int (b2i rr)))) M) args s 0 0 (AS g s.heap.size)) 0 0 2 [(0, .ref (g.2.1 27)), (1, .int x1)] [] M := by
    intro x1 h
    unfold F_Tape_isRowOfDays_l2 at h
    refine loop_C1 (G := fun (x1 : Int32) => GG p l e { frames := 2, cells := 0, slots := 0, locals := 42 } s m args below meth c g 2 (vx_MQ below (Qn g s.heap.size (.inl (some (.int (b2i rr)))) M) (QX g s.heap.size (.inl (some (.int (b2i rr)))) M) args s 0 0 (AS g s.heap.size)) 0 0 2 [(0, .ref (g.2.1 27)), (1, .int x1)] [] M) (body := F_Tape_isRowOfDays_b2 M) ?_ FUEL _ (wpO_bind h)
    intro P2 E2 X2
    intro z h
    unfold F_Tape_isRowOfDays_b2 at h
    refine G_iload_n rfl 1 rfl K dX8_isRowOfDays_2 ?_
    refine G_aload_n rfl 0 rfl K dX8_isRowOfDays_3 ?_
    refine G_get (ci := 8) (k := 1) K rfl in_X8 wd_149 rfl dX8_isRowOfDays_4 (Nat.le_of_ble_eq_true rfl) (sh_27 _ _) (Nat.le_of_ble_eq_true rfl) rfl ?_
    refine G_icmp_ge (tgt := 27) K dX8_isRowOfDays_7 (by decide) (fun hc => ?_) (fun hc => ?_)
    · have h := wpO_t h hc
      have h := X2 _ (wpO_some h)
      try dsimp only at h
      exact G_lv (lv' := [(0, .ref (g.2.1 27))]) [0] rfl (J27 h)
    · have h := wpO_f h hc
      refine G_aload_n rfl 0 rfl K dX8_isRowOfDays_10 ?_
      refine G_iload_n rfl 1 rfl K dX8_isRowOfDays_11 ?_
      obtain ⟨r1, e1, h⟩ := wpO_bind h
      refine G_callVi (ci := 8) [.int z] [] K dX8_isRowOfDays_12 wv_780 yd_X8_byteAt (Nat.le_of_ble_eq_true rfl) (sh_27 _ _) rfl (by decide) (by decide) rfl rfl (Nat.le_of_ble_eq_true rfl) (K_Tape_byteAt l g htr z M _ e1) ?_
      refine G_iconst (v := 3) rfl K dX8_isRowOfDays_15 ?_
      refine G_icmp_lt (tgt := 21) K dX8_isRowOfDays_16 (by decide) (fun hc => ?_) (fun hc => ?_)
      · have h := wpO_t h hc
        refine G_iinc (v := z + 1) 1 rfl K dX8_isRowOfDays_21 rfl (Nat.le_of_ble_eq_true rfl) rfl ?_
        refine G_goto (tgt := 2) K dX8_isRowOfDays_24 (by decide) ?_
        exact G_lv (lv' := [(0, .ref (g.2.1 27)), (1, .int (z + 1))]) [1, 0] rfl (E2 (z + 1) (wpO_some h))
      · have h := wpO_f h hc
        have h := X2 _ (wpO_some h)
        try dsimp only at h
        refine G_iconst (v := 0) rfl K dX8_isRowOfDays_19 ?_
        cases hPHI _ (wpO_some h)
        exact G_iret K hr rfl dX8_isRowOfDays_20 (Nat.le_of_ble_eq_true rfl) (Nat.le_of_ble_eq_true rfl) ⟨rfl, rfl⟩
  unfold F_Tape_isRowOfDays at h
  refine G_iconst (v := 0) rfl K dX8_isRowOfDays_0 ?_
  refine G_istore_n rfl K dX8_isRowOfDays_1 (Nat.le_of_ble_eq_true rfl) rfl ?_
  exact G_lv (lv' := [(0, .ref (g.2.1 27)), (1, .int 0)]) [1, 0] rfl (J2 0 h)
theorem dX8_firstStray_0 : dc cX8_firstStray 0 1 (.iconst (-1)) 1 := ⟨by decide +kernel, rfl⟩
theorem dX8_firstStray_1 : dc cX8_firstStray 1 2 (.istore_n 2) 1 := ⟨by decide +kernel, rfl⟩
theorem dX8_firstStray_2 : dc cX8_firstStray 2 3 (.iload_n 1) 1 := ⟨by decide +kernel, rfl⟩
theorem dX8_firstStray_3 : dc cX8_firstStray 3 4 (.istore_n 3) 1 := ⟨by decide +kernel, rfl⟩
theorem dX8_firstStray_4 : dc cX8_firstStray 4 5 (.iload_n 3) 1 := ⟨by decide +kernel, rfl⟩
theorem dX8_firstStray_5 : dc cX8_firstStray 5 6 (.iconst 3) 1 := ⟨by decide +kernel, rfl⟩
theorem dX8_firstStray_6 : dc cX8_firstStray 6 9 (.if_icmp .ge 39) 3 := ⟨by decide +kernel, rfl⟩
theorem dX8_firstStray_9 : dc cX8_firstStray 9 10 (.aload_n 0) 1 := ⟨by decide +kernel, rfl⟩
theorem dX8_firstStray_10 : dc cX8_firstStray 10 13 (.getfield 29) 3 := ⟨by decide +kernel, rfl⟩
theorem dX8_firstStray_13 : dc cX8_firstStray 13 14 (.iload_n 3) 1 := ⟨by decide +kernel, rfl⟩
theorem dX8_firstStray_14 : dc cX8_firstStray 14 17 (.invokevirtual 48) 3 := ⟨by decide +kernel, rfl⟩
theorem dX8_firstStray_17 : dc cX8_firstStray 17 19 (.istore 4) 2 := ⟨by decide +kernel, rfl⟩
theorem dX8_firstStray_19 : dc cX8_firstStray 19 21 (.iload 4) 2 := ⟨by decide +kernel, rfl⟩
theorem dX8_firstStray_21 : dc cX8_firstStray 21 22 (.iconst (-1)) 1 := ⟨by decide +kernel, rfl⟩
theorem dX8_firstStray_22 : dc cX8_firstStray 22 25 (.if_icmp .eq 17) 3 := ⟨by decide +kernel, rfl⟩
theorem dX8_firstStray_25 : dc cX8_firstStray 25 26 (.iload_n 2) 1 := ⟨by decide +kernel, rfl⟩
theorem dX8_firstStray_26 : dc cX8_firstStray 26 27 (.iconst (-1)) 1 := ⟨by decide +kernel, rfl⟩
theorem dX8_firstStray_27 : dc cX8_firstStray 27 30 (.if_icmp .eq 9) 3 := ⟨by decide +kernel, rfl⟩
theorem dX8_firstStray_30 : dc cX8_firstStray 30 32 (.iload 4) 2 := ⟨by decide +kernel, rfl⟩
theorem dX8_firstStray_32 : dc cX8_firstStray 32 33 (.iload_n 2) 1 := ⟨by decide +kernel, rfl⟩
theorem dX8_firstStray_33 : dc cX8_firstStray 33 36 (.if_icmp .ge 6) 3 := ⟨by decide +kernel, rfl⟩
theorem dX8_firstStray_36 : dc cX8_firstStray 36 38 (.iload 4) 2 := ⟨by decide +kernel, rfl⟩
theorem dX8_firstStray_38 : dc cX8_firstStray 38 39 (.istore_n 2) 1 := ⟨by decide +kernel, rfl⟩
theorem dX8_firstStray_39 : dc cX8_firstStray 39 42 (.iinc 3 1) 3 := ⟨by decide +kernel, rfl⟩
theorem dX8_firstStray_42 : dc cX8_firstStray 42 45 (.goto (-38)) 3 := ⟨by decide +kernel, rfl⟩
theorem dX8_firstStray_45 : dc cX8_firstStray 45 46 (.iload_n 2) 1 := ⟨by decide +kernel, rfl⟩
theorem dX8_firstStray_46 : dc cX8_firstStray 46 47 .ireturn 1 := ⟨by decide +kernel, rfl⟩
def F_Tape_firstStray_b4 (M : Mem) (z : Int32 × Int32) : Option ((Int32 × Int32) ⊕ ((Int32))) :=
  if 3 ≤ z.2 then some (.inr z.1) else (F_Row_small 33 3 z.2 M).bind fun r1 => if r1 = ((-1)) then some (.inl ((z.1, z.2 + 1))) else if z.1 = ((-1)) then some (.inl ((r1, z.2 + 1))) else if z.1 ≤ r1 then some (.inl ((z.1, z.2 + 1))) else some (.inl ((r1, z.2 + 1)))
def F_Tape_firstStray_l4 (x2 : Int32) (x3 : Int32) (M : Mem) : Option (Int32) :=
  (iter (F_Tape_firstStray_b4 M) FUEL (x2, x3)).bind fun r => some r
def F_Tape_firstStray (x1 : Int32) (M : Mem) : Option (Int32) :=
  F_Tape_firstStray_l4 ((-1)) x1 M
set_option maxRecDepth 100000 in
set_option maxHeartbeats 4000000 in
theorem K_Tape_firstStray (l : Launch) (g : GB) (htr : l.stackTraces = false) (x1 : Int32) (M : Mem) (rr : Int32) (h : F_Tape_firstStray x1 M = some rr) : CT l g yX8_firstStray (.code yX8_firstStray cX8_firstStray 5 (some .int) :: wAll) { frames := 1, cells := 0, slots := 0, locals := 21 } [.ref (g.2.1 27), .int x1] M (.inl (some (.int rr))) M := by
  refine CT.of [(0, .ref (g.2.1 27)), (1, .int x1)] (by decide +kernel) (Nat.le_of_ble_eq_true rfl) rfl htr ?_
  intro p e s m args below meth c K hr ht
  skip
  obtain ⟨PHI, hPHI, h⟩ : ∃ PHI : Int32 → Prop, (∀ a, PHI a → a = rr) ∧ wpO (F_Tape_firstStray x1 M) PHI := ⟨fun a => a = rr, fun _ h => h, _, h, rfl⟩
  have J4 : ∀ (x2 : Int32) (x3 : Int32), wpO (F_Tape_firstStray_l4 x2 x3 M) PHI → GG p l e { frames := 1, cells := 0, slots := 0, locals := 21 } s m args below meth c g 5 (vx_MQ below (Qn g s.heap.size (.inl (some (.int rr))) M) (QX g s.heap.size (.inl (some (.int rr))) M) args s 0 0 (AS g s.heap.size)) 0 0 4 [(0, .ref (g.2.1 27)), (2, .int x2), (3, .int x3)] [] M := by
    intro x2 x3 h
    unfold F_Tape_firstStray_l4 at h
    refine loop_C2 (G := fun (x2 : Int32) (x3 : Int32) => GG p l e { frames := 1, cells := 0, slots := 0, locals := 21 } s m args below meth c g 5 (vx_MQ below (Qn g s.heap.size (.inl (some (.int rr))) M) (QX g s.heap.size (.inl (some (.int rr))) M) args s 0 0 (AS g s.heap.size)) 0 0 4 [(0, .ref (g.2.1 27)), (2, .int x2), (3, .int x3)] [] M) (body := F_Tape_firstStray_b4 M) ?_ FUEL _ _ (wpO_bind h)
    intro P4 E4 X4
    intro z h
    unfold F_Tape_firstStray_b4 at h
    refine G_iload_n rfl 2 rfl K dX8_firstStray_4 ?_
    refine G_iconst (v := 3) rfl K dX8_firstStray_5 ?_
    refine G_icmp_ge (tgt := 45) K dX8_firstStray_6 (by decide) (fun hc => ?_) (fun hc => ?_)
    · have h := wpO_t h hc
      have h := X4 _ (wpO_some h)
      try dsimp only at h
      refine G_iload_n rfl 1 rfl K dX8_firstStray_45 ?_
      cases hPHI _ (wpO_some h)
      exact G_iret K hr rfl dX8_firstStray_46 (Nat.le_of_ble_eq_true rfl) (Nat.le_of_ble_eq_true rfl) ⟨rfl, rfl⟩
    · have h := wpO_f h hc
      refine G_aload_n rfl 0 rfl K dX8_firstStray_9 ?_
      refine G_get (ci := 8) (k := 3) K rfl in_X8 wd_153 rfl dX8_firstStray_10 (Nat.le_of_ble_eq_true rfl) (sh_27 _ _) (Nat.le_of_ble_eq_true rfl) rfl ?_
      refine G_iload_n rfl 2 rfl K dX8_firstStray_13 ?_
      obtain ⟨r1, e1, h⟩ := wpO_bind h
      refine G_callVi (ci := 7) [.int z.2] [] K dX8_firstStray_14 wv_784 yd_X7_small (Nat.le_of_ble_eq_true rfl) (sh_32 _ _) rfl (by decide) (by decide) rfl rfl (Nat.le_of_ble_eq_true rfl) (K_Row_small l g htr 32 33 3 isRow_32 z.2 M _ e1) ?_
      refine G_istore K dX8_firstStray_17 (Nat.le_of_ble_eq_true rfl) rfl ?_
      refine G_iload 0 rfl K dX8_firstStray_19 ?_
      refine G_iconst (v := (-1)) rfl K dX8_firstStray_21 ?_
      refine G_icmp_eq (tgt := 39) K dX8_firstStray_22 (by decide) (fun hc => ?_) (fun hc => ?_)
      · have h := wpO_t h hc
        refine G_iinc (v := z.2 + 1) 3 rfl K dX8_firstStray_39 rfl (Nat.le_of_ble_eq_true rfl) rfl ?_
        refine G_goto (tgt := 4) K dX8_firstStray_42 (by decide) ?_
        exact G_lv (lv' := [(0, .ref (g.2.1 27)), (2, .int z.1), (3, .int (z.2 + 1))]) [2, 3, 0] rfl (E4 z.1 (z.2 + 1) (wpO_some h))
      · have h := wpO_f h hc
        refine G_iload_n rfl 2 rfl K dX8_firstStray_25 ?_
        refine G_iconst (v := (-1)) rfl K dX8_firstStray_26 ?_
        refine G_icmp_eq (tgt := 36) K dX8_firstStray_27 (by decide) (fun hc => ?_) (fun hc => ?_)
        · have h := wpO_t h hc
          refine G_iload 0 rfl K dX8_firstStray_36 ?_
          refine G_istore_n rfl K dX8_firstStray_38 (Nat.le_of_ble_eq_true rfl) rfl ?_
          refine G_iinc (v := z.2 + 1) 3 rfl K dX8_firstStray_39 rfl (Nat.le_of_ble_eq_true rfl) rfl ?_
          refine G_goto (tgt := 4) K dX8_firstStray_42 (by decide) ?_
          exact G_lv (lv' := [(0, .ref (g.2.1 27)), (2, .int r1), (3, .int (z.2 + 1))]) [3, 1, 0] rfl (E4 r1 (z.2 + 1) (wpO_some h))
        · have h := wpO_f h hc
          refine G_iload 0 rfl K dX8_firstStray_30 ?_
          refine G_iload_n rfl 2 rfl K dX8_firstStray_32 ?_
          refine G_icmp_ge (tgt := 39) K dX8_firstStray_33 (by decide) (fun hc => ?_) (fun hc => ?_)
          · have h := wpO_t h hc
            refine G_iinc (v := z.2 + 1) 3 rfl K dX8_firstStray_39 rfl (Nat.le_of_ble_eq_true rfl) rfl ?_
            refine G_goto (tgt := 4) K dX8_firstStray_42 (by decide) ?_
            exact G_lv (lv' := [(0, .ref (g.2.1 27)), (2, .int z.1), (3, .int (z.2 + 1))]) [2, 3, 0] rfl (E4 z.1 (z.2 + 1) (wpO_some h))
          · have h := wpO_f h hc
            refine G_iload 0 rfl K dX8_firstStray_36 ?_
            refine G_istore_n rfl K dX8_firstStray_38 (Nat.le_of_ble_eq_true rfl) rfl ?_
            refine G_iinc (v := z.2 + 1) 3 rfl K dX8_firstStray_39 rfl (Nat.le_of_ble_eq_true rfl) rfl ?_
            refine G_goto (tgt := 4) K dX8_firstStray_42 (by decide) ?_
            exact G_lv (lv' := [(0, .ref (g.2.1 27)), (2, .int r1), (3, .int (z.2 + 1))]) [3, 1, 0] rfl (E4 r1 (z.2 + 1) (wpO_some h))
  unfold F_Tape_firstStray at h
  refine G_iconst (v := (-1)) rfl K dX8_firstStray_0 ?_
  refine G_istore_n rfl K dX8_firstStray_1 (Nat.le_of_ble_eq_true rfl) rfl ?_
  refine G_iload_n rfl 2 rfl K dX8_firstStray_2 ?_
  refine G_istore_n rfl K dX8_firstStray_3 (Nat.le_of_ble_eq_true rfl) rfl ?_
  exact G_lv (lv' := [(0, .ref (g.2.1 27)), (2, .int ((-1))), (3, .int x1)]) [2, 1, 0] rfl (J4 ((-1)) x1 h)
theorem dX8_isLetter_0 : dc cX8_isLetter 0 1 (.iload_n 1) 1 := ⟨by decide +kernel, rfl⟩
theorem dX8_isLetter_1 : dc cX8_isLetter 1 3 (.bipush 97) 2 := ⟨by decide +kernel, rfl⟩
theorem dX8_isLetter_3 : dc cX8_isLetter 3 6 (.if_icmp .lt 13) 3 := ⟨by decide +kernel, rfl⟩
theorem dX8_isLetter_6 : dc cX8_isLetter 6 7 (.iload_n 1) 1 := ⟨by decide +kernel, rfl⟩
theorem dX8_isLetter_7 : dc cX8_isLetter 7 9 (.bipush 122) 2 := ⟨by decide +kernel, rfl⟩
theorem dX8_isLetter_9 : dc cX8_isLetter 9 12 (.if_icmp .gt 7) 3 := ⟨by decide +kernel, rfl⟩
theorem dX8_isLetter_12 : dc cX8_isLetter 12 13 (.iconst 1) 1 := ⟨by decide +kernel, rfl⟩
theorem dX8_isLetter_13 : dc cX8_isLetter 13 16 (.goto 4) 3 := ⟨by decide +kernel, rfl⟩
theorem dX8_isLetter_16 : dc cX8_isLetter 16 17 (.iconst 0) 1 := ⟨by decide +kernel, rfl⟩
theorem dX8_isLetter_17 : dc cX8_isLetter 17 18 .ireturn 1 := ⟨by decide +kernel, rfl⟩
def F_Tape_isLetter (x1 : Int32) (M : Mem) : Option (Bool) :=
  if x1 < 97 then some false else if 122 < x1 then some false else some true
set_option maxRecDepth 100000 in
set_option maxHeartbeats 4000000 in
theorem K_Tape_isLetter (l : Launch) (g : GB) (htr : l.stackTraces = false) (x1 : Int32) (M : Mem) (rr : Bool) (h : F_Tape_isLetter x1 M = some rr) : CT l g yX8_isLetter (.code yX8_isLetter cX8_isLetter 2 (some .boolean) :: wAll) { frames := 0, cells := 0, slots := 0, locals := 0 } [.ref (g.2.1 27), .int x1] M (.inl (some (.int (b2i rr)))) M := by
  refine CT.of [(0, .ref (g.2.1 27)), (1, .int x1)] (by decide +kernel) (Nat.le_of_ble_eq_true rfl) rfl htr ?_
  intro p e s m args below meth c K hr ht
  skip
  obtain ⟨PHI, hPHI, h⟩ : ∃ PHI : Bool → Prop, (∀ a, PHI a → a = rr) ∧ wpO (F_Tape_isLetter x1 M) PHI := ⟨fun a => a = rr, fun _ h => h, _, h, rfl⟩
  unfold F_Tape_isLetter at h
  refine G_iload_n rfl 1 rfl K dX8_isLetter_0 ?_
  refine G_bipush (v := 97) rfl K dX8_isLetter_1 ?_
  refine G_icmp_lt (tgt := 16) K dX8_isLetter_3 (by decide) (fun hc => ?_) (fun hc => ?_)
  · have h := wpO_t h hc
    refine G_iconst (v := 0) rfl K dX8_isLetter_16 ?_
    cases hPHI _ (wpO_some h)
    exact G_iret K hr rfl dX8_isLetter_17 (Nat.le_of_ble_eq_true rfl) (Nat.le_of_ble_eq_true rfl) ⟨rfl, rfl⟩
  · have h := wpO_f h hc
    refine G_iload_n rfl 1 rfl K dX8_isLetter_6 ?_
    refine G_bipush (v := 122) rfl K dX8_isLetter_7 ?_
    refine G_icmp_gt (tgt := 16) K dX8_isLetter_9 (by decide) (fun hc => ?_) (fun hc => ?_)
    · have h := wpO_t h hc
      refine G_iconst (v := 0) rfl K dX8_isLetter_16 ?_
      cases hPHI _ (wpO_some h)
      exact G_iret K hr rfl dX8_isLetter_17 (Nat.le_of_ble_eq_true rfl) (Nat.le_of_ble_eq_true rfl) ⟨rfl, rfl⟩
    · have h := wpO_f h hc
      refine G_iconst (v := 1) rfl K dX8_isLetter_12 ?_
      refine G_goto (tgt := 17) K dX8_isLetter_13 (by decide) ?_
      cases hPHI _ (wpO_some h)
      exact G_iret K hr rfl dX8_isLetter_17 (Nat.le_of_ble_eq_true rfl) (Nat.le_of_ble_eq_true rfl) ⟨rfl, rfl⟩
theorem dX8_isFigure_0 : dc cX8_isFigure 0 1 (.iload_n 1) 1 := ⟨by decide +kernel, rfl⟩
theorem dX8_isFigure_1 : dc cX8_isFigure 1 3 (.bipush 48) 2 := ⟨by decide +kernel, rfl⟩
theorem dX8_isFigure_3 : dc cX8_isFigure 3 6 (.if_icmp .lt 13) 3 := ⟨by decide +kernel, rfl⟩
theorem dX8_isFigure_6 : dc cX8_isFigure 6 7 (.iload_n 1) 1 := ⟨by decide +kernel, rfl⟩
theorem dX8_isFigure_7 : dc cX8_isFigure 7 9 (.bipush 57) 2 := ⟨by decide +kernel, rfl⟩
theorem dX8_isFigure_9 : dc cX8_isFigure 9 12 (.if_icmp .gt 7) 3 := ⟨by decide +kernel, rfl⟩
theorem dX8_isFigure_12 : dc cX8_isFigure 12 13 (.iconst 1) 1 := ⟨by decide +kernel, rfl⟩
theorem dX8_isFigure_13 : dc cX8_isFigure 13 16 (.goto 4) 3 := ⟨by decide +kernel, rfl⟩
theorem dX8_isFigure_16 : dc cX8_isFigure 16 17 (.iconst 0) 1 := ⟨by decide +kernel, rfl⟩
theorem dX8_isFigure_17 : dc cX8_isFigure 17 18 .ireturn 1 := ⟨by decide +kernel, rfl⟩
def F_Tape_isFigure (x1 : Int32) (M : Mem) : Option (Bool) :=
  if x1 < 48 then some false else if 57 < x1 then some false else some true
set_option maxRecDepth 100000 in
set_option maxHeartbeats 4000000 in
theorem K_Tape_isFigure (l : Launch) (g : GB) (htr : l.stackTraces = false) (x1 : Int32) (M : Mem) (rr : Bool) (h : F_Tape_isFigure x1 M = some rr) : CT l g yX8_isFigure (.code yX8_isFigure cX8_isFigure 2 (some .boolean) :: wAll) { frames := 0, cells := 0, slots := 0, locals := 0 } [.ref (g.2.1 27), .int x1] M (.inl (some (.int (b2i rr)))) M := by
  refine CT.of [(0, .ref (g.2.1 27)), (1, .int x1)] (by decide +kernel) (Nat.le_of_ble_eq_true rfl) rfl htr ?_
  intro p e s m args below meth c K hr ht
  skip
  obtain ⟨PHI, hPHI, h⟩ : ∃ PHI : Bool → Prop, (∀ a, PHI a → a = rr) ∧ wpO (F_Tape_isFigure x1 M) PHI := ⟨fun a => a = rr, fun _ h => h, _, h, rfl⟩
  unfold F_Tape_isFigure at h
  refine G_iload_n rfl 1 rfl K dX8_isFigure_0 ?_
  refine G_bipush (v := 48) rfl K dX8_isFigure_1 ?_
  refine G_icmp_lt (tgt := 16) K dX8_isFigure_3 (by decide) (fun hc => ?_) (fun hc => ?_)
  · have h := wpO_t h hc
    refine G_iconst (v := 0) rfl K dX8_isFigure_16 ?_
    cases hPHI _ (wpO_some h)
    exact G_iret K hr rfl dX8_isFigure_17 (Nat.le_of_ble_eq_true rfl) (Nat.le_of_ble_eq_true rfl) ⟨rfl, rfl⟩
  · have h := wpO_f h hc
    refine G_iload_n rfl 1 rfl K dX8_isFigure_6 ?_
    refine G_bipush (v := 57) rfl K dX8_isFigure_7 ?_
    refine G_icmp_gt (tgt := 16) K dX8_isFigure_9 (by decide) (fun hc => ?_) (fun hc => ?_)
    · have h := wpO_t h hc
      refine G_iconst (v := 0) rfl K dX8_isFigure_16 ?_
      cases hPHI _ (wpO_some h)
      exact G_iret K hr rfl dX8_isFigure_17 (Nat.le_of_ble_eq_true rfl) (Nat.le_of_ble_eq_true rfl) ⟨rfl, rfl⟩
    · have h := wpO_f h hc
      refine G_iconst (v := 1) rfl K dX8_isFigure_12 ?_
      refine G_goto (tgt := 17) K dX8_isFigure_13 (by decide) ?_
      cases hPHI _ (wpO_some h)
      exact G_iret K hr rfl dX8_isFigure_17 (Nat.le_of_ble_eq_true rfl) (Nat.le_of_ble_eq_true rfl) ⟨rfl, rfl⟩
theorem yd_X8_isLetter : ydN yX8_isLetter 1 := ⟨by decide, by decide, by decide +kernel⟩
theorem yd_X8_isFigure : ydN yX8_isFigure 1 := ⟨by decide, by decide, by decide +kernel⟩
theorem wv_785 : wdV "KeptWell$Tape" 95 yX8_isLetter cX8_isLetter 2 (some .boolean) := ⟨wd_785, wd_787, ws_X8_isLetter, wd_5, wd_788⟩
theorem wv_789 : wdV "KeptWell$Tape" 98 yX8_isFigure cX8_isFigure 2 (some .boolean) := ⟨wd_789, wd_791, ws_X8_isFigure, wd_5, wd_792⟩
theorem dX8_step_0 : dc cX8_step 0 1 (.aload_n 0) 1 := ⟨by decide +kernel, rfl⟩
theorem dX8_step_1 : dc cX8_step 1 2 (.aload_n 0) 1 := ⟨by decide +kernel, rfl⟩
theorem dX8_step_2 : dc cX8_step 2 5 (.getfield 38) 3 := ⟨by decide +kernel, rfl⟩
theorem dX8_step_5 : dc cX8_step 5 8 (.putfield 35) 3 := ⟨by decide +kernel, rfl⟩
theorem dX8_step_8 : dc cX8_step 8 9 (.aload_n 0) 1 := ⟨by decide +kernel, rfl⟩
theorem dX8_step_9 : dc cX8_step 9 12 (.getfield 35) 3 := ⟨by decide +kernel, rfl⟩
theorem dX8_step_12 : dc cX8_step 12 13 (.aload_n 0) 1 := ⟨by decide +kernel, rfl⟩
theorem dX8_step_13 : dc cX8_step 13 16 (.getfield 20) 3 := ⟨by decide +kernel, rfl⟩
theorem dX8_step_16 : dc cX8_step 16 19 (.if_icmp .ge 29) 3 := ⟨by decide +kernel, rfl⟩
theorem dX8_step_19 : dc cX8_step 19 20 (.aload_n 0) 1 := ⟨by decide +kernel, rfl⟩
theorem dX8_step_20 : dc cX8_step 20 21 (.aload_n 0) 1 := ⟨by decide +kernel, rfl⟩
theorem dX8_step_21 : dc cX8_step 21 24 (.getfield 35) 3 := ⟨by decide +kernel, rfl⟩
theorem dX8_step_24 : dc cX8_step 24 27 (.invokevirtual 52) 3 := ⟨by decide +kernel, rfl⟩
theorem dX8_step_27 : dc cX8_step 27 29 (.bipush 32) 2 := ⟨by decide +kernel, rfl⟩
theorem dX8_step_29 : dc cX8_step 29 32 (.if_icmp .ne 16) 3 := ⟨by decide +kernel, rfl⟩
theorem dX8_step_32 : dc cX8_step 32 33 (.aload_n 0) 1 := ⟨by decide +kernel, rfl⟩
theorem dX8_step_33 : dc cX8_step 33 34 .dup 1 := ⟨by decide +kernel, rfl⟩
theorem dX8_step_34 : dc cX8_step 34 37 (.getfield 35) 3 := ⟨by decide +kernel, rfl⟩
theorem dX8_step_37 : dc cX8_step 37 38 (.iconst 1) 1 := ⟨by decide +kernel, rfl⟩
theorem dX8_step_38 : dc cX8_step 38 39 .iadd 1 := ⟨by decide +kernel, rfl⟩
theorem dX8_step_39 : dc cX8_step 39 42 (.putfield 35) 3 := ⟨by decide +kernel, rfl⟩
theorem dX8_step_42 : dc cX8_step 42 45 (.goto (-34)) 3 := ⟨by decide +kernel, rfl⟩
theorem dX8_step_45 : dc cX8_step 45 46 (.aload_n 0) 1 := ⟨by decide +kernel, rfl⟩
theorem dX8_step_46 : dc cX8_step 46 47 (.aload_n 0) 1 := ⟨by decide +kernel, rfl⟩
theorem dX8_step_47 : dc cX8_step 47 50 (.getfield 35) 3 := ⟨by decide +kernel, rfl⟩
theorem dX8_step_50 : dc cX8_step 50 53 (.putfield 38) 3 := ⟨by decide +kernel, rfl⟩
theorem dX8_step_53 : dc cX8_step 53 54 (.aload_n 0) 1 := ⟨by decide +kernel, rfl⟩
theorem dX8_step_54 : dc cX8_step 54 55 (.iconst (-1)) 1 := ⟨by decide +kernel, rfl⟩
theorem dX8_step_55 : dc cX8_step 55 58 (.putfield 41) 3 := ⟨by decide +kernel, rfl⟩
theorem dX8_step_58 : dc cX8_step 58 59 (.aload_n 0) 1 := ⟨by decide +kernel, rfl⟩
theorem dX8_step_59 : dc cX8_step 59 62 (.getfield 35) 3 := ⟨by decide +kernel, rfl⟩
theorem dX8_step_62 : dc cX8_step 62 63 (.aload_n 0) 1 := ⟨by decide +kernel, rfl⟩
theorem dX8_step_63 : dc cX8_step 63 66 (.getfield 20) 3 := ⟨by decide +kernel, rfl⟩
theorem dX8_step_66 : dc cX8_step 66 69 (.if_icmp .lt 11) 3 := ⟨by decide +kernel, rfl⟩
theorem dX8_step_69 : dc cX8_step 69 70 (.aload_n 0) 1 := ⟨by decide +kernel, rfl⟩
theorem dX8_step_70 : dc cX8_step 70 71 (.iconst 0) 1 := ⟨by decide +kernel, rfl⟩
theorem dX8_step_71 : dc cX8_step 71 74 (.putfield 32) 3 := ⟨by decide +kernel, rfl⟩
theorem dX8_step_74 : dc cX8_step 74 77 (.goto 190) 3 := ⟨by decide +kernel, rfl⟩
theorem dX8_step_77 : dc cX8_step 77 78 (.aload_n 0) 1 := ⟨by decide +kernel, rfl⟩
theorem dX8_step_78 : dc cX8_step 78 79 (.aload_n 0) 1 := ⟨by decide +kernel, rfl⟩
theorem dX8_step_79 : dc cX8_step 79 80 (.aload_n 0) 1 := ⟨by decide +kernel, rfl⟩
theorem dX8_step_80 : dc cX8_step 80 83 (.getfield 35) 3 := ⟨by decide +kernel, rfl⟩
theorem dX8_step_83 : dc cX8_step 83 86 (.invokevirtual 52) 3 := ⟨by decide +kernel, rfl⟩
theorem dX8_step_86 : dc cX8_step 86 89 (.invokevirtual 95) 3 := ⟨by decide +kernel, rfl⟩
theorem dX8_step_89 : dc cX8_step 89 92 (.ifCond .eq 47) 3 := ⟨by decide +kernel, rfl⟩
theorem dX8_step_92 : dc cX8_step 92 93 (.aload_n 0) 1 := ⟨by decide +kernel, rfl⟩
theorem dX8_step_93 : dc cX8_step 93 94 (.iconst 1) 1 := ⟨by decide +kernel, rfl⟩
theorem dX8_step_94 : dc cX8_step 94 97 (.putfield 32) 3 := ⟨by decide +kernel, rfl⟩
theorem dX8_step_97 : dc cX8_step 97 98 (.aload_n 0) 1 := ⟨by decide +kernel, rfl⟩
theorem dX8_step_98 : dc cX8_step 98 101 (.getfield 38) 3 := ⟨by decide +kernel, rfl⟩
theorem dX8_step_101 : dc cX8_step 101 102 (.aload_n 0) 1 := ⟨by decide +kernel, rfl⟩
theorem dX8_step_102 : dc cX8_step 102 105 (.getfield 20) 3 := ⟨by decide +kernel, rfl⟩
theorem dX8_step_105 : dc cX8_step 105 108 (.if_icmp .ge 159) 3 := ⟨by decide +kernel, rfl⟩
theorem dX8_step_108 : dc cX8_step 108 109 (.aload_n 0) 1 := ⟨by decide +kernel, rfl⟩
theorem dX8_step_109 : dc cX8_step 109 110 (.aload_n 0) 1 := ⟨by decide +kernel, rfl⟩
theorem dX8_step_110 : dc cX8_step 110 111 (.aload_n 0) 1 := ⟨by decide +kernel, rfl⟩
theorem dX8_step_111 : dc cX8_step 111 114 (.getfield 38) 3 := ⟨by decide +kernel, rfl⟩
theorem dX8_step_114 : dc cX8_step 114 117 (.invokevirtual 52) 3 := ⟨by decide +kernel, rfl⟩
theorem dX8_step_117 : dc cX8_step 117 120 (.invokevirtual 95) 3 := ⟨by decide +kernel, rfl⟩
theorem dX8_step_120 : dc cX8_step 120 123 (.ifCond .eq 144) 3 := ⟨by decide +kernel, rfl⟩
theorem dX8_step_123 : dc cX8_step 123 124 (.aload_n 0) 1 := ⟨by decide +kernel, rfl⟩
theorem dX8_step_124 : dc cX8_step 124 125 .dup 1 := ⟨by decide +kernel, rfl⟩
theorem dX8_step_125 : dc cX8_step 125 128 (.getfield 38) 3 := ⟨by decide +kernel, rfl⟩
theorem dX8_step_128 : dc cX8_step 128 129 (.iconst 1) 1 := ⟨by decide +kernel, rfl⟩
theorem dX8_step_129 : dc cX8_step 129 130 .iadd 1 := ⟨by decide +kernel, rfl⟩
theorem dX8_step_130 : dc cX8_step 130 133 (.putfield 38) 3 := ⟨by decide +kernel, rfl⟩
theorem dX8_step_133 : dc cX8_step 133 136 (.goto (-36)) 3 := ⟨by decide +kernel, rfl⟩
theorem dX8_step_136 : dc cX8_step 136 137 (.aload_n 0) 1 := ⟨by decide +kernel, rfl⟩
theorem dX8_step_137 : dc cX8_step 137 138 (.aload_n 0) 1 := ⟨by decide +kernel, rfl⟩
theorem dX8_step_138 : dc cX8_step 138 139 (.aload_n 0) 1 := ⟨by decide +kernel, rfl⟩
theorem dX8_step_139 : dc cX8_step 139 142 (.getfield 35) 3 := ⟨by decide +kernel, rfl⟩
theorem dX8_step_142 : dc cX8_step 142 145 (.invokevirtual 52) 3 := ⟨by decide +kernel, rfl⟩
theorem dX8_step_145 : dc cX8_step 145 148 (.invokevirtual 98) 3 := ⟨by decide +kernel, rfl⟩
theorem dX8_step_148 : dc cX8_step 148 151 (.ifCond .eq 89) 3 := ⟨by decide +kernel, rfl⟩
theorem dX8_step_151 : dc cX8_step 151 152 (.aload_n 0) 1 := ⟨by decide +kernel, rfl⟩
theorem dX8_step_152 : dc cX8_step 152 153 (.iconst 2) 1 := ⟨by decide +kernel, rfl⟩
theorem dX8_step_153 : dc cX8_step 153 156 (.putfield 32) 3 := ⟨by decide +kernel, rfl⟩
theorem dX8_step_156 : dc cX8_step 156 157 (.aload_n 0) 1 := ⟨by decide +kernel, rfl⟩
theorem dX8_step_157 : dc cX8_step 157 160 (.getfield 38) 3 := ⟨by decide +kernel, rfl⟩
theorem dX8_step_160 : dc cX8_step 160 161 (.aload_n 0) 1 := ⟨by decide +kernel, rfl⟩
theorem dX8_step_161 : dc cX8_step 161 164 (.getfield 20) 3 := ⟨by decide +kernel, rfl⟩
theorem dX8_step_164 : dc cX8_step 164 167 (.if_icmp .ge 31) 3 := ⟨by decide +kernel, rfl⟩
theorem dX8_step_167 : dc cX8_step 167 168 (.aload_n 0) 1 := ⟨by decide +kernel, rfl⟩
theorem dX8_step_168 : dc cX8_step 168 169 (.aload_n 0) 1 := ⟨by decide +kernel, rfl⟩
theorem dX8_step_169 : dc cX8_step 169 170 (.aload_n 0) 1 := ⟨by decide +kernel, rfl⟩
theorem dX8_step_170 : dc cX8_step 170 173 (.getfield 38) 3 := ⟨by decide +kernel, rfl⟩
theorem dX8_step_173 : dc cX8_step 173 176 (.invokevirtual 52) 3 := ⟨by decide +kernel, rfl⟩
theorem dX8_step_176 : dc cX8_step 176 179 (.invokevirtual 98) 3 := ⟨by decide +kernel, rfl⟩
theorem dX8_step_179 : dc cX8_step 179 182 (.ifCond .eq 16) 3 := ⟨by decide +kernel, rfl⟩
theorem dX8_step_182 : dc cX8_step 182 183 (.aload_n 0) 1 := ⟨by decide +kernel, rfl⟩
theorem dX8_step_183 : dc cX8_step 183 184 .dup 1 := ⟨by decide +kernel, rfl⟩
theorem dX8_step_184 : dc cX8_step 184 187 (.getfield 38) 3 := ⟨by decide +kernel, rfl⟩
theorem dX8_step_187 : dc cX8_step 187 188 (.iconst 1) 1 := ⟨by decide +kernel, rfl⟩
theorem dX8_step_188 : dc cX8_step 188 189 .iadd 1 := ⟨by decide +kernel, rfl⟩
theorem dX8_step_189 : dc cX8_step 189 192 (.putfield 38) 3 := ⟨by decide +kernel, rfl⟩
theorem dX8_step_192 : dc cX8_step 192 195 (.goto (-36)) 3 := ⟨by decide +kernel, rfl⟩
theorem dX8_step_195 : dc cX8_step 195 196 (.aload_n 0) 1 := ⟨by decide +kernel, rfl⟩
theorem dX8_step_196 : dc cX8_step 196 197 (.aload_n 0) 1 := ⟨by decide +kernel, rfl⟩
theorem dX8_step_197 : dc cX8_step 197 200 (.getfield 35) 3 := ⟨by decide +kernel, rfl⟩
theorem dX8_step_200 : dc cX8_step 200 203 (.invokevirtual 52) 3 := ⟨by decide +kernel, rfl⟩
theorem dX8_step_203 : dc cX8_step 203 205 (.bipush 48) 2 := ⟨by decide +kernel, rfl⟩
theorem dX8_step_205 : dc cX8_step 205 206 .isub 1 := ⟨by decide +kernel, rfl⟩
theorem dX8_step_206 : dc cX8_step 206 207 (.istore_n 1) 1 := ⟨by decide +kernel, rfl⟩
theorem dX8_step_207 : dc cX8_step 207 208 (.aload_n 0) 1 := ⟨by decide +kernel, rfl⟩
theorem dX8_step_208 : dc cX8_step 208 209 (.aload_n 0) 1 := ⟨by decide +kernel, rfl⟩
theorem dX8_step_209 : dc cX8_step 209 212 (.getfield 38) 3 := ⟨by decide +kernel, rfl⟩
theorem dX8_step_212 : dc cX8_step 212 213 (.aload_n 0) 1 := ⟨by decide +kernel, rfl⟩
theorem dX8_step_213 : dc cX8_step 213 216 (.getfield 35) 3 := ⟨by decide +kernel, rfl⟩
theorem dX8_step_216 : dc cX8_step 216 217 (.iconst 1) 1 := ⟨by decide +kernel, rfl⟩
theorem dX8_step_217 : dc cX8_step 217 218 .iadd 1 := ⟨by decide +kernel, rfl⟩
theorem dX8_step_218 : dc cX8_step 218 221 (.if_icmp .ne 12) 3 := ⟨by decide +kernel, rfl⟩
theorem dX8_step_221 : dc cX8_step 221 222 (.iload_n 1) 1 := ⟨by decide +kernel, rfl⟩
theorem dX8_step_222 : dc cX8_step 222 223 (.iconst 3) 1 := ⟨by decide +kernel, rfl⟩
theorem dX8_step_223 : dc cX8_step 223 226 (.if_icmp .ge 7) 3 := ⟨by decide +kernel, rfl⟩
theorem dX8_step_226 : dc cX8_step 226 227 (.iload_n 1) 1 := ⟨by decide +kernel, rfl⟩
theorem dX8_step_227 : dc cX8_step 227 230 (.goto 4) 3 := ⟨by decide +kernel, rfl⟩
theorem dX8_step_230 : dc cX8_step 230 231 (.iconst (-1)) 1 := ⟨by decide +kernel, rfl⟩
theorem dX8_step_231 : dc cX8_step 231 234 (.putfield 41) 3 := ⟨by decide +kernel, rfl⟩
theorem dX8_step_234 : dc cX8_step 234 237 (.goto 30) 3 := ⟨by decide +kernel, rfl⟩
theorem dX8_step_237 : dc cX8_step 237 238 (.aload_n 0) 1 := ⟨by decide +kernel, rfl⟩
theorem dX8_step_238 : dc cX8_step 238 239 (.iconst 3) 1 := ⟨by decide +kernel, rfl⟩
theorem dX8_step_239 : dc cX8_step 239 242 (.putfield 32) 3 := ⟨by decide +kernel, rfl⟩
theorem dX8_step_242 : dc cX8_step 242 243 (.aload_n 0) 1 := ⟨by decide +kernel, rfl⟩
theorem dX8_step_243 : dc cX8_step 243 244 (.aload_n 0) 1 := ⟨by decide +kernel, rfl⟩
theorem dX8_step_244 : dc cX8_step 244 245 (.aload_n 0) 1 := ⟨by decide +kernel, rfl⟩
theorem dX8_step_245 : dc cX8_step 245 248 (.getfield 35) 3 := ⟨by decide +kernel, rfl⟩
theorem dX8_step_248 : dc cX8_step 248 251 (.invokevirtual 52) 3 := ⟨by decide +kernel, rfl⟩
theorem dX8_step_251 : dc cX8_step 251 254 (.putfield 41) 3 := ⟨by decide +kernel, rfl⟩
theorem dX8_step_254 : dc cX8_step 254 255 (.aload_n 0) 1 := ⟨by decide +kernel, rfl⟩
theorem dX8_step_255 : dc cX8_step 255 256 .dup 1 := ⟨by decide +kernel, rfl⟩
theorem dX8_step_256 : dc cX8_step 256 259 (.getfield 38) 3 := ⟨by decide +kernel, rfl⟩
theorem dX8_step_259 : dc cX8_step 259 260 (.iconst 1) 1 := ⟨by decide +kernel, rfl⟩
theorem dX8_step_260 : dc cX8_step 260 261 .iadd 1 := ⟨by decide +kernel, rfl⟩
theorem dX8_step_261 : dc cX8_step 261 264 (.putfield 38) 3 := ⟨by decide +kernel, rfl⟩
theorem dX8_step_264 : dc cX8_step 264 265 .return_ 1 := ⟨by decide +kernel, rfl⟩
def F_Tape_step_j195 (M : Mem) : Option (Mem) :=
  (F_Tape_byteAt (M.1 27 5) M).bind fun r6 => if (M.1 27 6) = ((M.1 27 5) + 1) then if 3 ≤ (r6 - 48) then some (mSI M 27 7 ((-1))) else some (mSI M 27 7 (r6 - 48)) else some (mSI M 27 7 ((-1)))
def F_Tape_step_b156 (z : Mem) : Option ((Mem) ⊕ ((Mem))) :=
  if (z.1 27 1) ≤ (z.1 27 6) then some (.inr z) else (F_Tape_byteAt (z.1 27 6) z).bind fun r7 => (F_Tape_isFigure r7 z).bind fun r8 => if r8 = true then some (.inl (mSI z 27 6 ((z.1 27 6) + 1))) else some (.inr z)
def F_Tape_step_l156 (M : Mem) : Option (Mem) :=
  (iter (F_Tape_step_b156) FUEL M).bind fun r => F_Tape_step_j195 r
def F_Tape_step_b97 (z : Mem) : Option ((Mem) ⊕ ((Mem))) :=
  if (z.1 27 1) ≤ (z.1 27 6) then some (.inr z) else (F_Tape_byteAt (z.1 27 6) z).bind fun r9 => (F_Tape_isLetter r9 z).bind fun r10 => if r10 = true then some (.inl (mSI z 27 6 ((z.1 27 6) + 1))) else some (.inr z)
def F_Tape_step_l97 (M : Mem) : Option (Mem) :=
  (iter (F_Tape_step_b97) FUEL M).bind fun r => some r
def F_Tape_step_j45 (M : Mem) : Option (Mem) :=
  if ((mSI (mSI M 27 6 (M.1 27 5)) 27 7 ((-1))).1 27 5) < ((mSI (mSI M 27 6 (M.1 27 5)) 27 7 ((-1))).1 27 1) then (F_Tape_byteAt ((mSI (mSI M 27 6 (M.1 27 5)) 27 7 ((-1))).1 27 5) (mSI (mSI M 27 6 (M.1 27 5)) 27 7 ((-1)))).bind fun r1 => (F_Tape_isLetter r1 (mSI (mSI M 27 6 (M.1 27 5)) 27 7 ((-1)))).bind fun r2 => if r2 = true then F_Tape_step_l97 (mSI (mSI (mSI M 27 6 (M.1 27 5)) 27 7 ((-1))) 27 4 1) else (F_Tape_byteAt ((mSI (mSI M 27 6 (M.1 27 5)) 27 7 ((-1))).1 27 5) (mSI (mSI M 27 6 (M.1 27 5)) 27 7 ((-1)))).bind fun r3 => (F_Tape_isFigure r3 (mSI (mSI M 27 6 (M.1 27 5)) 27 7 ((-1)))).bind fun r4 => if r4 = true then F_Tape_step_l156 (mSI (mSI (mSI M 27 6 (M.1 27 5)) 27 7 ((-1))) 27 4 2) else (F_Tape_byteAt ((mSI (mSI (mSI M 27 6 (M.1 27 5)) 27 7 ((-1))) 27 4 3).1 27 5) (mSI (mSI (mSI M 27 6 (M.1 27 5)) 27 7 ((-1))) 27 4 3)).bind fun r5 => some (mSI (mSI (mSI (mSI (mSI M 27 6 (M.1 27 5)) 27 7 ((-1))) 27 4 3) 27 7 r5) 27 6 (((mSI (mSI (mSI (mSI M 27 6 (M.1 27 5)) 27 7 ((-1))) 27 4 3) 27 7 r5).1 27 6) + 1)) else some (mSI (mSI (mSI M 27 6 (M.1 27 5)) 27 7 ((-1))) 27 4 0)
def F_Tape_step_b8 (z : Mem) : Option ((Mem) ⊕ ((Mem))) :=
  if (z.1 27 1) ≤ (z.1 27 5) then some (.inr z) else (F_Tape_byteAt (z.1 27 5) z).bind fun r11 => if r11 = 32 then some (.inl (mSI z 27 5 ((z.1 27 5) + 1))) else some (.inr z)
def F_Tape_step_l8 (M : Mem) : Option (Mem) :=
  (iter (F_Tape_step_b8) FUEL M).bind fun r => F_Tape_step_j45 r
def F_Tape_step (M : Mem) : Option (Mem) :=
  F_Tape_step_l8 (mSI M 27 5 (M.1 27 6))
set_option maxRecDepth 100000 in
set_option maxHeartbeats 4000000 in
theorem K_Tape_step (l : Launch) (g : GB) (htr : l.stackTraces = false) (M : Mem) (MZ : Mem) (h : F_Tape_step M = some MZ) : CT l g yX8_step (.code yX8_step cX8_step 2 none :: wAll) { frames := 2, cells := 0, slots := 0, locals := 42 } [.ref (g.2.1 27)] M (.inl none) MZ := by
  refine CT.of [(0, .ref (g.2.1 27))] (by decide +kernel) (Nat.le_of_ble_eq_true rfl) rfl htr ?_
  intro p e s m args below meth c K hr ht
  skip
  obtain ⟨PHI, hPHI, h⟩ : ∃ PHI : Mem → Prop, (∀ a, PHI a → a = MZ) ∧ wpO (F_Tape_step M) PHI := ⟨fun a => a = MZ, fun _ h => h, _, h, rfl⟩
  have J195 : ∀ (M : Mem), wpO (F_Tape_step_j195 M) PHI → GG p l e { frames := 2, cells := 0, slots := 0, locals := 42 } s m args below meth c g 2 (vx_MQ below (Qn g s.heap.size (.inl none) MZ) (QX g s.heap.size (.inl none) MZ) args s 0 0 (AS g s.heap.size)) 0 0 195 [(0, .ref (g.2.1 27))] [] M := by
    intro M h
    unfold F_Tape_step_j195 at h
    refine G_aload_n rfl 0 rfl K dX8_step_195 ?_
    refine G_aload_n rfl 0 rfl K dX8_step_196 ?_
    refine G_get (ci := 8) (k := 5) K rfl in_X8 wd_155 rfl dX8_step_197 (Nat.le_of_ble_eq_true rfl) (sh_27 _ _) (Nat.le_of_ble_eq_true rfl) rfl ?_
    obtain ⟨r6, e6, h⟩ := wpO_bind h
    refine G_callVi (ci := 8) [.int (M.1 27 5)] [] K dX8_step_200 wv_780 yd_X8_byteAt (Nat.le_of_ble_eq_true rfl) (sh_27 _ _) rfl (by decide) (by decide) rfl rfl (Nat.le_of_ble_eq_true rfl) (K_Tape_byteAt l g htr (M.1 27 5) M _ e6) ?_
    refine G_bipush (v := 48) rfl K dX8_step_203 ?_
    refine G_isub K dX8_step_205 ?_
    refine G_istore_n rfl K dX8_step_206 (Nat.le_of_ble_eq_true rfl) rfl ?_
    refine G_aload_n rfl 1 rfl K dX8_step_207 ?_
    refine G_aload_n rfl 1 rfl K dX8_step_208 ?_
    refine G_get (ci := 8) (k := 6) K rfl in_X8 wd_156 rfl dX8_step_209 (Nat.le_of_ble_eq_true rfl) (sh_27 _ _) (Nat.le_of_ble_eq_true rfl) rfl ?_
    refine G_aload_n rfl 1 rfl K dX8_step_212 ?_
    refine G_get (ci := 8) (k := 5) K rfl in_X8 wd_155 rfl dX8_step_213 (Nat.le_of_ble_eq_true rfl) (sh_27 _ _) (Nat.le_of_ble_eq_true rfl) rfl ?_
    refine G_iconst (v := 1) rfl K dX8_step_216 ?_
    refine G_iadd K dX8_step_217 ?_
    refine G_icmp_ne (tgt := 230) K dX8_step_218 (by decide) (fun hc => ?_) (fun hc => ?_)
    · have h := wpO_f h hc
      refine G_iconst (v := (-1)) rfl K dX8_step_230 ?_
      refine G_putI (ci := 8) (k := 7) (ty := .int) K rfl in_X8 tyX8 tyX8_ok nmX8 wd_157 rfl rfl rfl rfl rfl dX8_step_231 (Nat.le_of_ble_eq_true rfl) (sh_27 _ _) (sh_27 _ _) (Nat.le_of_ble_eq_true rfl) (Nat.le_of_ble_eq_true rfl) rfl ?_
      refine G_goto (tgt := 264) K dX8_step_234 (by decide) ?_
      cases hPHI _ (wpO_some h)
      exact G_vret K hr dX8_step_264 (Nat.le_of_ble_eq_true rfl) (Nat.le_of_ble_eq_true rfl) ⟨rfl, rfl⟩
    · have h := wpO_t h hc
      refine G_iload_n rfl 0 rfl K dX8_step_221 ?_
      refine G_iconst (v := 3) rfl K dX8_step_222 ?_
      refine G_icmp_ge (tgt := 230) K dX8_step_223 (by decide) (fun hc => ?_) (fun hc => ?_)
      · have h := wpO_t h hc
        refine G_iconst (v := (-1)) rfl K dX8_step_230 ?_
        refine G_putI (ci := 8) (k := 7) (ty := .int) K rfl in_X8 tyX8 tyX8_ok nmX8 wd_157 rfl rfl rfl rfl rfl dX8_step_231 (Nat.le_of_ble_eq_true rfl) (sh_27 _ _) (sh_27 _ _) (Nat.le_of_ble_eq_true rfl) (Nat.le_of_ble_eq_true rfl) rfl ?_
        refine G_goto (tgt := 264) K dX8_step_234 (by decide) ?_
        cases hPHI _ (wpO_some h)
        exact G_vret K hr dX8_step_264 (Nat.le_of_ble_eq_true rfl) (Nat.le_of_ble_eq_true rfl) ⟨rfl, rfl⟩
      · have h := wpO_f h hc
        refine G_iload_n rfl 0 rfl K dX8_step_226 ?_
        refine G_goto (tgt := 231) K dX8_step_227 (by decide) ?_
        refine G_putI (ci := 8) (k := 7) (ty := .int) K rfl in_X8 tyX8 tyX8_ok nmX8 wd_157 rfl rfl rfl rfl rfl dX8_step_231 (Nat.le_of_ble_eq_true rfl) (sh_27 _ _) (sh_27 _ _) (Nat.le_of_ble_eq_true rfl) (Nat.le_of_ble_eq_true rfl) rfl ?_
        refine G_goto (tgt := 264) K dX8_step_234 (by decide) ?_
        cases hPHI _ (wpO_some h)
        exact G_vret K hr dX8_step_264 (Nat.le_of_ble_eq_true rfl) (Nat.le_of_ble_eq_true rfl) ⟨rfl, rfl⟩
  have J156 : ∀ (M : Mem), wpO (F_Tape_step_l156 M) PHI → GG p l e { frames := 2, cells := 0, slots := 0, locals := 42 } s m args below meth c g 2 (vx_MQ below (Qn g s.heap.size (.inl none) MZ) (QX g s.heap.size (.inl none) MZ) args s 0 0 (AS g s.heap.size)) 0 0 156 [(0, .ref (g.2.1 27))] [] M := by
    intro M h
    unfold F_Tape_step_l156 at h
    refine loop_C1 (G := fun (M : Mem) => GG p l e { frames := 2, cells := 0, slots := 0, locals := 42 } s m args below meth c g 2 (vx_MQ below (Qn g s.heap.size (.inl none) MZ) (QX g s.heap.size (.inl none) MZ) args s 0 0 (AS g s.heap.size)) 0 0 156 [(0, .ref (g.2.1 27))] [] M) (body := F_Tape_step_b156) ?_ FUEL _ (wpO_bind h)
    intro P156 E156 X156
    intro z h
    unfold F_Tape_step_b156 at h
    refine G_aload_n rfl 0 rfl K dX8_step_156 ?_
    refine G_get (ci := 8) (k := 6) K rfl in_X8 wd_156 rfl dX8_step_157 (Nat.le_of_ble_eq_true rfl) (sh_27 _ _) (Nat.le_of_ble_eq_true rfl) rfl ?_
    refine G_aload_n rfl 0 rfl K dX8_step_160 ?_
    refine G_get (ci := 8) (k := 1) K rfl in_X8 wd_149 rfl dX8_step_161 (Nat.le_of_ble_eq_true rfl) (sh_27 _ _) (Nat.le_of_ble_eq_true rfl) rfl ?_
    refine G_icmp_ge (tgt := 195) K dX8_step_164 (by decide) (fun hc => ?_) (fun hc => ?_)
    · have h := wpO_t h hc
      have h := X156 _ (wpO_some h)
      try dsimp only at h
      exact J195 z h
    · have h := wpO_f h hc
      refine G_aload_n rfl 0 rfl K dX8_step_167 ?_
      refine G_aload_n rfl 0 rfl K dX8_step_168 ?_
      refine G_aload_n rfl 0 rfl K dX8_step_169 ?_
      refine G_get (ci := 8) (k := 6) K rfl in_X8 wd_156 rfl dX8_step_170 (Nat.le_of_ble_eq_true rfl) (sh_27 _ _) (Nat.le_of_ble_eq_true rfl) rfl ?_
      obtain ⟨r7, e7, h⟩ := wpO_bind h
      refine G_callVi (ci := 8) [.int (z.1 27 6)] [.ref (g.2.1 27)] K dX8_step_173 wv_780 yd_X8_byteAt (Nat.le_of_ble_eq_true rfl) (sh_27 _ _) rfl (by decide) (by decide) rfl rfl (Nat.le_of_ble_eq_true rfl) (K_Tape_byteAt l g htr (z.1 27 6) z _ e7) ?_
      obtain ⟨r8, e8, h⟩ := wpO_bind h
      refine G_callVi (ci := 8) [.int r7] [] K dX8_step_176 wv_789 yd_X8_isFigure (Nat.le_of_ble_eq_true rfl) (sh_27 _ _) rfl (by decide) (by decide) rfl rfl (Nat.le_of_ble_eq_true rfl) (K_Tape_isFigure l g htr r7 z _ e8) ?_
      refine G_ifb_eq (tgt := 195) K dX8_step_179 (by decide) (fun hc => ?_) (fun hc => ?_)
      · have h := wpO_bf h hc
        have h := X156 _ (wpO_some h)
        try dsimp only at h
        exact J195 z h
      · have h := wpO_t h hc
        refine G_aload_n rfl 0 rfl K dX8_step_182 ?_
        refine G_dup rfl K dX8_step_183 ?_
        refine G_get (ci := 8) (k := 6) K rfl in_X8 wd_156 rfl dX8_step_184 (Nat.le_of_ble_eq_true rfl) (sh_27 _ _) (Nat.le_of_ble_eq_true rfl) rfl ?_
        refine G_iconst (v := 1) rfl K dX8_step_187 ?_
        refine G_iadd K dX8_step_188 ?_
        refine G_putI (ci := 8) (k := 6) (ty := .int) K rfl in_X8 tyX8 tyX8_ok nmX8 wd_156 rfl rfl rfl rfl rfl dX8_step_189 (Nat.le_of_ble_eq_true rfl) (sh_27 _ _) (sh_27 _ _) (Nat.le_of_ble_eq_true rfl) (Nat.le_of_ble_eq_true rfl) rfl ?_
        refine G_goto (tgt := 156) K dX8_step_192 (by decide) ?_
        exact E156 (mSI z 27 6 ((z.1 27 6) + 1)) (wpO_some h)
  have J97 : ∀ (M : Mem), wpO (F_Tape_step_l97 M) PHI → GG p l e { frames := 2, cells := 0, slots := 0, locals := 42 } s m args below meth c g 2 (vx_MQ below (Qn g s.heap.size (.inl none) MZ) (QX g s.heap.size (.inl none) MZ) args s 0 0 (AS g s.heap.size)) 0 0 97 [(0, .ref (g.2.1 27))] [] M := by
    intro M h
    unfold F_Tape_step_l97 at h
    refine loop_C1 (G := fun (M : Mem) => GG p l e { frames := 2, cells := 0, slots := 0, locals := 42 } s m args below meth c g 2 (vx_MQ below (Qn g s.heap.size (.inl none) MZ) (QX g s.heap.size (.inl none) MZ) args s 0 0 (AS g s.heap.size)) 0 0 97 [(0, .ref (g.2.1 27))] [] M) (body := F_Tape_step_b97) ?_ FUEL _ (wpO_bind h)
    intro P97 E97 X97
    intro z h
    unfold F_Tape_step_b97 at h
    refine G_aload_n rfl 0 rfl K dX8_step_97 ?_
    refine G_get (ci := 8) (k := 6) K rfl in_X8 wd_156 rfl dX8_step_98 (Nat.le_of_ble_eq_true rfl) (sh_27 _ _) (Nat.le_of_ble_eq_true rfl) rfl ?_
    refine G_aload_n rfl 0 rfl K dX8_step_101 ?_
    refine G_get (ci := 8) (k := 1) K rfl in_X8 wd_149 rfl dX8_step_102 (Nat.le_of_ble_eq_true rfl) (sh_27 _ _) (Nat.le_of_ble_eq_true rfl) rfl ?_
    refine G_icmp_ge (tgt := 264) K dX8_step_105 (by decide) (fun hc => ?_) (fun hc => ?_)
    · have h := wpO_t h hc
      have h := X97 _ (wpO_some h)
      try dsimp only at h
      cases hPHI _ (wpO_some h)
      exact G_vret K hr dX8_step_264 (Nat.le_of_ble_eq_true rfl) (Nat.le_of_ble_eq_true rfl) ⟨rfl, rfl⟩
    · have h := wpO_f h hc
      refine G_aload_n rfl 0 rfl K dX8_step_108 ?_
      refine G_aload_n rfl 0 rfl K dX8_step_109 ?_
      refine G_aload_n rfl 0 rfl K dX8_step_110 ?_
      refine G_get (ci := 8) (k := 6) K rfl in_X8 wd_156 rfl dX8_step_111 (Nat.le_of_ble_eq_true rfl) (sh_27 _ _) (Nat.le_of_ble_eq_true rfl) rfl ?_
      obtain ⟨r9, e9, h⟩ := wpO_bind h
      refine G_callVi (ci := 8) [.int (z.1 27 6)] [.ref (g.2.1 27)] K dX8_step_114 wv_780 yd_X8_byteAt (Nat.le_of_ble_eq_true rfl) (sh_27 _ _) rfl (by decide) (by decide) rfl rfl (Nat.le_of_ble_eq_true rfl) (K_Tape_byteAt l g htr (z.1 27 6) z _ e9) ?_
      obtain ⟨r10, e10, h⟩ := wpO_bind h
      refine G_callVi (ci := 8) [.int r9] [] K dX8_step_117 wv_785 yd_X8_isLetter (Nat.le_of_ble_eq_true rfl) (sh_27 _ _) rfl (by decide) (by decide) rfl rfl (Nat.le_of_ble_eq_true rfl) (K_Tape_isLetter l g htr r9 z _ e10) ?_
      refine G_ifb_eq (tgt := 264) K dX8_step_120 (by decide) (fun hc => ?_) (fun hc => ?_)
      · have h := wpO_bf h hc
        have h := X97 _ (wpO_some h)
        try dsimp only at h
        cases hPHI _ (wpO_some h)
        exact G_vret K hr dX8_step_264 (Nat.le_of_ble_eq_true rfl) (Nat.le_of_ble_eq_true rfl) ⟨rfl, rfl⟩
      · have h := wpO_t h hc
        refine G_aload_n rfl 0 rfl K dX8_step_123 ?_
        refine G_dup rfl K dX8_step_124 ?_
        refine G_get (ci := 8) (k := 6) K rfl in_X8 wd_156 rfl dX8_step_125 (Nat.le_of_ble_eq_true rfl) (sh_27 _ _) (Nat.le_of_ble_eq_true rfl) rfl ?_
        refine G_iconst (v := 1) rfl K dX8_step_128 ?_
        refine G_iadd K dX8_step_129 ?_
        refine G_putI (ci := 8) (k := 6) (ty := .int) K rfl in_X8 tyX8 tyX8_ok nmX8 wd_156 rfl rfl rfl rfl rfl dX8_step_130 (Nat.le_of_ble_eq_true rfl) (sh_27 _ _) (sh_27 _ _) (Nat.le_of_ble_eq_true rfl) (Nat.le_of_ble_eq_true rfl) rfl ?_
        refine G_goto (tgt := 97) K dX8_step_133 (by decide) ?_
        exact E97 (mSI z 27 6 ((z.1 27 6) + 1)) (wpO_some h)
  have J45 : ∀ (M : Mem), wpO (F_Tape_step_j45 M) PHI → GG p l e { frames := 2, cells := 0, slots := 0, locals := 42 } s m args below meth c g 2 (vx_MQ below (Qn g s.heap.size (.inl none) MZ) (QX g s.heap.size (.inl none) MZ) args s 0 0 (AS g s.heap.size)) 0 0 45 [(0, .ref (g.2.1 27))] [] M := by
    intro M h
    unfold F_Tape_step_j45 at h
    refine G_aload_n rfl 0 rfl K dX8_step_45 ?_
    refine G_aload_n rfl 0 rfl K dX8_step_46 ?_
    refine G_get (ci := 8) (k := 5) K rfl in_X8 wd_155 rfl dX8_step_47 (Nat.le_of_ble_eq_true rfl) (sh_27 _ _) (Nat.le_of_ble_eq_true rfl) rfl ?_
    refine G_putI (ci := 8) (k := 6) (ty := .int) K rfl in_X8 tyX8 tyX8_ok nmX8 wd_156 rfl rfl rfl rfl rfl dX8_step_50 (Nat.le_of_ble_eq_true rfl) (sh_27 _ _) (sh_27 _ _) (Nat.le_of_ble_eq_true rfl) (Nat.le_of_ble_eq_true rfl) rfl ?_
    refine G_aload_n rfl 0 rfl K dX8_step_53 ?_
    refine G_iconst (v := (-1)) rfl K dX8_step_54 ?_
    refine G_putI (ci := 8) (k := 7) (ty := .int) K rfl in_X8 tyX8 tyX8_ok nmX8 wd_157 rfl rfl rfl rfl rfl dX8_step_55 (Nat.le_of_ble_eq_true rfl) (sh_27 _ _) (sh_27 _ _) (Nat.le_of_ble_eq_true rfl) (Nat.le_of_ble_eq_true rfl) rfl ?_
    refine G_aload_n rfl 0 rfl K dX8_step_58 ?_
    refine G_get (ci := 8) (k := 5) K rfl in_X8 wd_155 rfl dX8_step_59 (Nat.le_of_ble_eq_true rfl) (sh_27 _ _) (Nat.le_of_ble_eq_true rfl) rfl ?_
    refine G_aload_n rfl 0 rfl K dX8_step_62 ?_
    refine G_get (ci := 8) (k := 1) K rfl in_X8 wd_149 rfl dX8_step_63 (Nat.le_of_ble_eq_true rfl) (sh_27 _ _) (Nat.le_of_ble_eq_true rfl) rfl ?_
    refine G_icmp_lt (tgt := 77) K dX8_step_66 (by decide) (fun hc => ?_) (fun hc => ?_)
    · have h := wpO_t h hc
      refine G_aload_n rfl 0 rfl K dX8_step_77 ?_
      refine G_aload_n rfl 0 rfl K dX8_step_78 ?_
      refine G_aload_n rfl 0 rfl K dX8_step_79 ?_
      refine G_get (ci := 8) (k := 5) K rfl in_X8 wd_155 rfl dX8_step_80 (Nat.le_of_ble_eq_true rfl) (sh_27 _ _) (Nat.le_of_ble_eq_true rfl) rfl ?_
      obtain ⟨r1, e1, h⟩ := wpO_bind h
      refine G_callVi (ci := 8) [.int ((mSI (mSI M 27 6 (M.1 27 5)) 27 7 ((-1))).1 27 5)] [.ref (g.2.1 27)] K dX8_step_83 wv_780 yd_X8_byteAt (Nat.le_of_ble_eq_true rfl) (sh_27 _ _) rfl (by decide) (by decide) rfl rfl (Nat.le_of_ble_eq_true rfl) (K_Tape_byteAt l g htr ((mSI (mSI M 27 6 (M.1 27 5)) 27 7 ((-1))).1 27 5) (mSI (mSI M 27 6 (M.1 27 5)) 27 7 ((-1))) _ e1) ?_
      obtain ⟨r2, e2, h⟩ := wpO_bind h
      refine G_callVi (ci := 8) [.int r1] [] K dX8_step_86 wv_785 yd_X8_isLetter (Nat.le_of_ble_eq_true rfl) (sh_27 _ _) rfl (by decide) (by decide) rfl rfl (Nat.le_of_ble_eq_true rfl) (K_Tape_isLetter l g htr r1 (mSI (mSI M 27 6 (M.1 27 5)) 27 7 ((-1))) _ e2) ?_
      refine G_ifb_eq (tgt := 136) K dX8_step_89 (by decide) (fun hc => ?_) (fun hc => ?_)
      · have h := wpO_bf h hc
        refine G_aload_n rfl 0 rfl K dX8_step_136 ?_
        refine G_aload_n rfl 0 rfl K dX8_step_137 ?_
        refine G_aload_n rfl 0 rfl K dX8_step_138 ?_
        refine G_get (ci := 8) (k := 5) K rfl in_X8 wd_155 rfl dX8_step_139 (Nat.le_of_ble_eq_true rfl) (sh_27 _ _) (Nat.le_of_ble_eq_true rfl) rfl ?_
        obtain ⟨r3, e3, h⟩ := wpO_bind h
        refine G_callVi (ci := 8) [.int ((mSI (mSI M 27 6 (M.1 27 5)) 27 7 ((-1))).1 27 5)] [.ref (g.2.1 27)] K dX8_step_142 wv_780 yd_X8_byteAt (Nat.le_of_ble_eq_true rfl) (sh_27 _ _) rfl (by decide) (by decide) rfl rfl (Nat.le_of_ble_eq_true rfl) (K_Tape_byteAt l g htr ((mSI (mSI M 27 6 (M.1 27 5)) 27 7 ((-1))).1 27 5) (mSI (mSI M 27 6 (M.1 27 5)) 27 7 ((-1))) _ e3) ?_
        obtain ⟨r4, e4, h⟩ := wpO_bind h
        refine G_callVi (ci := 8) [.int r3] [] K dX8_step_145 wv_789 yd_X8_isFigure (Nat.le_of_ble_eq_true rfl) (sh_27 _ _) rfl (by decide) (by decide) rfl rfl (Nat.le_of_ble_eq_true rfl) (K_Tape_isFigure l g htr r3 (mSI (mSI M 27 6 (M.1 27 5)) 27 7 ((-1))) _ e4) ?_
        refine G_ifb_eq (tgt := 237) K dX8_step_148 (by decide) (fun hc => ?_) (fun hc => ?_)
        · have h := wpO_bf h hc
          refine G_aload_n rfl 0 rfl K dX8_step_237 ?_
          refine G_iconst (v := 3) rfl K dX8_step_238 ?_
          refine G_putI (ci := 8) (k := 4) (ty := .int) K rfl in_X8 tyX8 tyX8_ok nmX8 wd_154 rfl rfl rfl rfl rfl dX8_step_239 (Nat.le_of_ble_eq_true rfl) (sh_27 _ _) (sh_27 _ _) (Nat.le_of_ble_eq_true rfl) (Nat.le_of_ble_eq_true rfl) rfl ?_
          refine G_aload_n rfl 0 rfl K dX8_step_242 ?_
          refine G_aload_n rfl 0 rfl K dX8_step_243 ?_
          refine G_aload_n rfl 0 rfl K dX8_step_244 ?_
          refine G_get (ci := 8) (k := 5) K rfl in_X8 wd_155 rfl dX8_step_245 (Nat.le_of_ble_eq_true rfl) (sh_27 _ _) (Nat.le_of_ble_eq_true rfl) rfl ?_
          obtain ⟨r5, e5, h⟩ := wpO_bind h
          refine G_callVi (ci := 8) [.int ((mSI (mSI (mSI M 27 6 (M.1 27 5)) 27 7 ((-1))) 27 4 3).1 27 5)] [.ref (g.2.1 27)] K dX8_step_248 wv_780 yd_X8_byteAt (Nat.le_of_ble_eq_true rfl) (sh_27 _ _) rfl (by decide) (by decide) rfl rfl (Nat.le_of_ble_eq_true rfl) (K_Tape_byteAt l g htr ((mSI (mSI (mSI M 27 6 (M.1 27 5)) 27 7 ((-1))) 27 4 3).1 27 5) (mSI (mSI (mSI M 27 6 (M.1 27 5)) 27 7 ((-1))) 27 4 3) _ e5) ?_
          refine G_putI (ci := 8) (k := 7) (ty := .int) K rfl in_X8 tyX8 tyX8_ok nmX8 wd_157 rfl rfl rfl rfl rfl dX8_step_251 (Nat.le_of_ble_eq_true rfl) (sh_27 _ _) (sh_27 _ _) (Nat.le_of_ble_eq_true rfl) (Nat.le_of_ble_eq_true rfl) rfl ?_
          refine G_aload_n rfl 0 rfl K dX8_step_254 ?_
          refine G_dup rfl K dX8_step_255 ?_
          refine G_get (ci := 8) (k := 6) K rfl in_X8 wd_156 rfl dX8_step_256 (Nat.le_of_ble_eq_true rfl) (sh_27 _ _) (Nat.le_of_ble_eq_true rfl) rfl ?_
          refine G_iconst (v := 1) rfl K dX8_step_259 ?_
          refine G_iadd K dX8_step_260 ?_
          refine G_putI (ci := 8) (k := 6) (ty := .int) K rfl in_X8 tyX8 tyX8_ok nmX8 wd_156 rfl rfl rfl rfl rfl dX8_step_261 (Nat.le_of_ble_eq_true rfl) (sh_27 _ _) (sh_27 _ _) (Nat.le_of_ble_eq_true rfl) (Nat.le_of_ble_eq_true rfl) rfl ?_
          cases hPHI _ (wpO_some h)
          exact G_vret K hr dX8_step_264 (Nat.le_of_ble_eq_true rfl) (Nat.le_of_ble_eq_true rfl) ⟨rfl, rfl⟩
        · have h := wpO_t h hc
          refine G_aload_n rfl 0 rfl K dX8_step_151 ?_
          refine G_iconst (v := 2) rfl K dX8_step_152 ?_
          refine G_putI (ci := 8) (k := 4) (ty := .int) K rfl in_X8 tyX8 tyX8_ok nmX8 wd_154 rfl rfl rfl rfl rfl dX8_step_153 (Nat.le_of_ble_eq_true rfl) (sh_27 _ _) (sh_27 _ _) (Nat.le_of_ble_eq_true rfl) (Nat.le_of_ble_eq_true rfl) rfl ?_
          exact J156 (mSI (mSI (mSI M 27 6 (M.1 27 5)) 27 7 ((-1))) 27 4 2) h
      · have h := wpO_t h hc
        refine G_aload_n rfl 0 rfl K dX8_step_92 ?_
        refine G_iconst (v := 1) rfl K dX8_step_93 ?_
        refine G_putI (ci := 8) (k := 4) (ty := .int) K rfl in_X8 tyX8 tyX8_ok nmX8 wd_154 rfl rfl rfl rfl rfl dX8_step_94 (Nat.le_of_ble_eq_true rfl) (sh_27 _ _) (sh_27 _ _) (Nat.le_of_ble_eq_true rfl) (Nat.le_of_ble_eq_true rfl) rfl ?_
        exact J97 (mSI (mSI (mSI M 27 6 (M.1 27 5)) 27 7 ((-1))) 27 4 1) h
    · have h := wpO_f h hc
      refine G_aload_n rfl 0 rfl K dX8_step_69 ?_
      refine G_iconst (v := 0) rfl K dX8_step_70 ?_
      refine G_putI (ci := 8) (k := 4) (ty := .int) K rfl in_X8 tyX8 tyX8_ok nmX8 wd_154 rfl rfl rfl rfl rfl dX8_step_71 (Nat.le_of_ble_eq_true rfl) (sh_27 _ _) (sh_27 _ _) (Nat.le_of_ble_eq_true rfl) (Nat.le_of_ble_eq_true rfl) rfl ?_
      refine G_goto (tgt := 264) K dX8_step_74 (by decide) ?_
      cases hPHI _ (wpO_some h)
      exact G_vret K hr dX8_step_264 (Nat.le_of_ble_eq_true rfl) (Nat.le_of_ble_eq_true rfl) ⟨rfl, rfl⟩
  have J8 : ∀ (M : Mem), wpO (F_Tape_step_l8 M) PHI → GG p l e { frames := 2, cells := 0, slots := 0, locals := 42 } s m args below meth c g 2 (vx_MQ below (Qn g s.heap.size (.inl none) MZ) (QX g s.heap.size (.inl none) MZ) args s 0 0 (AS g s.heap.size)) 0 0 8 [(0, .ref (g.2.1 27))] [] M := by
    intro M h
    unfold F_Tape_step_l8 at h
    refine loop_C1 (G := fun (M : Mem) => GG p l e { frames := 2, cells := 0, slots := 0, locals := 42 } s m args below meth c g 2 (vx_MQ below (Qn g s.heap.size (.inl none) MZ) (QX g s.heap.size (.inl none) MZ) args s 0 0 (AS g s.heap.size)) 0 0 8 [(0, .ref (g.2.1 27))] [] M) (body := F_Tape_step_b8) ?_ FUEL _ (wpO_bind h)
    intro P8 E8 X8
    intro z h
    unfold F_Tape_step_b8 at h
    refine G_aload_n rfl 0 rfl K dX8_step_8 ?_
    refine G_get (ci := 8) (k := 5) K rfl in_X8 wd_155 rfl dX8_step_9 (Nat.le_of_ble_eq_true rfl) (sh_27 _ _) (Nat.le_of_ble_eq_true rfl) rfl ?_
    refine G_aload_n rfl 0 rfl K dX8_step_12 ?_
    refine G_get (ci := 8) (k := 1) K rfl in_X8 wd_149 rfl dX8_step_13 (Nat.le_of_ble_eq_true rfl) (sh_27 _ _) (Nat.le_of_ble_eq_true rfl) rfl ?_
    refine G_icmp_ge (tgt := 45) K dX8_step_16 (by decide) (fun hc => ?_) (fun hc => ?_)
    · have h := wpO_t h hc
      have h := X8 _ (wpO_some h)
      try dsimp only at h
      exact J45 z h
    · have h := wpO_f h hc
      refine G_aload_n rfl 0 rfl K dX8_step_19 ?_
      refine G_aload_n rfl 0 rfl K dX8_step_20 ?_
      refine G_get (ci := 8) (k := 5) K rfl in_X8 wd_155 rfl dX8_step_21 (Nat.le_of_ble_eq_true rfl) (sh_27 _ _) (Nat.le_of_ble_eq_true rfl) rfl ?_
      obtain ⟨r11, e11, h⟩ := wpO_bind h
      refine G_callVi (ci := 8) [.int (z.1 27 5)] [] K dX8_step_24 wv_780 yd_X8_byteAt (Nat.le_of_ble_eq_true rfl) (sh_27 _ _) rfl (by decide) (by decide) rfl rfl (Nat.le_of_ble_eq_true rfl) (K_Tape_byteAt l g htr (z.1 27 5) z _ e11) ?_
      refine G_bipush (v := 32) rfl K dX8_step_27 ?_
      refine G_icmp_ne (tgt := 45) K dX8_step_29 (by decide) (fun hc => ?_) (fun hc => ?_)
      · have h := wpO_f h hc
        have h := X8 _ (wpO_some h)
        try dsimp only at h
        exact J45 z h
      · have h := wpO_t h hc
        refine G_aload_n rfl 0 rfl K dX8_step_32 ?_
        refine G_dup rfl K dX8_step_33 ?_
        refine G_get (ci := 8) (k := 5) K rfl in_X8 wd_155 rfl dX8_step_34 (Nat.le_of_ble_eq_true rfl) (sh_27 _ _) (Nat.le_of_ble_eq_true rfl) rfl ?_
        refine G_iconst (v := 1) rfl K dX8_step_37 ?_
        refine G_iadd K dX8_step_38 ?_
        refine G_putI (ci := 8) (k := 5) (ty := .int) K rfl in_X8 tyX8 tyX8_ok nmX8 wd_155 rfl rfl rfl rfl rfl dX8_step_39 (Nat.le_of_ble_eq_true rfl) (sh_27 _ _) (sh_27 _ _) (Nat.le_of_ble_eq_true rfl) (Nat.le_of_ble_eq_true rfl) rfl ?_
        refine G_goto (tgt := 8) K dX8_step_42 (by decide) ?_
        exact E8 (mSI z 27 5 ((z.1 27 5) + 1)) (wpO_some h)
  unfold F_Tape_step at h
  refine G_aload_n rfl 0 rfl K dX8_step_0 ?_
  refine G_aload_n rfl 0 rfl K dX8_step_1 ?_
  refine G_get (ci := 8) (k := 6) K rfl in_X8 wd_156 rfl dX8_step_2 (Nat.le_of_ble_eq_true rfl) (sh_27 _ _) (Nat.le_of_ble_eq_true rfl) rfl ?_
  refine G_putI (ci := 8) (k := 5) (ty := .int) K rfl in_X8 tyX8 tyX8_ok nmX8 wd_155 rfl rfl rfl rfl rfl dX8_step_5 (Nat.le_of_ble_eq_true rfl) (sh_27 _ _) (sh_27 _ _) (Nat.le_of_ble_eq_true rfl) (Nat.le_of_ble_eq_true rfl) rfl ?_
  exact J8 (mSI M 27 5 (M.1 27 6)) h
theorem dX8_isNumber_0 : dc cX8_isNumber 0 1 (.aload_n 0) 1 := ⟨by decide +kernel, rfl⟩
theorem dX8_isNumber_1 : dc cX8_isNumber 1 4 (.getfield 32) 3 := ⟨by decide +kernel, rfl⟩
theorem dX8_isNumber_4 : dc cX8_isNumber 4 5 (.iconst 2) 1 := ⟨by decide +kernel, rfl⟩
theorem dX8_isNumber_5 : dc cX8_isNumber 5 8 (.if_icmp .ne 15) 3 := ⟨by decide +kernel, rfl⟩
theorem dX8_isNumber_8 : dc cX8_isNumber 8 9 (.aload_n 0) 1 := ⟨by decide +kernel, rfl⟩
theorem dX8_isNumber_9 : dc cX8_isNumber 9 12 (.getfield 41) 3 := ⟨by decide +kernel, rfl⟩
theorem dX8_isNumber_12 : dc cX8_isNumber 12 13 (.iconst (-1)) 1 := ⟨by decide +kernel, rfl⟩
theorem dX8_isNumber_13 : dc cX8_isNumber 13 16 (.if_icmp .eq 7) 3 := ⟨by decide +kernel, rfl⟩
theorem dX8_isNumber_16 : dc cX8_isNumber 16 17 (.iconst 1) 1 := ⟨by decide +kernel, rfl⟩
theorem dX8_isNumber_17 : dc cX8_isNumber 17 20 (.goto 4) 3 := ⟨by decide +kernel, rfl⟩
theorem dX8_isNumber_20 : dc cX8_isNumber 20 21 (.iconst 0) 1 := ⟨by decide +kernel, rfl⟩
theorem dX8_isNumber_21 : dc cX8_isNumber 21 22 .ireturn 1 := ⟨by decide +kernel, rfl⟩
def F_Tape_isNumber (M : Mem) : Option (Bool) :=
  if (M.1 27 4) = 2 then if (M.1 27 7) = ((-1)) then some false else some true else some false
set_option maxRecDepth 100000 in
set_option maxHeartbeats 4000000 in
theorem K_Tape_isNumber (l : Launch) (g : GB) (htr : l.stackTraces = false) (M : Mem) (rr : Bool) (h : F_Tape_isNumber M = some rr) : CT l g yX8_isNumber (.code yX8_isNumber cX8_isNumber 1 (some .boolean) :: wAll) { frames := 0, cells := 0, slots := 0, locals := 0 } [.ref (g.2.1 27)] M (.inl (some (.int (b2i rr)))) M := by
  refine CT.of [(0, .ref (g.2.1 27))] (by decide +kernel) (Nat.le_of_ble_eq_true rfl) rfl htr ?_
  intro p e s m args below meth c K hr ht
  skip
  obtain ⟨PHI, hPHI, h⟩ : ∃ PHI : Bool → Prop, (∀ a, PHI a → a = rr) ∧ wpO (F_Tape_isNumber M) PHI := ⟨fun a => a = rr, fun _ h => h, _, h, rfl⟩
  unfold F_Tape_isNumber at h
  refine G_aload_n rfl 0 rfl K dX8_isNumber_0 ?_
  refine G_get (ci := 8) (k := 4) K rfl in_X8 wd_154 rfl dX8_isNumber_1 (Nat.le_of_ble_eq_true rfl) (sh_27 _ _) (Nat.le_of_ble_eq_true rfl) rfl ?_
  refine G_iconst (v := 2) rfl K dX8_isNumber_4 ?_
  refine G_icmp_ne (tgt := 20) K dX8_isNumber_5 (by decide) (fun hc => ?_) (fun hc => ?_)
  · have h := wpO_f h hc
    refine G_iconst (v := 0) rfl K dX8_isNumber_20 ?_
    cases hPHI _ (wpO_some h)
    exact G_iret K hr rfl dX8_isNumber_21 (Nat.le_of_ble_eq_true rfl) (Nat.le_of_ble_eq_true rfl) ⟨rfl, rfl⟩
  · have h := wpO_t h hc
    refine G_aload_n rfl 0 rfl K dX8_isNumber_8 ?_
    refine G_get (ci := 8) (k := 7) K rfl in_X8 wd_157 rfl dX8_isNumber_9 (Nat.le_of_ble_eq_true rfl) (sh_27 _ _) (Nat.le_of_ble_eq_true rfl) rfl ?_
    refine G_iconst (v := (-1)) rfl K dX8_isNumber_12 ?_
    refine G_icmp_eq (tgt := 20) K dX8_isNumber_13 (by decide) (fun hc => ?_) (fun hc => ?_)
    · have h := wpO_t h hc
      refine G_iconst (v := 0) rfl K dX8_isNumber_20 ?_
      cases hPHI _ (wpO_some h)
      exact G_iret K hr rfl dX8_isNumber_21 (Nat.le_of_ble_eq_true rfl) (Nat.le_of_ble_eq_true rfl) ⟨rfl, rfl⟩
    · have h := wpO_f h hc
      refine G_iconst (v := 1) rfl K dX8_isNumber_16 ?_
      refine G_goto (tgt := 21) K dX8_isNumber_17 (by decide) ?_
      cases hPHI _ (wpO_some h)
      exact G_iret K hr rfl dX8_isNumber_21 (Nat.le_of_ble_eq_true rfl) (Nat.le_of_ble_eq_true rfl) ⟨rfl, rfl⟩
theorem dX8_isSign_0 : dc cX8_isSign 0 1 (.aload_n 0) 1 := ⟨by decide +kernel, rfl⟩
theorem dX8_isSign_1 : dc cX8_isSign 1 4 (.getfield 32) 3 := ⟨by decide +kernel, rfl⟩
theorem dX8_isSign_4 : dc cX8_isSign 4 5 (.iconst 3) 1 := ⟨by decide +kernel, rfl⟩
theorem dX8_isSign_5 : dc cX8_isSign 5 8 (.if_icmp .ne 15) 3 := ⟨by decide +kernel, rfl⟩
theorem dX8_isSign_8 : dc cX8_isSign 8 9 (.aload_n 0) 1 := ⟨by decide +kernel, rfl⟩
theorem dX8_isSign_9 : dc cX8_isSign 9 12 (.getfield 41) 3 := ⟨by decide +kernel, rfl⟩
theorem dX8_isSign_12 : dc cX8_isSign 12 13 (.iload_n 1) 1 := ⟨by decide +kernel, rfl⟩
theorem dX8_isSign_13 : dc cX8_isSign 13 16 (.if_icmp .ne 7) 3 := ⟨by decide +kernel, rfl⟩
theorem dX8_isSign_16 : dc cX8_isSign 16 17 (.iconst 1) 1 := ⟨by decide +kernel, rfl⟩
theorem dX8_isSign_17 : dc cX8_isSign 17 20 (.goto 4) 3 := ⟨by decide +kernel, rfl⟩
theorem dX8_isSign_20 : dc cX8_isSign 20 21 (.iconst 0) 1 := ⟨by decide +kernel, rfl⟩
theorem dX8_isSign_21 : dc cX8_isSign 21 22 .ireturn 1 := ⟨by decide +kernel, rfl⟩
def F_Tape_isSign (x1 : Int32) (M : Mem) : Option (Bool) :=
  if (M.1 27 4) = 3 then if (M.1 27 7) = x1 then some true else some false else some false
set_option maxRecDepth 100000 in
set_option maxHeartbeats 4000000 in
theorem K_Tape_isSign (l : Launch) (g : GB) (htr : l.stackTraces = false) (x1 : Int32) (M : Mem) (rr : Bool) (h : F_Tape_isSign x1 M = some rr) : CT l g yX8_isSign (.code yX8_isSign cX8_isSign 2 (some .boolean) :: wAll) { frames := 0, cells := 0, slots := 0, locals := 0 } [.ref (g.2.1 27), .int x1] M (.inl (some (.int (b2i rr)))) M := by
  refine CT.of [(0, .ref (g.2.1 27)), (1, .int x1)] (by decide +kernel) (Nat.le_of_ble_eq_true rfl) rfl htr ?_
  intro p e s m args below meth c K hr ht
  skip
  obtain ⟨PHI, hPHI, h⟩ : ∃ PHI : Bool → Prop, (∀ a, PHI a → a = rr) ∧ wpO (F_Tape_isSign x1 M) PHI := ⟨fun a => a = rr, fun _ h => h, _, h, rfl⟩
  unfold F_Tape_isSign at h
  refine G_aload_n rfl 0 rfl K dX8_isSign_0 ?_
  refine G_get (ci := 8) (k := 4) K rfl in_X8 wd_154 rfl dX8_isSign_1 (Nat.le_of_ble_eq_true rfl) (sh_27 _ _) (Nat.le_of_ble_eq_true rfl) rfl ?_
  refine G_iconst (v := 3) rfl K dX8_isSign_4 ?_
  refine G_icmp_ne (tgt := 20) K dX8_isSign_5 (by decide) (fun hc => ?_) (fun hc => ?_)
  · have h := wpO_f h hc
    refine G_iconst (v := 0) rfl K dX8_isSign_20 ?_
    cases hPHI _ (wpO_some h)
    exact G_iret K hr rfl dX8_isSign_21 (Nat.le_of_ble_eq_true rfl) (Nat.le_of_ble_eq_true rfl) ⟨rfl, rfl⟩
  · have h := wpO_t h hc
    refine G_aload_n rfl 0 rfl K dX8_isSign_8 ?_
    refine G_get (ci := 8) (k := 7) K rfl in_X8 wd_157 rfl dX8_isSign_9 (Nat.le_of_ble_eq_true rfl) (sh_27 _ _) (Nat.le_of_ble_eq_true rfl) rfl ?_
    refine G_iload_n rfl 1 rfl K dX8_isSign_12 ?_
    refine G_icmp_ne (tgt := 20) K dX8_isSign_13 (by decide) (fun hc => ?_) (fun hc => ?_)
    · have h := wpO_f h hc
      refine G_iconst (v := 0) rfl K dX8_isSign_20 ?_
      cases hPHI _ (wpO_some h)
      exact G_iret K hr rfl dX8_isSign_21 (Nat.le_of_ble_eq_true rfl) (Nat.le_of_ble_eq_true rfl) ⟨rfl, rfl⟩
    · have h := wpO_t h hc
      refine G_iconst (v := 1) rfl K dX8_isSign_16 ?_
      refine G_goto (tgt := 21) K dX8_isSign_17 (by decide) ?_
      cases hPHI _ (wpO_some h)
      exact G_iret K hr rfl dX8_isSign_21 (Nat.le_of_ble_eq_true rfl) (Nat.le_of_ble_eq_true rfl) ⟨rfl, rfl⟩
