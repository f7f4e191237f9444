def on_X8_hasRoom : Nat := 0xac030400a7040700a39001116014101400b42a
theorem ob_X8_hasRoom : OKB cX8_hasRoom on_X8_hasRoom 19 := ⟨by decide +kernel, by decide +kernel⟩
theorem dX8_hasRoom_0 : dc cX8_hasRoom 0 1 (.aload_n 0) 1 := o_42 ob_X8_hasRoom rfl rfl rfl
theorem dX8_hasRoom_1 : dc cX8_hasRoom 1 4 (.getfield 20) 3 := o_180 ob_X8_hasRoom rfl rfl rfl rfl
theorem dX8_hasRoom_4 : dc cX8_hasRoom 4 6 (.bipush 20) 2 := o_16 ob_X8_hasRoom rfl rfl rfl rfl
theorem dX8_hasRoom_6 : dc cX8_hasRoom 6 7 .iadd 1 := o_96 ob_X8_hasRoom rfl rfl rfl
theorem dX8_hasRoom_7 : dc cX8_hasRoom 7 10 (.sipush 400) 3 := o_17 ob_X8_hasRoom rfl rfl rfl rfl
theorem dX8_hasRoom_10 : dc cX8_hasRoom 10 13 (.if_icmp .gt 7) 3 := o_163 ob_X8_hasRoom rfl rfl rfl rfl
theorem dX8_hasRoom_13 : dc cX8_hasRoom 13 14 (.iconst 1) 1 := o_4 ob_X8_hasRoom rfl rfl rfl
theorem dX8_hasRoom_14 : dc cX8_hasRoom 14 17 (.goto 4) 3 := o_167 ob_X8_hasRoom rfl rfl rfl rfl
theorem dX8_hasRoom_17 : dc cX8_hasRoom 17 18 (.iconst 0) 1 := o_3 ob_X8_hasRoom rfl rfl rfl
theorem dX8_hasRoom_18 : dc cX8_hasRoom 18 19 .ireturn 1 := o_172 ob_X8_hasRoom rfl rfl rfl
def F_Tape_hasRoom (M : Mem) : Option (Bool) :=
  if 400 < ((M.1 27 1) + 20) then some false else some true
set_option maxRecDepth 100000 in
set_option maxHeartbeats 4000000 in
theorem K_Tape_hasRoom (l : Launch) (g : GB) (htr : l.stackTraces = false) (M : Mem) (rr : Bool) (h : F_Tape_hasRoom M = some rr) : CT l g yX8_hasRoom (.code yX8_hasRoom cX8_hasRoom 1 (some .boolean) :: wAll) { frames := 0, cells := 0, slots := 0, locals := 0 } [.ref (g.2.1 27)] M (.inl (some (.int (b2i rr)))) M := by
  refine CT.of [(0, .ref (g.2.1 27))] (by decide +kernel) (Nat.le_of_ble_eq_true rfl) rfl htr ?_
  intro p e s m args below meth c K hr ht
  skip
  obtain ⟨PHI, hPHI, h⟩ : ∃ PHI : Bool → Prop, (∀ a, PHI a → a = rr) ∧ wpO (F_Tape_hasRoom M) PHI := ⟨fun a => a = rr, fun _ h => h, _, h, rfl⟩
  unfold F_Tape_hasRoom at h
  refine G_aload_n rfl 0 rfl K dX8_hasRoom_0 ?_
  refine G_get (ci := 8) (k := 1) K rfl in_X8 wd_149 rfl dX8_hasRoom_1 (Nat.le_of_ble_eq_true rfl) (sh_27 _ _) (Nat.le_of_ble_eq_true rfl) rfl ?_
  refine G_bipush (v := 20) rfl K dX8_hasRoom_4 ?_
  refine G_iadd K dX8_hasRoom_6 ?_
  refine G_sipush (v := 400) rfl K dX8_hasRoom_7 ?_
  refine G_icmp_gt (tgt := 17) K dX8_hasRoom_10 (by decide) (fun hc => ?_) (fun hc => ?_)
  · have h := wpO_t h hc
    refine G_iconst (v := 0) rfl K dX8_hasRoom_17 ?_
    cases hPHI _ (wpO_some h)
    exact G_iret K hr rfl dX8_hasRoom_18 (Nat.le_of_ble_eq_true rfl) (Nat.le_of_ble_eq_true rfl) ⟨rfl, rfl⟩
  · have h := wpO_f h hc
    refine G_iconst (v := 1) rfl K dX8_hasRoom_13 ?_
    refine G_goto (tgt := 18) K dX8_hasRoom_14 (by decide) ?_
    cases hPHI _ (wpO_some h)
    exact G_iret K hr rfl dX8_hasRoom_18 (Nat.le_of_ble_eq_true rfl) (Nat.le_of_ble_eq_true rfl) ⟨rfl, rfl⟩
theorem wv_451 : wdV "KeptWell$Tape" 44 yX7_put cX7_put 4 none := ⟨wd_451, wd_452, wd_453, wd_3, wd_454⟩
def on_X8_append : Nat := 0xb1dcffa7f802841400b560041400b4592a2c00b6857eff00117c1c1b1400b42a1000b42a26009b1c3d1810
theorem ob_X8_append : OKB cX8_append on_X8_append 43 := ⟨by decide +kernel, by decide +kernel⟩
theorem dX8_append_0 : dc cX8_append 0 2 (.bipush 24) 2 := o_16 ob_X8_append rfl rfl rfl rfl
theorem dX8_append_2 : dc cX8_append 2 3 (.istore_n 2) 1 := o_61 ob_X8_append rfl rfl rfl
theorem dX8_append_3 : dc cX8_append 3 4 (.iload_n 2) 1 := o_28 ob_X8_append rfl rfl rfl
theorem dX8_append_4 : dc cX8_append 4 7 (.ifCond .lt 38) 3 := o_155 ob_X8_append rfl rfl rfl rfl
theorem dX8_append_7 : dc cX8_append 7 8 (.aload_n 0) 1 := o_42 ob_X8_append rfl rfl rfl
theorem dX8_append_8 : dc cX8_append 8 11 (.getfield 16) 3 := o_180 ob_X8_append rfl rfl rfl rfl
theorem dX8_append_11 : dc cX8_append 11 12 (.aload_n 0) 1 := o_42 ob_X8_append rfl rfl rfl
theorem dX8_append_12 : dc cX8_append 12 15 (.getfield 20) 3 := o_180 ob_X8_append rfl rfl rfl rfl
theorem dX8_append_15 : dc cX8_append 15 16 (.iload_n 1) 1 := o_27 ob_X8_append rfl rfl rfl
theorem dX8_append_16 : dc cX8_append 16 17 (.iload_n 2) 1 := o_28 ob_X8_append rfl rfl rfl
theorem dX8_append_17 : dc cX8_append 17 18 .iushr 1 := o_124 ob_X8_append rfl rfl rfl
theorem dX8_append_18 : dc cX8_append 18 21 (.sipush 255) 3 := o_17 ob_X8_append rfl rfl rfl rfl
theorem dX8_append_21 : dc cX8_append 21 22 .iand 1 := o_126 ob_X8_append rfl rfl rfl
theorem dX8_append_22 : dc cX8_append 22 23 .i2l 1 := o_133 ob_X8_append rfl rfl rfl
theorem dX8_append_23 : dc cX8_append 23 26 (.invokevirtual 44) 3 := o_182 ob_X8_append rfl rfl rfl rfl
theorem dX8_append_26 : dc cX8_append 26 27 (.aload_n 0) 1 := o_42 ob_X8_append rfl rfl rfl
theorem dX8_append_27 : dc cX8_append 27 28 .dup 1 := o_89 ob_X8_append rfl rfl rfl
theorem dX8_append_28 : dc cX8_append 28 31 (.getfield 20) 3 := o_180 ob_X8_append rfl rfl rfl rfl
theorem dX8_append_31 : dc cX8_append 31 32 (.iconst 1) 1 := o_4 ob_X8_append rfl rfl rfl
theorem dX8_append_32 : dc cX8_append 32 33 .iadd 1 := o_96 ob_X8_append rfl rfl rfl
theorem dX8_append_33 : dc cX8_append 33 36 (.putfield 20) 3 := o_181 ob_X8_append rfl rfl rfl rfl
theorem dX8_append_36 : dc cX8_append 36 39 (.iinc 2 (-8)) 3 := o_132 ob_X8_append rfl rfl rfl rfl rfl
theorem dX8_append_39 : dc cX8_append 39 42 (.goto (-36)) 3 := o_167 ob_X8_append rfl rfl rfl rfl
theorem dX8_append_42 : dc cX8_append 42 43 .return_ 1 := o_177 ob_X8_append rfl rfl rfl
def F_Tape_append_b3 (x1 : Int32) (z : Int32 × Mem) : Option ((Int32 × Mem) ⊕ ((Mem))) :=
  if z.1 < 0 then some (.inr z.2) else (F_Row_put 29 400 (z.2.1 27 1) (((ush x1 z.1) &&& 255).toInt64) z.2).bind fun r1 => some (.inl ((z.1 + (-8), mSI r1 27 1 ((r1.1 27 1) + 1))))
def F_Tape_append_l3 (x1 : Int32) (x2 : Int32) (M : Mem) : Option (Mem) :=
  (iter (F_Tape_append_b3 x1) FUEL (x2, M)).bind fun r => some r
def F_Tape_append (x1 : Int32) (M : Mem) : Option (Mem) :=
  F_Tape_append_l3 x1 24 M
set_option maxRecDepth 100000 in
set_option maxHeartbeats 4000000 in
theorem K_Tape_append (l : Launch) (g : GB) (htr : l.stackTraces = false) (x1 : Int32) (M : Mem) (MZ : Mem) (h : F_Tape_append x1 M = some MZ) : CT l g yX8_append (.code yX8_append cX8_append 3 none :: wAll) { frames := 1, cells := 0, slots := 0, locals := 23 } [.ref (g.2.1 27), .int x1] M (.inl none) MZ := by
  refine CT.of [(0, .ref (g.2.1 27)), (1, .int x1)] (by decide +kernel) (Nat.le_of_ble_eq_true rfl) rfl htr ?_
  intro p e s m args below meth c K hr ht
  skip
  obtain ⟨PHI, hPHI, h⟩ : ∃ PHI : Mem → Prop, (∀ a, PHI a → a = MZ) ∧ wpO (F_Tape_append x1 M) PHI := ⟨fun a => a = MZ, fun _ h => h, _, h, rfl⟩
  have J3 : ∀ (x1 : Int32) (x2 : Int32) (M : Mem), wpO (F_Tape_append_l3 x1 x2 M) PHI → GG p l e { frames := 1, cells := 0, slots := 0, locals := 23 } s m args below meth c g 3 (vx_MQ below (Qn g s.heap.size (.inl none) MZ) (QX g s.heap.size (.inl none) MZ) args s 0 0 (AS g s.heap.size)) 0 0 3 [(0, .ref (g.2.1 27)), (1, .int x1), (2, .int x2)] [] M := by
    intro x1 x2 M h
    unfold F_Tape_append_l3 at h
    refine loop_C2 (G := fun (x2 : Int32) (M : Mem) => GG p l e { frames := 1, cells := 0, slots := 0, locals := 23 } s m args below meth c g 3 (vx_MQ below (Qn g s.heap.size (.inl none) MZ) (QX g s.heap.size (.inl none) MZ) args s 0 0 (AS g s.heap.size)) 0 0 3 [(0, .ref (g.2.1 27)), (1, .int x1), (2, .int x2)] [] M) (body := F_Tape_append_b3 x1) ?_ FUEL _ _ (wpO_bind h)
    intro P3 E3 X3
    intro z h
    unfold F_Tape_append_b3 at h
    refine G_iload_n rfl 2 rfl K dX8_append_3 ?_
    refine G_if_lt (tgt := 42) K dX8_append_4 (by decide) (fun hc => ?_) (fun hc => ?_)
    · have h := wpO_t h hc
      have h := X3 _ (wpO_some h)
      try dsimp only at h
      cases hPHI _ (wpO_some h)
      exact G_vret K hr dX8_append_42 (Nat.le_of_ble_eq_true rfl) (Nat.le_of_ble_eq_true rfl) ⟨rfl, rfl⟩
    · have h := wpO_f h hc
      refine G_aload_n rfl 0 rfl K dX8_append_7 ?_
      refine G_get (ci := 8) (k := 0) K rfl in_X8 wd_147 rfl dX8_append_8 (Nat.le_of_ble_eq_true rfl) (sh_27 _ _) (Nat.le_of_ble_eq_true rfl) rfl ?_
      refine G_aload_n rfl 0 rfl K dX8_append_11 ?_
      refine G_get (ci := 8) (k := 1) K rfl in_X8 wd_149 rfl dX8_append_12 (Nat.le_of_ble_eq_true rfl) (sh_27 _ _) (Nat.le_of_ble_eq_true rfl) rfl ?_
      refine G_iload_n rfl 1 rfl K dX8_append_15 ?_
      refine G_iload_n rfl 2 rfl K dX8_append_16 ?_
      refine G_iushr K dX8_append_17 ?_
      refine G_sipush (v := 255) rfl K dX8_append_18 ?_
      refine G_iand K dX8_append_21 ?_
      refine G_i2l K dX8_append_22 ?_
      obtain ⟨r1, e1, h⟩ := wpO_bind h
      refine G_callVv (ci := 7) [.int (z.2.1 27 1), .long (((ush x1 z.1) &&& 255).toInt64)] [] K dX8_append_23 wv_451 yd_X7_put (Nat.le_of_ble_eq_true rfl) (sh_28 _ _) rfl (by decide) (by decide) rfl rfl (Nat.le_of_ble_eq_true rfl) (K_Row_put l g htr 28 29 400 isRow_28 (z.2.1 27 1) (((ush x1 z.1) &&& 255).toInt64) z.2 _ e1) ?_
      refine G_aload_n rfl 0 rfl K dX8_append_26 ?_
      refine G_dup rfl K dX8_append_27 ?_
      refine G_get (ci := 8) (k := 1) K rfl in_X8 wd_149 rfl dX8_append_28 (Nat.le_of_ble_eq_true rfl) (sh_27 _ _) (Nat.le_of_ble_eq_true rfl) rfl ?_
      refine G_iconst (v := 1) rfl K dX8_append_31 ?_
      refine G_iadd K dX8_append_32 ?_
      refine G_putI (ci := 8) (k := 1) (ty := .int) K rfl in_X8 tyX8 tyX8_ok nmX8 wd_149 rfl rfl rfl rfl rfl dX8_append_33 (Nat.le_of_ble_eq_true rfl) (sh_27 _ _) (sh_27 _ _) (Nat.le_of_ble_eq_true rfl) (Nat.le_of_ble_eq_true rfl) rfl ?_
      refine G_iinc (v := z.1 + (-8)) 2 rfl K dX8_append_36 rfl (Nat.le_of_ble_eq_true rfl) rfl ?_
      refine G_goto (tgt := 3) K dX8_append_39 (by decide) ?_
      exact G_lv (lv' := [(0, .ref (g.2.1 27)), (1, .int x1), (2, .int (z.1 + (-8)))]) [1, 2, 0] rfl (E3 (z.1 + (-8)) (mSI r1 27 1 ((r1.1 27 1) + 1)) (wpO_some h))
  unfold F_Tape_append at h
  refine G_bipush (v := 24) rfl K dX8_append_0 ?_
  refine G_istore_n rfl K dX8_append_2 (Nat.le_of_ble_eq_true rfl) rfl ?_
  exact G_lv (lv' := [(0, .ref (g.2.1 27)), (1, .int x1), (2, .int 24)]) [1, 2, 0] rfl (J3 x1 24 M h)
theorem wv_784 : wdV "KeptWell$Tape" 48 yX7_small cX7_small 2 (some .int) := ⟨wd_784, wd_480, wd_481, wd_3, wd_482⟩
def on_X8_byteAt : Nat := 0xac020400a73000b61b1000b42a0e00a21400b42a1b
theorem ob_X8_byteAt : OKB cX8_byteAt on_X8_byteAt 21 := ⟨by decide +kernel, by decide +kernel⟩
theorem dX8_byteAt_0 : dc cX8_byteAt 0 1 (.iload_n 1) 1 := o_27 ob_X8_byteAt rfl rfl rfl
theorem dX8_byteAt_1 : dc cX8_byteAt 1 2 (.aload_n 0) 1 := o_42 ob_X8_byteAt rfl rfl rfl
theorem dX8_byteAt_2 : dc cX8_byteAt 2 5 (.getfield 20) 3 := o_180 ob_X8_byteAt rfl rfl rfl rfl
theorem dX8_byteAt_5 : dc cX8_byteAt 5 8 (.if_icmp .ge 14) 3 := o_162 ob_X8_byteAt rfl rfl rfl rfl
theorem dX8_byteAt_8 : dc cX8_byteAt 8 9 (.aload_n 0) 1 := o_42 ob_X8_byteAt rfl rfl rfl
theorem dX8_byteAt_9 : dc cX8_byteAt 9 12 (.getfield 16) 3 := o_180 ob_X8_byteAt rfl rfl rfl rfl
theorem dX8_byteAt_12 : dc cX8_byteAt 12 13 (.iload_n 1) 1 := o_27 ob_X8_byteAt rfl rfl rfl
theorem dX8_byteAt_13 : dc cX8_byteAt 13 16 (.invokevirtual 48) 3 := o_182 ob_X8_byteAt rfl rfl rfl rfl
theorem dX8_byteAt_16 : dc cX8_byteAt 16 19 (.goto 4) 3 := o_167 ob_X8_byteAt rfl rfl rfl rfl
theorem dX8_byteAt_19 : dc cX8_byteAt 19 20 (.iconst (-1)) 1 := o_2 ob_X8_byteAt rfl rfl rfl
theorem dX8_byteAt_20 : dc cX8_byteAt 20 21 .ireturn 1 := o_172 ob_X8_byteAt rfl rfl rfl
def F_Tape_byteAt (x1 : Int32) (M : Mem) : Option (Int32) :=
  if (M.1 27 1) ≤ x1 then some ((-1)) else (F_Row_small 29 400 x1 M).bind fun r1 => some r1
set_option maxRecDepth 100000 in
set_option maxHeartbeats 4000000 in
theorem K_Tape_byteAt (l : Launch) (g : GB) (htr : l.stackTraces = false) (x1 : Int32) (M : Mem) (rr : Int32) (h : F_Tape_byteAt x1 M = some rr) : CT l g yX8_byteAt (.code yX8_byteAt cX8_byteAt 2 (some .int) :: wAll) { frames := 1, cells := 0, slots := 0, locals := 21 } [.ref (g.2.1 27), .int x1] M (.inl (some (.int rr))) M := by
  refine CT.of [(0, .ref (g.2.1 27)), (1, .int x1)] (by decide +kernel) (Nat.le_of_ble_eq_true rfl) rfl htr ?_
  intro p e s m args below meth c K hr ht
  skip
  obtain ⟨PHI, hPHI, h⟩ : ∃ PHI : Int32 → Prop, (∀ a, PHI a → a = rr) ∧ wpO (F_Tape_byteAt x1 M) PHI := ⟨fun a => a = rr, fun _ h => h, _, h, rfl⟩
  unfold F_Tape_byteAt at h
  refine G_iload_n rfl 1 rfl K dX8_byteAt_0 ?_
  refine G_aload_n rfl 0 rfl K dX8_byteAt_1 ?_
  refine G_get (ci := 8) (k := 1) K rfl in_X8 wd_149 rfl dX8_byteAt_2 (Nat.le_of_ble_eq_true rfl) (sh_27 _ _) (Nat.le_of_ble_eq_true rfl) rfl ?_
  refine G_icmp_ge (tgt := 19) K dX8_byteAt_5 (by decide) (fun hc => ?_) (fun hc => ?_)
  · have h := wpO_t h hc
    refine G_iconst (v := (-1)) rfl K dX8_byteAt_19 ?_
    cases hPHI _ (wpO_some h)
    exact G_iret K hr rfl dX8_byteAt_20 (Nat.le_of_ble_eq_true rfl) (Nat.le_of_ble_eq_true rfl) ⟨rfl, rfl⟩
  · have h := wpO_f h hc
    refine G_aload_n rfl 0 rfl K dX8_byteAt_8 ?_
    refine G_get (ci := 8) (k := 0) K rfl in_X8 wd_147 rfl dX8_byteAt_9 (Nat.le_of_ble_eq_true rfl) (sh_27 _ _) (Nat.le_of_ble_eq_true rfl) rfl ?_
    refine G_iload_n rfl 1 rfl K dX8_byteAt_12 ?_
    obtain ⟨r1, e1, h⟩ := wpO_bind h
    refine G_callVi (ci := 7) [.int x1] [] K dX8_byteAt_13 wv_784 yd_X7_small (Nat.le_of_ble_eq_true rfl) (sh_28 _ _) rfl (by decide) (by decide) rfl rfl (Nat.le_of_ble_eq_true rfl) (K_Row_small l g htr 28 29 400 isRow_28 x1 M _ e1) ?_
    refine G_goto (tgt := 20) K dX8_byteAt_16 (by decide) ?_
    cases hPHI _ (wpO_some h)
    exact G_iret K hr rfl dX8_byteAt_20 (Nat.le_of_ble_eq_true rfl) (Nat.le_of_ble_eq_true rfl) ⟨rfl, rfl⟩
theorem yd_X8_byteAt : ydN yX8_byteAt 1 := ⟨by decide, by decide, by decide +kernel⟩
theorem wv_780 : wdV "KeptWell$Tape" 52 yX8_byteAt cX8_byteAt 2 (some .int) := ⟨wd_780, wd_781, wd_782, wd_5, wd_783⟩
def on_X8_isRowOfDays : Nat := 0xac030400a70407009a70051400b42aeaffa7010184ac030500a1063400b61b2a1400a21400b42a1b3c03
theorem ob_X8_isRowOfDays : OKB cX8_isRowOfDays on_X8_isRowOfDays 42 := ⟨by decide +kernel, by decide +kernel⟩
theorem dX8_isRowOfDays_0 : dc cX8_isRowOfDays 0 1 (.iconst 0) 1 := o_3 ob_X8_isRowOfDays rfl rfl rfl
theorem dX8_isRowOfDays_1 : dc cX8_isRowOfDays 1 2 (.istore_n 1) 1 := o_60 ob_X8_isRowOfDays rfl rfl rfl
theorem dX8_isRowOfDays_2 : dc cX8_isRowOfDays 2 3 (.iload_n 1) 1 := o_27 ob_X8_isRowOfDays rfl rfl rfl
theorem dX8_isRowOfDays_3 : dc cX8_isRowOfDays 3 4 (.aload_n 0) 1 := o_42 ob_X8_isRowOfDays rfl rfl rfl
theorem dX8_isRowOfDays_4 : dc cX8_isRowOfDays 4 7 (.getfield 20) 3 := o_180 ob_X8_isRowOfDays rfl rfl rfl rfl
theorem dX8_isRowOfDays_7 : dc cX8_isRowOfDays 7 10 (.if_icmp .ge 20) 3 := o_162 ob_X8_isRowOfDays rfl rfl rfl rfl
theorem dX8_isRowOfDays_10 : dc cX8_isRowOfDays 10 11 (.aload_n 0) 1 := o_42 ob_X8_isRowOfDays rfl rfl rfl
theorem dX8_isRowOfDays_11 : dc cX8_isRowOfDays 11 12 (.iload_n 1) 1 := o_27 ob_X8_isRowOfDays rfl rfl rfl
theorem dX8_isRowOfDays_12 : dc cX8_isRowOfDays 12 15 (.invokevirtual 52) 3 := o_182 ob_X8_isRowOfDays rfl rfl rfl rfl
theorem dX8_isRowOfDays_15 : dc cX8_isRowOfDays 15 16 (.iconst 3) 1 := o_6 ob_X8_isRowOfDays rfl rfl rfl
theorem dX8_isRowOfDays_16 : dc cX8_isRowOfDays 16 19 (.if_icmp .lt 5) 3 := o_161 ob_X8_isRowOfDays rfl rfl rfl rfl
theorem dX8_isRowOfDays_19 : dc cX8_isRowOfDays 19 20 (.iconst 0) 1 := o_3 ob_X8_isRowOfDays rfl rfl rfl
theorem dX8_isRowOfDays_20 : dc cX8_isRowOfDays 20 21 .ireturn 1 := o_172 ob_X8_isRowOfDays rfl rfl rfl
theorem dX8_isRowOfDays_21 : dc cX8_isRowOfDays 21 24 (.iinc 1 1) 3 := o_132 ob_X8_isRowOfDays rfl rfl rfl rfl rfl
theorem dX8_isRowOfDays_24 : dc cX8_isRowOfDays 24 27 (.goto (-22)) 3 := o_167 ob_X8_isRowOfDays rfl rfl rfl rfl
theorem dX8_isRowOfDays_27 : dc cX8_isRowOfDays 27 28 (.aload_n 0) 1 := o_42 ob_X8_isRowOfDays rfl rfl rfl
theorem dX8_isRowOfDays_28 : dc cX8_isRowOfDays 28 31 (.getfield 20) 3 := o_180 ob_X8_isRowOfDays rfl rfl rfl rfl
theorem dX8_isRowOfDays_31 : dc cX8_isRowOfDays 31 32 (.iconst 2) 1 := o_5 ob_X8_isRowOfDays rfl rfl rfl
theorem dX8_isRowOfDays_32 : dc cX8_isRowOfDays 32 33 .irem 1 := o_112 ob_X8_isRowOfDays rfl rfl rfl
theorem dX8_isRowOfDays_33 : dc cX8_isRowOfDays 33 36 (.ifCond .ne 7) 3 := o_154 ob_X8_isRowOfDays rfl rfl rfl rfl
theorem dX8_isRowOfDays_36 : dc cX8_isRowOfDays 36 37 (.iconst 1) 1 := o_4 ob_X8_isRowOfDays rfl rfl rfl
theorem dX8_isRowOfDays_37 : dc cX8_isRowOfDays 37 40 (.goto 4) 3 := o_167 ob_X8_isRowOfDays rfl rfl rfl rfl
theorem dX8_isRowOfDays_40 : dc cX8_isRowOfDays 40 41 (.iconst 0) 1 := o_3 ob_X8_isRowOfDays rfl rfl rfl
theorem dX8_isRowOfDays_41 : dc cX8_isRowOfDays 41 42 .ireturn 1 := o_172 ob_X8_isRowOfDays rfl rfl rfl
def F_Tape_isRowOfDays_j27 (M : Mem) : Option (Bool) :=
  if (irm (M.1 27 1) 2) = 0 then some true else some false
def F_Tape_isRowOfDays_b2 (M : Mem) (z : Int32) : Option ((Int32) ⊕ ((Unit) ⊕ ((Unit)))) :=
  if (M.1 27 1) ≤ z then some (.inr (.inr (()))) else (F_Tape_byteAt z M).bind fun r1 => if r1 < 3 then some (.inl (z + 1)) else some (.inr (.inl (())))
def F_Tape_isRowOfDays_l2 (x1 : Int32) (M : Mem) : Option (Bool) :=
  (iter (F_Tape_isRowOfDays_b2 M) FUEL x1).bind fun q => match q with
    | .inl r => some false
    | .inr r => F_Tape_isRowOfDays_j27 M
def F_Tape_isRowOfDays (M : Mem) : Option (Bool) :=
  F_Tape_isRowOfDays_l2 0 M
set_option maxRecDepth 100000 in
set_option maxHeartbeats 4000000 in
theorem K_Tape_isRowOfDays (l : Launch) (g : GB) (htr : l.stackTraces = false) (M : Mem) (rr : Bool) (h : F_Tape_isRowOfDays M = some rr) : CT l g yX8_isRowOfDays (.code yX8_isRowOfDays cX8_isRowOfDays 2 (some .boolean) :: wAll) { frames := 2, cells := 0, slots := 0, locals := 42 } [.ref (g.2.1 27)] M (.inl (some (.int (b2i rr)))) M := by
  refine CT.of [(0, .ref (g.2.1 27))] (by decide +kernel) (Nat.le_of_ble_eq_true rfl) rfl htr ?_
  intro p e s m args below meth c K hr ht
  skip
  obtain ⟨PHI, hPHI, h⟩ : ∃ PHI : Bool → Prop, (∀ a, PHI a → a = rr) ∧ wpO (F_Tape_isRowOfDays M) PHI := ⟨fun a => a = rr, fun _ h => h, _, h, rfl⟩
  have J27 : wpO (F_Tape_isRowOfDays_j27 M) PHI → GG p l e { frames := 2, cells := 0, slots := 0, locals := 42 } s m args below meth c g 2 (vx_MQ below (Qn g s.heap.size (.inl (some (.int (b2i rr)))) M) (QX g s.heap.size (.inl (some (.int (b2i rr)))) M) args s 0 0 (AS g s.heap.size)) 0 0 27 [(0, .ref (g.2.1 27))] [] M := by
    intro h
    unfold F_Tape_isRowOfDays_j27 at h
    refine G_aload_n rfl 0 rfl K dX8_isRowOfDays_27 ?_
    refine G_get (ci := 8) (k := 1) K rfl in_X8 wd_149 rfl dX8_isRowOfDays_28 (Nat.le_of_ble_eq_true rfl) (sh_27 _ _) (Nat.le_of_ble_eq_true rfl) rfl ?_
    refine G_iconst (v := 2) rfl K dX8_isRowOfDays_31 ?_
    refine G_irem (by decide) K dX8_isRowOfDays_32 ?_
    refine G_if_ne (tgt := 40) K dX8_isRowOfDays_33 (by decide) (fun hc => ?_) (fun hc => ?_)
    · have h := wpO_f h hc
      refine G_iconst (v := 0) rfl K dX8_isRowOfDays_40 ?_
      cases hPHI _ (wpO_some h)
      exact G_iret K hr rfl dX8_isRowOfDays_41 (Nat.le_of_ble_eq_true rfl) (Nat.le_of_ble_eq_true rfl) ⟨rfl, rfl⟩
    · have h := wpO_t h hc
      refine G_iconst (v := 1) rfl K dX8_isRowOfDays_36 ?_
      refine G_goto (tgt := 41) K dX8_isRowOfDays_37 (by decide) ?_
      cases hPHI _ (wpO_some h)
      exact G_iret K hr rfl dX8_isRowOfDays_41 (Nat.le_of_ble_eq_true rfl) (Nat.le_of_ble_eq_true rfl) ⟨rfl, rfl⟩
  have J2 : ∀ (x1 : Int32), wpO (F_Tape_isRowOfDays_l2 x1 M) PHI → GG p l e { frames := 2, cells := 0, slots := 0, locals := 42 } s m args below meth c g 2 (vx_MQ below (Qn g s.heap.size (.inl (some (.int (b2i rr)))) M) (QX g s.heap.size (.inl (some (.int (b2i rr)))) M) args s 0 0 (AS g s.heap.size)) 0 0 2 [(0, .ref (g.2.1 27)), (1, .int x1)] [] M := by
    intro x1 h
    unfold F_Tape_isRowOfDays_l2 at h
    refine loop_C1 (G := fun (x1 : Int32) => GG p l e { frames := 2, cells := 0, slots := 0, locals := 42 } s m args below meth c g 2 (vx_MQ below (Qn g s.heap.size (.inl (some (.int (b2i rr)))) M) (QX g s.heap.size (.inl (some (.int (b2i rr)))) M) args s 0 0 (AS g s.heap.size)) 0 0 2 [(0, .ref (g.2.1 27)), (1, .int x1)] [] M) (body := F_Tape_isRowOfDays_b2 M) ?_ FUEL _ (wpO_bind h)
    intro P2 E2 X2
    intro z h
    unfold F_Tape_isRowOfDays_b2 at h
    refine G_iload_n rfl 1 rfl K dX8_isRowOfDays_2 ?_
    refine G_aload_n rfl 0 rfl K dX8_isRowOfDays_3 ?_
    refine G_get (ci := 8) (k := 1) K rfl in_X8 wd_149 rfl dX8_isRowOfDays_4 (Nat.le_of_ble_eq_true rfl) (sh_27 _ _) (Nat.le_of_ble_eq_true rfl) rfl ?_
    refine G_icmp_ge (tgt := 27) K dX8_isRowOfDays_7 (by decide) (fun hc => ?_) (fun hc => ?_)
    · have h := wpO_t h hc
      have h := X2 _ (wpO_some h)
      try dsimp only at h
      exact G_lv (lv' := [(0, .ref (g.2.1 27))]) [0] rfl (J27 h)
    · have h := wpO_f h hc
      refine G_aload_n rfl 0 rfl K dX8_isRowOfDays_10 ?_
      refine G_iload_n rfl 1 rfl K dX8_isRowOfDays_11 ?_
      obtain ⟨r1, e1, h⟩ := wpO_bind h
      refine G_callVi (ci := 8) [.int z] [] K dX8_isRowOfDays_12 wv_780 yd_X8_byteAt (Nat.le_of_ble_eq_true rfl) (sh_27 _ _) rfl (by decide) (by decide) rfl rfl (Nat.le_of_ble_eq_true rfl) (K_Tape_byteAt l g htr z M _ e1) ?_
      refine G_iconst (v := 3) rfl K dX8_isRowOfDays_15 ?_
      refine G_icmp_lt (tgt := 21) K dX8_isRowOfDays_16 (by decide) (fun hc => ?_) (fun hc => ?_)
      · have h := wpO_t h hc
        refine G_iinc (v := z + 1) 1 rfl K dX8_isRowOfDays_21 rfl (Nat.le_of_ble_eq_true rfl) rfl ?_
        refine G_goto (tgt := 2) K dX8_isRowOfDays_24 (by decide) ?_
        exact G_lv (lv' := [(0, .ref (g.2.1 27)), (1, .int (z + 1))]) [1, 0] rfl (E2 (z + 1) (wpO_some h))
      · have h := wpO_f h hc
        have h := X2 _ (wpO_some h)
        try dsimp only at h
        refine G_iconst (v := 0) rfl K dX8_isRowOfDays_19 ?_
        cases hPHI _ (wpO_some h)
        exact G_iret K hr rfl dX8_isRowOfDays_20 (Nat.le_of_ble_eq_true rfl) (Nat.le_of_ble_eq_true rfl) ⟨rfl, rfl⟩
  unfold F_Tape_isRowOfDays at h
  refine G_iconst (v := 0) rfl K dX8_isRowOfDays_0 ?_
  refine G_istore_n rfl K dX8_isRowOfDays_1 (Nat.le_of_ble_eq_true rfl) rfl ?_
  exact G_lv (lv' := [(0, .ref (g.2.1 27)), (1, .int 0)]) [1, 0] rfl (J2 0 h)
def on_X8_isLetter : Nat := 0xac030400a7040700a37a101b0d00a161101b
theorem ob_X8_isLetter : OKB cX8_isLetter on_X8_isLetter 18 := ⟨by decide +kernel, by decide +kernel⟩
theorem dX8_isLetter_0 : dc cX8_isLetter 0 1 (.iload_n 1) 1 := o_27 ob_X8_isLetter rfl rfl rfl
theorem dX8_isLetter_1 : dc cX8_isLetter 1 3 (.bipush 97) 2 := o_16 ob_X8_isLetter rfl rfl rfl rfl
theorem dX8_isLetter_3 : dc cX8_isLetter 3 6 (.if_icmp .lt 13) 3 := o_161 ob_X8_isLetter rfl rfl rfl rfl
theorem dX8_isLetter_6 : dc cX8_isLetter 6 7 (.iload_n 1) 1 := o_27 ob_X8_isLetter rfl rfl rfl
theorem dX8_isLetter_7 : dc cX8_isLetter 7 9 (.bipush 122) 2 := o_16 ob_X8_isLetter rfl rfl rfl rfl
theorem dX8_isLetter_9 : dc cX8_isLetter 9 12 (.if_icmp .gt 7) 3 := o_163 ob_X8_isLetter rfl rfl rfl rfl
theorem dX8_isLetter_12 : dc cX8_isLetter 12 13 (.iconst 1) 1 := o_4 ob_X8_isLetter rfl rfl rfl
theorem dX8_isLetter_13 : dc cX8_isLetter 13 16 (.goto 4) 3 := o_167 ob_X8_isLetter rfl rfl rfl rfl
theorem dX8_isLetter_16 : dc cX8_isLetter 16 17 (.iconst 0) 1 := o_3 ob_X8_isLetter rfl rfl rfl
theorem dX8_isLetter_17 : dc cX8_isLetter 17 18 .ireturn 1 := o_172 ob_X8_isLetter rfl rfl rfl
def F_Tape_isLetter (x1 : Int32) (M : Mem) : Option (Bool) :=
  if x1 < 97 then some false else if 122 < x1 then some false else some true
set_option maxRecDepth 100000 in
set_option maxHeartbeats 4000000 in
theorem K_Tape_isLetter (l : Launch) (g : GB) (htr : l.stackTraces = false) (x1 : Int32) (M : Mem) (rr : Bool) (h : F_Tape_isLetter x1 M = some rr) : CT l g yX8_isLetter (.code yX8_isLetter cX8_isLetter 2 (some .boolean) :: wAll) { frames := 0, cells := 0, slots := 0, locals := 0 } [.ref (g.2.1 27), .int x1] M (.inl (some (.int (b2i rr)))) M := by
  refine CT.of [(0, .ref (g.2.1 27)), (1, .int x1)] (by decide +kernel) (Nat.le_of_ble_eq_true rfl) rfl htr ?_
  intro p e s m args below meth c K hr ht
  skip
  obtain ⟨PHI, hPHI, h⟩ : ∃ PHI : Bool → Prop, (∀ a, PHI a → a = rr) ∧ wpO (F_Tape_isLetter x1 M) PHI := ⟨fun a => a = rr, fun _ h => h, _, h, rfl⟩
  unfold F_Tape_isLetter at h
  refine G_iload_n rfl 1 rfl K dX8_isLetter_0 ?_
  refine G_bipush (v := 97) rfl K dX8_isLetter_1 ?_
  refine G_icmp_lt (tgt := 16) K dX8_isLetter_3 (by decide) (fun hc => ?_) (fun hc => ?_)
  · have h := wpO_t h hc
    refine G_iconst (v := 0) rfl K dX8_isLetter_16 ?_
    cases hPHI _ (wpO_some h)
    exact G_iret K hr rfl dX8_isLetter_17 (Nat.le_of_ble_eq_true rfl) (Nat.le_of_ble_eq_true rfl) ⟨rfl, rfl⟩
  · have h := wpO_f h hc
    refine G_iload_n rfl 1 rfl K dX8_isLetter_6 ?_
    refine G_bipush (v := 122) rfl K dX8_isLetter_7 ?_
    refine G_icmp_gt (tgt := 16) K dX8_isLetter_9 (by decide) (fun hc => ?_) (fun hc => ?_)
    · have h := wpO_t h hc
      refine G_iconst (v := 0) rfl K dX8_isLetter_16 ?_
      cases hPHI _ (wpO_some h)
      exact G_iret K hr rfl dX8_isLetter_17 (Nat.le_of_ble_eq_true rfl) (Nat.le_of_ble_eq_true rfl) ⟨rfl, rfl⟩
    · have h := wpO_f h hc
      refine G_iconst (v := 1) rfl K dX8_isLetter_12 ?_
      refine G_goto (tgt := 17) K dX8_isLetter_13 (by decide) ?_
      cases hPHI _ (wpO_some h)
      exact G_iret K hr rfl dX8_isLetter_17 (Nat.le_of_ble_eq_true rfl) (Nat.le_of_ble_eq_true rfl) ⟨rfl, rfl⟩
def on_X8_isFigure : Nat := 0xac030400a7040700a339101b0d00a130101b
theorem ob_X8_isFigure : OKB cX8_isFigure on_X8_isFigure 18 := ⟨by decide +kernel, by decide +kernel⟩
theorem dX8_isFigure_0 : dc cX8_isFigure 0 1 (.iload_n 1) 1 := o_27 ob_X8_isFigure rfl rfl rfl
theorem dX8_isFigure_1 : dc cX8_isFigure 1 3 (.bipush 48) 2 := o_16 ob_X8_isFigure rfl rfl rfl rfl
theorem dX8_isFigure_3 : dc cX8_isFigure 3 6 (.if_icmp .lt 13) 3 := o_161 ob_X8_isFigure rfl rfl rfl rfl
theorem dX8_isFigure_6 : dc cX8_isFigure 6 7 (.iload_n 1) 1 := o_27 ob_X8_isFigure rfl rfl rfl
theorem dX8_isFigure_7 : dc cX8_isFigure 7 9 (.bipush 57) 2 := o_16 ob_X8_isFigure rfl rfl rfl rfl
theorem dX8_isFigure_9 : dc cX8_isFigure 9 12 (.if_icmp .gt 7) 3 := o_163 ob_X8_isFigure rfl rfl rfl rfl
theorem dX8_isFigure_12 : dc cX8_isFigure 12 13 (.iconst 1) 1 := o_4 ob_X8_isFigure rfl rfl rfl
theorem dX8_isFigure_13 : dc cX8_isFigure 13 16 (.goto 4) 3 := o_167 ob_X8_isFigure rfl rfl rfl rfl
theorem dX8_isFigure_16 : dc cX8_isFigure 16 17 (.iconst 0) 1 := o_3 ob_X8_isFigure rfl rfl rfl
theorem dX8_isFigure_17 : dc cX8_isFigure 17 18 .ireturn 1 := o_172 ob_X8_isFigure rfl rfl rfl
def F_Tape_isFigure (x1 : Int32) (M : Mem) : Option (Bool) :=
  if x1 < 48 then some false else if 57 < x1 then some false else some true
set_option maxRecDepth 100000 in
set_option maxHeartbeats 4000000 in
theorem K_Tape_isFigure (l : Launch) (g : GB) (htr : l.stackTraces = false) (x1 : Int32) (M : Mem) (rr : Bool) (h : F_Tape_isFigure x1 M = some rr) : CT l g yX8_isFigure (.code yX8_isFigure cX8_isFigure 2 (some .boolean) :: wAll) { frames := 0, cells := 0, slots := 0, locals := 0 } [.ref (g.2.1 27), .int x1] M (.inl (some (.int (b2i rr)))) M := by
  refine CT.of [(0, .ref (g.2.1 27)), (1, .int x1)] (by decide +kernel) (Nat.le_of_ble_eq_true rfl) rfl htr ?_
  intro p e s m args below meth c K hr ht
  skip
  obtain ⟨PHI, hPHI, h⟩ : ∃ PHI : Bool → Prop, (∀ a, PHI a → a = rr) ∧ wpO (F_Tape_isFigure x1 M) PHI := ⟨fun a => a = rr, fun _ h => h, _, h, rfl⟩
  unfold F_Tape_isFigure at h
  refine G_iload_n rfl 1 rfl K dX8_isFigure_0 ?_
  refine G_bipush (v := 48) rfl K dX8_isFigure_1 ?_
  refine G_icmp_lt (tgt := 16) K dX8_isFigure_3 (by decide) (fun hc => ?_) (fun hc => ?_)
  · have h := wpO_t h hc
    refine G_iconst (v := 0) rfl K dX8_isFigure_16 ?_
    cases hPHI _ (wpO_some h)
    exact G_iret K hr rfl dX8_isFigure_17 (Nat.le_of_ble_eq_true rfl) (Nat.le_of_ble_eq_true rfl) ⟨rfl, rfl⟩
  · have h := wpO_f h hc
    refine G_iload_n rfl 1 rfl K dX8_isFigure_6 ?_
    refine G_bipush (v := 57) rfl K dX8_isFigure_7 ?_
    refine G_icmp_gt (tgt := 16) K dX8_isFigure_9 (by decide) (fun hc => ?_) (fun hc => ?_)
    · have h := wpO_t h hc
      refine G_iconst (v := 0) rfl K dX8_isFigure_16 ?_
      cases hPHI _ (wpO_some h)
      exact G_iret K hr rfl dX8_isFigure_17 (Nat.le_of_ble_eq_true rfl) (Nat.le_of_ble_eq_true rfl) ⟨rfl, rfl⟩
    · have h := wpO_f h hc
      refine G_iconst (v := 1) rfl K dX8_isFigure_12 ?_
      refine G_goto (tgt := 17) K dX8_isFigure_13 (by decide) ?_
      cases hPHI _ (wpO_some h)
      exact G_iret K hr rfl dX8_isFigure_17 (Nat.le_of_ble_eq_true rfl) (Nat.le_of_ble_eq_true rfl) ⟨rfl, rfl⟩
theorem yd_X8_isLetter : ydN yX8_isLetter 1 := ⟨by decide, by decide, by decide +kernel⟩
theorem yd_X8_isFigure : ydN yX8_isFigure 1 := ⟨by decide, by decide, by decide +kernel⟩
theorem wv_785 : wdV "KeptWell$Tape" 95 yX8_isLetter cX8_isLetter 2 (some .boolean) := ⟨wd_785, wd_787, ws_X8_isLetter, wd_5, wd_788⟩
theorem wv_789 : wdV "KeptWell$Tape" 98 yX8_isFigure cX8_isFigure 2 (some .boolean) := ⟨wd_789, wd_791, ws_X8_isFigure, wd_5, wd_792⟩
def on_X8_step : Nat := 0xb12600b560042600b4592a2900b53400b62300b42a2a2a2000b5062a1e00a72900b5020400a71b0700a2061b0c00a060042300b42a2600b42a2a3c6430103400b62300b42a2adcffa72600b560042600b4592a1000996200b63400b62600b42a2a2a1f00a21400b42a2600b42a2000b5052a5900996200b63400b62300b42a2a2adcffa72600b560042600b4592a9000995f00b63400b62600b42a2a2a9f00a21400b42a2600b42a2000b5042a2f00995f00b63400b62300b42a2a2abe00a72000b5032a0b00a11400b42a2300b42a2900b5022a2600b52300b42a2adeffa72300b560042300b4592a1000a020103400b62300b42a2a1d00a21400b42a2300b42a2300b52600b42a2a
theorem ob_X8_step : OKB cX8_step on_X8_step 265 := ⟨by decide +kernel, by decide +kernel⟩
theorem dX8_step_0 : dc cX8_step 0 1 (.aload_n 0) 1 := o_42 ob_X8_step rfl rfl rfl
theorem dX8_step_1 : dc cX8_step 1 2 (.aload_n 0) 1 := o_42 ob_X8_step rfl rfl rfl
theorem dX8_step_2 : dc cX8_step 2 5 (.getfield 38) 3 := o_180 ob_X8_step rfl rfl rfl rfl
theorem dX8_step_5 : dc cX8_step 5 8 (.putfield 35) 3 := o_181 ob_X8_step rfl rfl rfl rfl
theorem dX8_step_8 : dc cX8_step 8 9 (.aload_n 0) 1 := o_42 ob_X8_step rfl rfl rfl
theorem dX8_step_9 : dc cX8_step 9 12 (.getfield 35) 3 := o_180 ob_X8_step rfl rfl rfl rfl
theorem dX8_step_12 : dc cX8_step 12 13 (.aload_n 0) 1 := o_42 ob_X8_step rfl rfl rfl
theorem dX8_step_13 : dc cX8_step 13 16 (.getfield 20) 3 := o_180 ob_X8_step rfl rfl rfl rfl
theorem dX8_step_16 : dc cX8_step 16 19 (.if_icmp .ge 29) 3 := o_162 ob_X8_step rfl rfl rfl rfl
theorem dX8_step_19 : dc cX8_step 19 20 (.aload_n 0) 1 := o_42 ob_X8_step rfl rfl rfl
theorem dX8_step_20 : dc cX8_step 20 21 (.aload_n 0) 1 := o_42 ob_X8_step rfl rfl rfl
theorem dX8_step_21 : dc cX8_step 21 24 (.getfield 35) 3 := o_180 ob_X8_step rfl rfl rfl rfl
theorem dX8_step_24 : dc cX8_step 24 27 (.invokevirtual 52) 3 := o_182 ob_X8_step rfl rfl rfl rfl
theorem dX8_step_27 : dc cX8_step 27 29 (.bipush 32) 2 := o_16 ob_X8_step rfl rfl rfl rfl
theorem dX8_step_29 : dc cX8_step 29 32 (.if_icmp .ne 16) 3 := o_160 ob_X8_step rfl rfl rfl rfl
theorem dX8_step_32 : dc cX8_step 32 33 (.aload_n 0) 1 := o_42 ob_X8_step rfl rfl rfl
theorem dX8_step_33 : dc cX8_step 33 34 .dup 1 := o_89 ob_X8_step rfl rfl rfl
theorem dX8_step_34 : dc cX8_step 34 37 (.getfield 35) 3 := o_180 ob_X8_step rfl rfl rfl rfl
theorem dX8_step_37 : dc cX8_step 37 38 (.iconst 1) 1 := o_4 ob_X8_step rfl rfl rfl
theorem dX8_step_38 : dc cX8_step 38 39 .iadd 1 := o_96 ob_X8_step rfl rfl rfl
theorem dX8_step_39 : dc cX8_step 39 42 (.putfield 35) 3 := o_181 ob_X8_step rfl rfl rfl rfl
theorem dX8_step_42 : dc cX8_step 42 45 (.goto (-34)) 3 := o_167 ob_X8_step rfl rfl rfl rfl
theorem dX8_step_45 : dc cX8_step 45 46 (.aload_n 0) 1 := o_42 ob_X8_step rfl rfl rfl
theorem dX8_step_46 : dc cX8_step 46 47 (.aload_n 0) 1 := o_42 ob_X8_step rfl rfl rfl
theorem dX8_step_47 : dc cX8_step 47 50 (.getfield 35) 3 := o_180 ob_X8_step rfl rfl rfl rfl
theorem dX8_step_50 : dc cX8_step 50 53 (.putfield 38) 3 := o_181 ob_X8_step rfl rfl rfl rfl
theorem dX8_step_53 : dc cX8_step 53 54 (.aload_n 0) 1 := o_42 ob_X8_step rfl rfl rfl
theorem dX8_step_54 : dc cX8_step 54 55 (.iconst (-1)) 1 := o_2 ob_X8_step rfl rfl rfl
theorem dX8_step_55 : dc cX8_step 55 58 (.putfield 41) 3 := o_181 ob_X8_step rfl rfl rfl rfl
theorem dX8_step_58 : dc cX8_step 58 59 (.aload_n 0) 1 := o_42 ob_X8_step rfl rfl rfl
theorem dX8_step_59 : dc cX8_step 59 62 (.getfield 35) 3 := o_180 ob_X8_step rfl rfl rfl rfl
theorem dX8_step_62 : dc cX8_step 62 63 (.aload_n 0) 1 := o_42 ob_X8_step rfl rfl rfl
theorem dX8_step_63 : dc cX8_step 63 66 (.getfield 20) 3 := o_180 ob_X8_step rfl rfl rfl rfl
theorem dX8_step_66 : dc cX8_step 66 69 (.if_icmp .lt 11) 3 := o_161 ob_X8_step rfl rfl rfl rfl
theorem dX8_step_69 : dc cX8_step 69 70 (.aload_n 0) 1 := o_42 ob_X8_step rfl rfl rfl
theorem dX8_step_70 : dc cX8_step 70 71 (.iconst 0) 1 := o_3 ob_X8_step rfl rfl rfl
theorem dX8_step_71 : dc cX8_step 71 74 (.putfield 32) 3 := o_181 ob_X8_step rfl rfl rfl rfl
theorem dX8_step_74 : dc cX8_step 74 77 (.goto 190) 3 := o_167 ob_X8_step rfl rfl rfl rfl
theorem dX8_step_77 : dc cX8_step 77 78 (.aload_n 0) 1 := o_42 ob_X8_step rfl rfl rfl
theorem dX8_step_78 : dc cX8_step 78 79 (.aload_n 0) 1 := o_42 ob_X8_step rfl rfl rfl
theorem dX8_step_79 : dc cX8_step 79 80 (.aload_n 0) 1 := o_42 ob_X8_step rfl rfl rfl
theorem dX8_step_80 : dc cX8_step 80 83 (.getfield 35) 3 := o_180 ob_X8_step rfl rfl rfl rfl
theorem dX8_step_83 : dc cX8_step 83 86 (.invokevirtual 52) 3 := o_182 ob_X8_step rfl rfl rfl rfl
theorem dX8_step_86 : dc cX8_step 86 89 (.invokevirtual 95) 3 := o_182 ob_X8_step rfl rfl rfl rfl
theorem dX8_step_89 : dc cX8_step 89 92 (.ifCond .eq 47) 3 := o_153 ob_X8_step rfl rfl rfl rfl
theorem dX8_step_92 : dc cX8_step 92 93 (.aload_n 0) 1 := o_42 ob_X8_step rfl rfl rfl
theorem dX8_step_93 : dc cX8_step 93 94 (.iconst 1) 1 := o_4 ob_X8_step rfl rfl rfl
theorem dX8_step_94 : dc cX8_step 94 97 (.putfield 32) 3 := o_181 ob_X8_step rfl rfl rfl rfl
theorem dX8_step_97 : dc cX8_step 97 98 (.aload_n 0) 1 := o_42 ob_X8_step rfl rfl rfl
theorem dX8_step_98 : dc cX8_step 98 101 (.getfield 38) 3 := o_180 ob_X8_step rfl rfl rfl rfl
theorem dX8_step_101 : dc cX8_step 101 102 (.aload_n 0) 1 := o_42 ob_X8_step rfl rfl rfl
theorem dX8_step_102 : dc cX8_step 102 105 (.getfield 20) 3 := o_180 ob_X8_step rfl rfl rfl rfl
theorem dX8_step_105 : dc cX8_step 105 108 (.if_icmp .ge 159) 3 := o_162 ob_X8_step rfl rfl rfl rfl
theorem dX8_step_108 : dc cX8_step 108 109 (.aload_n 0) 1 := o_42 ob_X8_step rfl rfl rfl
theorem dX8_step_109 : dc cX8_step 109 110 (.aload_n 0) 1 := o_42 ob_X8_step rfl rfl rfl
theorem dX8_step_110 : dc cX8_step 110 111 (.aload_n 0) 1 := o_42 ob_X8_step rfl rfl rfl
theorem dX8_step_111 : dc cX8_step 111 114 (.getfield 38) 3 := o_180 ob_X8_step rfl rfl rfl rfl
theorem dX8_step_114 : dc cX8_step 114 117 (.invokevirtual 52) 3 := o_182 ob_X8_step rfl rfl rfl rfl
theorem dX8_step_117 : dc cX8_step 117 120 (.invokevirtual 95) 3 := o_182 ob_X8_step rfl rfl rfl rfl
theorem dX8_step_120 : dc cX8_step 120 123 (.ifCond .eq 144) 3 := o_153 ob_X8_step rfl rfl rfl rfl
theorem dX8_step_123 : dc cX8_step 123 124 (.aload_n 0) 1 := o_42 ob_X8_step rfl rfl rfl
theorem dX8_step_124 : dc cX8_step 124 125 .dup 1 := o_89 ob_X8_step rfl rfl rfl
theorem dX8_step_125 : dc cX8_step 125 128 (.getfield 38) 3 := o_180 ob_X8_step rfl rfl rfl rfl
theorem dX8_step_128 : dc cX8_step 128 129 (.iconst 1) 1 := o_4 ob_X8_step rfl rfl rfl
theorem dX8_step_129 : dc cX8_step 129 130 .iadd 1 := o_96 ob_X8_step rfl rfl rfl
theorem dX8_step_130 : dc cX8_step 130 133 (.putfield 38) 3 := o_181 ob_X8_step rfl rfl rfl rfl
theorem dX8_step_133 : dc cX8_step 133 136 (.goto (-36)) 3 := o_167 ob_X8_step rfl rfl rfl rfl
theorem dX8_step_136 : dc cX8_step 136 137 (.aload_n 0) 1 := o_42 ob_X8_step rfl rfl rfl
theorem dX8_step_137 : dc cX8_step 137 138 (.aload_n 0) 1 := o_42 ob_X8_step rfl rfl rfl
theorem dX8_step_138 : dc cX8_step 138 139 (.aload_n 0) 1 := o_42 ob_X8_step rfl rfl rfl
theorem dX8_step_139 : dc cX8_step 139 142 (.getfield 35) 3 := o_180 ob_X8_step rfl rfl rfl rfl
theorem dX8_step_142 : dc cX8_step 142 145 (.invokevirtual 52) 3 := o_182 ob_X8_step rfl rfl rfl rfl
theorem dX8_step_145 : dc cX8_step 145 148 (.invokevirtual 98) 3 := o_182 ob_X8_step rfl rfl rfl rfl
theorem dX8_step_148 : dc cX8_step 148 151 (.ifCond .eq 89) 3 := o_153 ob_X8_step rfl rfl rfl rfl
theorem dX8_step_151 : dc cX8_step 151 152 (.aload_n 0) 1 := o_42 ob_X8_step rfl rfl rfl
theorem dX8_step_152 : dc cX8_step 152 153 (.iconst 2) 1 := o_5 ob_X8_step rfl rfl rfl
theorem dX8_step_153 : dc cX8_step 153 156 (.putfield 32) 3 := o_181 ob_X8_step rfl rfl rfl rfl
theorem dX8_step_156 : dc cX8_step 156 157 (.aload_n 0) 1 := o_42 ob_X8_step rfl rfl rfl
theorem dX8_step_157 : dc cX8_step 157 160 (.getfield 38) 3 := o_180 ob_X8_step rfl rfl rfl rfl
theorem dX8_step_160 : dc cX8_step 160 161 (.aload_n 0) 1 := o_42 ob_X8_step rfl rfl rfl
theorem dX8_step_161 : dc cX8_step 161 164 (.getfield 20) 3 := o_180 ob_X8_step rfl rfl rfl rfl
theorem dX8_step_164 : dc cX8_step 164 167 (.if_icmp .ge 31) 3 := o_162 ob_X8_step rfl rfl rfl rfl
theorem dX8_step_167 : dc cX8_step 167 168 (.aload_n 0) 1 := o_42 ob_X8_step rfl rfl rfl
theorem dX8_step_168 : dc cX8_step 168 169 (.aload_n 0) 1 := o_42 ob_X8_step rfl rfl rfl
theorem dX8_step_169 : dc cX8_step 169 170 (.aload_n 0) 1 := o_42 ob_X8_step rfl rfl rfl
theorem dX8_step_170 : dc cX8_step 170 173 (.getfield 38) 3 := o_180 ob_X8_step rfl rfl rfl rfl
theorem dX8_step_173 : dc cX8_step 173 176 (.invokevirtual 52) 3 := o_182 ob_X8_step rfl rfl rfl rfl
theorem dX8_step_176 : dc cX8_step 176 179 (.invokevirtual 98) 3 := o_182 ob_X8_step rfl rfl rfl rfl
theorem dX8_step_179 : dc cX8_step 179 182 (.ifCond .eq 16) 3 := o_153 ob_X8_step rfl rfl rfl rfl
theorem dX8_step_182 : dc cX8_step 182 183 (.aload_n 0) 1 := o_42 ob_X8_step rfl rfl rfl
theorem dX8_step_183 : dc cX8_step 183 184 .dup 1 := o_89 ob_X8_step rfl rfl rfl
theorem dX8_step_184 : dc cX8_step 184 187 (.getfield 38) 3 := o_180 ob_X8_step rfl rfl rfl rfl
theorem dX8_step_187 : dc cX8_step 187 188 (.iconst 1) 1 := o_4 ob_X8_step rfl rfl rfl
theorem dX8_step_188 : dc cX8_step 188 189 .iadd 1 := o_96 ob_X8_step rfl rfl rfl
theorem dX8_step_189 : dc cX8_step 189 192 (.putfield 38) 3 := o_181 ob_X8_step rfl rfl rfl rfl
theorem dX8_step_192 : dc cX8_step 192 195 (.goto (-36)) 3 := o_167 ob_X8_step rfl rfl rfl rfl
theorem dX8_step_195 : dc cX8_step 195 196 (.aload_n 0) 1 := o_42 ob_X8_step rfl rfl rfl
theorem dX8_step_196 : dc cX8_step 196 197 (.aload_n 0) 1 := o_42 ob_X8_step rfl rfl rfl
theorem dX8_step_197 : dc cX8_step 197 200 (.getfield 35) 3 := o_180 ob_X8_step rfl rfl rfl rfl
theorem dX8_step_200 : dc cX8_step 200 203 (.invokevirtual 52) 3 := o_182 ob_X8_step rfl rfl rfl rfl
theorem dX8_step_203 : dc cX8_step 203 205 (.bipush 48) 2 := o_16 ob_X8_step rfl rfl rfl rfl
theorem dX8_step_205 : dc cX8_step 205 206 .isub 1 := o_100 ob_X8_step rfl rfl rfl
theorem dX8_step_206 : dc cX8_step 206 207 (.istore_n 1) 1 := o_60 ob_X8_step rfl rfl rfl
theorem dX8_step_207 : dc cX8_step 207 208 (.aload_n 0) 1 := o_42 ob_X8_step rfl rfl rfl
theorem dX8_step_208 : dc cX8_step 208 209 (.aload_n 0) 1 := o_42 ob_X8_step rfl rfl rfl
theorem dX8_step_209 : dc cX8_step 209 212 (.getfield 38) 3 := o_180 ob_X8_step rfl rfl rfl rfl
theorem dX8_step_212 : dc cX8_step 212 213 (.aload_n 0) 1 := o_42 ob_X8_step rfl rfl rfl
theorem dX8_step_213 : dc cX8_step 213 216 (.getfield 35) 3 := o_180 ob_X8_step rfl rfl rfl rfl
theorem dX8_step_216 : dc cX8_step 216 217 (.iconst 1) 1 := o_4 ob_X8_step rfl rfl rfl
theorem dX8_step_217 : dc cX8_step 217 218 .iadd 1 := o_96 ob_X8_step rfl rfl rfl
theorem dX8_step_218 : dc cX8_step 218 221 (.if_icmp .ne 12) 3 := o_160 ob_X8_step rfl rfl rfl rfl
theorem dX8_step_221 : dc cX8_step 221 222 (.iload_n 1) 1 := o_27 ob_X8_step rfl rfl rfl
theorem dX8_step_222 : dc cX8_step 222 223 (.iconst 3) 1 := o_6 ob_X8_step rfl rfl rfl
theorem dX8_step_223 : dc cX8_step 223 226 (.if_icmp .ge 7) 3 := o_162 ob_X8_step rfl rfl rfl rfl
theorem dX8_step_226 : dc cX8_step 226 227 (.iload_n 1) 1 := o_27 ob_X8_step rfl rfl rfl
theorem dX8_step_227 : dc cX8_step 227 230 (.goto 4) 3 := o_167 ob_X8_step rfl rfl rfl rfl
theorem dX8_step_230 : dc cX8_step 230 231 (.iconst (-1)) 1 := o_2 ob_X8_step rfl rfl rfl
theorem dX8_step_231 : dc cX8_step 231 234 (.putfield 41) 3 := o_181 ob_X8_step rfl rfl rfl rfl
theorem dX8_step_234 : dc cX8_step 234 237 (.goto 30) 3 := o_167 ob_X8_step rfl rfl rfl rfl
theorem dX8_step_237 : dc cX8_step 237 238 (.aload_n 0) 1 := o_42 ob_X8_step rfl rfl rfl
theorem dX8_step_238 : dc cX8_step 238 239 (.iconst 3) 1 := o_6 ob_X8_step rfl rfl rfl
theorem dX8_step_239 : dc cX8_step 239 242 (.putfield 32) 3 := o_181 ob_X8_step rfl rfl rfl rfl
theorem dX8_step_242 : dc cX8_step 242 243 (.aload_n 0) 1 := o_42 ob_X8_step rfl rfl rfl
theorem dX8_step_243 : dc cX8_step 243 244 (.aload_n 0) 1 := o_42 ob_X8_step rfl rfl rfl
theorem dX8_step_244 : dc cX8_step 244 245 (.aload_n 0) 1 := o_42 ob_X8_step rfl rfl rfl
theorem dX8_step_245 : dc cX8_step 245 248 (.getfield 35) 3 := o_180 ob_X8_step rfl rfl rfl rfl
theorem dX8_step_248 : dc cX8_step 248 251 (.invokevirtual 52) 3 := o_182 ob_X8_step rfl rfl rfl rfl
theorem dX8_step_251 : dc cX8_step 251 254 (.putfield 41) 3 := o_181 ob_X8_step rfl rfl rfl rfl
theorem dX8_step_254 : dc cX8_step 254 255 (.aload_n 0) 1 := o_42 ob_X8_step rfl rfl rfl
theorem dX8_step_255 : dc cX8_step 255 256 .dup 1 := o_89 ob_X8_step rfl rfl rfl
theorem dX8_step_256 : dc cX8_step 256 259 (.getfield 38) 3 := o_180 ob_X8_step rfl rfl rfl rfl
theorem dX8_step_259 : dc cX8_step 259 260 (.iconst 1) 1 := o_4 ob_X8_step rfl rfl rfl
theorem dX8_step_260 : dc cX8_step 260 261 .iadd 1 := o_96 ob_X8_step rfl rfl rfl
theorem dX8_step_261 : dc cX8_step 261 264 (.putfield 38) 3 := o_181 ob_X8_step rfl rfl rfl rfl
theorem dX8_step_264 : dc cX8_step 264 265 .return_ 1 := o_177 ob_X8_step rfl rfl rfl
def F_Tape_step_j195 (M : Mem) : Option (Mem) :=
  (F_Tape_byteAt (M.1 27 5) M).bind fun r6 => if (M.1 27 6) = ((M.1 27 5) + 1) then if 3 ≤ (r6 - 48) then some (mSI M 27 7 ((-1))) else some (mSI M 27 7 (r6 - 48)) else some (mSI M 27 7 ((-1)))
def F_Tape_step_b156 (z : Mem) : Option ((Mem) ⊕ ((Mem))) :=
  if (z.1 27 1) ≤ (z.1 27 6) then some (.inr z) else (F_Tape_byteAt (z.1 27 6) z).bind fun r7 => (F_Tape_isFigure r7 z).bind fun r8 => if r8 = true then some (.inl (mSI z 27 6 ((z.1 27 6) + 1))) else some (.inr z)
def F_Tape_step_l156 (M : Mem) : Option (Mem) :=
  (iter (F_Tape_step_b156) FUEL M).bind fun r => F_Tape_step_j195 r
def F_Tape_step_b97 (z : Mem) : Option ((Mem) ⊕ ((Mem))) :=
  if (z.1 27 1) ≤ (z.1 27 6) then some (.inr z) else (F_Tape_byteAt (z.1 27 6) z).bind fun r9 => (F_Tape_isLetter r9 z).bind fun r10 => if r10 = true then some (.inl (mSI z 27 6 ((z.1 27 6) + 1))) else some (.inr z)
def F_Tape_step_l97 (M : Mem) : Option (Mem) :=
  (iter (F_Tape_step_b97) FUEL M).bind fun r => some r
def F_Tape_step_j45 (M : Mem) : Option (Mem) :=
  if ((mSI (mSI M 27 6 (M.1 27 5)) 27 7 ((-1))).1 27 5) < ((mSI (mSI M 27 6 (M.1 27 5)) 27 7 ((-1))).1 27 1) then (F_Tape_byteAt ((mSI (mSI M 27 6 (M.1 27 5)) 27 7 ((-1))).1 27 5) (mSI (mSI M 27 6 (M.1 27 5)) 27 7 ((-1)))).bind fun r1 => (F_Tape_isLetter r1 (mSI (mSI M 27 6 (M.1 27 5)) 27 7 ((-1)))).bind fun r2 => if r2 = true then F_Tape_step_l97 (mSI (mSI (mSI M 27 6 (M.1 27 5)) 27 7 ((-1))) 27 4 1) else (F_Tape_byteAt ((mSI (mSI M 27 6 (M.1 27 5)) 27 7 ((-1))).1 27 5) (mSI (mSI M 27 6 (M.1 27 5)) 27 7 ((-1)))).bind fun r3 => (F_Tape_isFigure r3 (mSI (mSI M 27 6 (M.1 27 5)) 27 7 ((-1)))).bind fun r4 => if r4 = true then F_Tape_step_l156 (mSI (mSI (mSI M 27 6 (M.1 27 5)) 27 7 ((-1))) 27 4 2) else (F_Tape_byteAt ((mSI (mSI (mSI M 27 6 (M.1 27 5)) 27 7 ((-1))) 27 4 3).1 27 5) (mSI (mSI (mSI M 27 6 (M.1 27 5)) 27 7 ((-1))) 27 4 3)).bind fun r5 => some (mSI (mSI (mSI (mSI (mSI M 27 6 (M.1 27 5)) 27 7 ((-1))) 27 4 3) 27 7 r5) 27 6 (((mSI (mSI (mSI (mSI M 27 6 (M.1 27 5)) 27 7 ((-1))) 27 4 3) 27 7 r5).1 27 6) + 1)) else some (mSI (mSI (mSI M 27 6 (M.1 27 5)) 27 7 ((-1))) 27 4 0)
def F_Tape_step_b8 (z : Mem) : Option ((Mem) ⊕ ((Mem))) :=
  if (z.1 27 1) ≤ (z.1 27 5) then some (.inr z) else (F_Tape_byteAt (z.1 27 5) z).bind fun r11 => if r11 = 32 then some (.inl (mSI z 27 5 ((z.1 27 5) + 1))) else some (.inr z)
def F_Tape_step_l8 (M : Mem) : Option (Mem) :=
  (iter (F_Tape_step_b8) FUEL M).bind fun r => F_Tape_step_j45 r
def F_Tape_step (M : Mem) : Option (Mem) :=
  F_Tape_step_l8 (mSI M 27 5 (M.1 27 6))
set_option maxRecDepth 100000 in
set_option maxHeartbeats 4000000 in
theorem K_Tape_step (l : Launch) (g : GB) (htr : l.stackTraces = false) (M : Mem) (MZ : Mem) (h : F_Tape_step M = some MZ) : CT l g yX8_step (.code yX8_step cX8_step 2 none :: wAll) { frames := 2, cells := 0, slots := 0, locals := 42 } [.ref (g.2.1 27)] M (.inl none) MZ := by
  refine CT.of [(0, .ref (g.2.1 27))] (by decide +kernel) (Nat.le_of_ble_eq_true rfl) rfl htr ?_
  intro p e s m args below meth c K hr ht
  skip
  obtain ⟨PHI, hPHI, h⟩ : ∃ PHI : Mem → Prop, (∀ a, PHI a → a = MZ) ∧ wpO (F_Tape_step M) PHI := ⟨fun a => a = MZ, fun _ h => h, _, h, rfl⟩
  have J195 : ∀ (M : Mem), wpO (F_Tape_step_j195 M) PHI → GG p l e { frames := 2, cells := 0, slots := 0, locals := 42 } s m args below meth c g 2 (vx_MQ below (Qn g s.heap.size (.inl none) MZ) (QX g s.heap.size (.inl none) MZ) args s 0 0 (AS g s.heap.size)) 0 0 195 [(0, .ref (g.2.1 27))] [] M := by
    intro M h
    unfold F_Tape_step_j195 at h
    refine G_aload_n rfl 0 rfl K dX8_step_195 ?_
    refine G_aload_n rfl 0 rfl K dX8_step_196 ?_
    refine G_get (ci := 8) (k := 5) K rfl in_X8 wd_155 rfl dX8_step_197 (Nat.le_of_ble_eq_true rfl) (sh_27 _ _) (Nat.le_of_ble_eq_true rfl) rfl ?_
    obtain ⟨r6, e6, h⟩ := wpO_bind h
    refine G_callVi (ci := 8) [.int (M.1 27 5)] [] K dX8_step_200 wv_780 yd_X8_byteAt (Nat.le_of_ble_eq_true rfl) (sh_27 _ _) rfl (by decide) (by decide) rfl rfl (Nat.le_of_ble_eq_true rfl) (K_Tape_byteAt l g htr (M.1 27 5) M _ e6) ?_
    refine G_bipush (v := 48) rfl K dX8_step_203 ?_
    refine G_isub K dX8_step_205 ?_
    refine G_istore_n rfl K dX8_step_206 (Nat.le_of_ble_eq_true rfl) rfl ?_
    refine G_aload_n rfl 1 rfl K dX8_step_207 ?_
    refine G_aload_n rfl 1 rfl K dX8_step_208 ?_
    refine G_get (ci := 8) (k := 6) K rfl in_X8 wd_156 rfl dX8_step_209 (Nat.le_of_ble_eq_true rfl) (sh_27 _ _) (Nat.le_of_ble_eq_true rfl) rfl ?_
    refine G_aload_n rfl 1 rfl K dX8_step_212 ?_
    refine G_get (ci := 8) (k := 5) K rfl in_X8 wd_155 rfl dX8_step_213 (Nat.le_of_ble_eq_true rfl) (sh_27 _ _) (Nat.le_of_ble_eq_true rfl) rfl ?_
    refine G_iconst (v := 1) rfl K dX8_step_216 ?_
    refine G_iadd K dX8_step_217 ?_
    refine G_icmp_ne (tgt := 230) K dX8_step_218 (by decide) (fun hc => ?_) (fun hc => ?_)
    · have h := wpO_f h hc
      refine G_iconst (v := (-1)) rfl K dX8_step_230 ?_
      refine G_putI (ci := 8) (k := 7) (ty := .int) K rfl in_X8 tyX8 tyX8_ok nmX8 wd_157 rfl rfl rfl rfl rfl dX8_step_231 (Nat.le_of_ble_eq_true rfl) (sh_27 _ _) (sh_27 _ _) (Nat.le_of_ble_eq_true rfl) (Nat.le_of_ble_eq_true rfl) rfl ?_
      refine G_goto (tgt := 264) K dX8_step_234 (by decide) ?_
      cases hPHI _ (wpO_some h)
      exact G_vret K hr dX8_step_264 (Nat.le_of_ble_eq_true rfl) (Nat.le_of_ble_eq_true rfl) ⟨rfl, rfl⟩
    · have h := wpO_t h hc
      refine G_iload_n rfl 0 rfl K dX8_step_221 ?_
      refine G_iconst (v := 3) rfl K dX8_step_222 ?_
      refine G_icmp_ge (tgt := 230) K dX8_step_223 (by decide) (fun hc => ?_) (fun hc => ?_)
      · have h := wpO_t h hc
        refine G_iconst (v := (-1)) rfl K dX8_step_230 ?_
        refine G_putI (ci := 8) (k := 7) (ty := .int) K rfl in_X8 tyX8 tyX8_ok nmX8 wd_157 rfl rfl rfl rfl rfl dX8_step_231 (Nat.le_of_ble_eq_true rfl) (sh_27 _ _) (sh_27 _ _) (Nat.le_of_ble_eq_true rfl) (Nat.le_of_ble_eq_true rfl) rfl ?_
        refine G_goto (tgt := 264) K dX8_step_234 (by decide) ?_
        cases hPHI _ (wpO_some h)
        exact G_vret K hr dX8_step_264 (Nat.le_of_ble_eq_true rfl) (Nat.le_of_ble_eq_true rfl) ⟨rfl, rfl⟩
      · have h := wpO_f h hc
        refine G_iload_n rfl 0 rfl K dX8_step_226 ?_
        refine G_goto (tgt := 231) K dX8_step_227 (by decide) ?_
        refine G_putI (ci := 8) (k := 7) (ty := .int) K rfl in_X8 tyX8 tyX8_ok nmX8 wd_157 rfl rfl rfl rfl rfl dX8_step_231 (Nat.le_of_ble_eq_true rfl) (sh_27 _ _) (sh_27 _ _) (Nat.le_of_ble_eq_true rfl) (Nat.le_of_ble_eq_true rfl) rfl ?_
        refine G_goto (tgt := 264) K dX8_step_234 (by decide) ?_
        cases hPHI _ (wpO_some h)
        exact G_vret K hr dX8_step_264 (Nat.le_of_ble_eq_true rfl) (Nat.le_of_ble_eq_true rfl) ⟨rfl, rfl⟩
  have J156 : ∀ (M : Mem), wpO (F_Tape_step_l156 M) PHI → GG p l e { frames := 2, cells := 0, slots := 0, locals := 42 } s m args below meth c g 2 (vx_MQ below (Qn g s.heap.size (.inl none) MZ) (QX g s.heap.size (.inl none) MZ) args s 0 0 (AS g s.heap.size)) 0 0 156 [(0, .ref (g.2.1 27))] [] M := by
    intro M h
    unfold F_Tape_step_l156 at h
    refine loop_C1 (G := fun (M : Mem) => GG p l e { frames := 2, cells := 0, slots := 0, locals := 42 } s m args below meth c g 2 (vx_MQ below (Qn g s.heap.size (.inl none) MZ) (QX g s.heap.size (.inl none) MZ) args s 0 0 (AS g s.heap.size)) 0 0 156 [(0, .ref (g.2.1 27))] [] M) (body := F_Tape_step_b156) ?_ FUEL _ (wpO_bind h)
    intro P156 E156 X156
    intro z h
    unfold F_Tape_step_b156 at h
    refine G_aload_n rfl 0 rfl K dX8_step_156 ?_
    refine G_get (ci := 8) (k := 6) K rfl in_X8 wd_156 rfl dX8_step_157 (Nat.le_of_ble_eq_true rfl) (sh_27 _ _) (Nat.le_of_ble_eq_true rfl) rfl ?_
    refine G_aload_n rfl 0 rfl K dX8_step_160 ?_
    refine G_get (ci := 8) (k := 1) K rfl in_X8 wd_149 rfl dX8_step_161 (Nat.le_of_ble_eq_true rfl) (sh_27 _ _) (Nat.le_of_ble_eq_true rfl) rfl ?_
    refine G_icmp_ge (tgt := 195) K dX8_step_164 (by decide) (fun hc => ?_) (fun hc => ?_)
    · have h := wpO_t h hc
      have h := X156 _ (wpO_some h)
      try dsimp only at h
      exact J195 z h
    · have h := wpO_f h hc
      refine G_aload_n rfl 0 rfl K dX8_step_167 ?_
      refine G_aload_n rfl 0 rfl K dX8_step_168 ?_
      refine G_aload_n rfl 0 rfl K dX8_step_169 ?_
      refine G_get (ci := 8) (k := 6) K rfl in_X8 wd_156 rfl dX8_step_170 (Nat.le_of_ble_eq_true rfl) (sh_27 _ _) (Nat.le_of_ble_eq_true rfl) rfl ?_
      obtain ⟨r7, e7, h⟩ := wpO_bind h
      refine G_callVi (ci := 8) [.int (z.1 27 6)] [.ref (g.2.1 27)] K dX8_step_173 wv_780 yd_X8_byteAt (Nat.le_of_ble_eq_true rfl) (sh_27 _ _) rfl (by decide) (by decide) rfl rfl (Nat.le_of_ble_eq_true rfl) (K_Tape_byteAt l g htr (z.1 27 6) z _ e7) ?_
      obtain ⟨r8, e8, h⟩ := wpO_bind h
      refine G_callVi (ci := 8) [.int r7] [] K dX8_step_176 wv_789 yd_X8_isFigure (Nat.le_of_ble_eq_true rfl) (sh_27 _ _) rfl (by decide) (by decide) rfl rfl (Nat.le_of_ble_eq_true rfl) (K_Tape_isFigure l g htr r7 z _ e8) ?_
      refine G_ifb_eq (tgt := 195) K dX8_step_179 (by decide) (fun hc => ?_) (fun hc => ?_)
      · have h := wpO_bf h hc
        have h := X156 _ (wpO_some h)
        try dsimp only at h
        exact J195 z h
      · have h := wpO_t h hc
        refine G_aload_n rfl 0 rfl K dX8_step_182 ?_
        refine G_dup rfl K dX8_step_183 ?_
        refine G_get (ci := 8) (k := 6) K rfl in_X8 wd_156 rfl dX8_step_184 (Nat.le_of_ble_eq_true rfl) (sh_27 _ _) (Nat.le_of_ble_eq_true rfl) rfl ?_
        refine G_iconst (v := 1) rfl K dX8_step_187 ?_
        refine G_iadd K dX8_step_188 ?_
        refine G_putI (ci := 8) (k := 6) (ty := .int) K rfl in_X8 tyX8 tyX8_ok nmX8 wd_156 rfl rfl rfl rfl rfl dX8_step_189 (Nat.le_of_ble_eq_true rfl) (sh_27 _ _) (sh_27 _ _) (Nat.le_of_ble_eq_true rfl) (Nat.le_of_ble_eq_true rfl) rfl ?_
        refine G_goto (tgt := 156) K dX8_step_192 (by decide) ?_
        exact E156 (mSI z 27 6 ((z.1 27 6) + 1)) (wpO_some h)
  have J97 : ∀ (M : Mem), wpO (F_Tape_step_l97 M) PHI → GG p l e { frames := 2, cells := 0, slots := 0, locals := 42 } s m args below meth c g 2 (vx_MQ below (Qn g s.heap.size (.inl none) MZ) (QX g s.heap.size (.inl none) MZ) args s 0 0 (AS g s.heap.size)) 0 0 97 [(0, .ref (g.2.1 27))] [] M := by
    intro M h
    unfold F_Tape_step_l97 at h
    refine loop_C1 (G := fun (M : Mem) => GG p l e { frames := 2, cells := 0, slots := 0, locals := 42 } s m args below meth c g 2 (vx_MQ below (Qn g s.heap.size (.inl none) MZ) (QX g s.heap.size (.inl none) MZ) args s 0 0 (AS g s.heap.size)) 0 0 97 [(0, .ref (g.2.1 27))] [] M) (body := F_Tape_step_b97) ?_ FUEL _ (wpO_bind h)
    intro P97 E97 X97
    intro z h
    unfold F_Tape_step_b97 at h
    refine G_aload_n rfl 0 rfl K dX8_step_97 ?_
    refine G_get (ci := 8) (k := 6) K rfl in_X8 wd_156 rfl dX8_step_98 (Nat.le_of_ble_eq_true rfl) (sh_27 _ _) (Nat.le_of_ble_eq_true rfl) rfl ?_
    refine G_aload_n rfl 0 rfl K dX8_step_101 ?_
    refine G_get (ci := 8) (k := 1) K rfl in_X8 wd_149 rfl dX8_step_102 (Nat.le_of_ble_eq_true rfl) (sh_27 _ _) (Nat.le_of_ble_eq_true rfl) rfl ?_
    refine G_icmp_ge (tgt := 264) K dX8_step_105 (by decide) (fun hc => ?_) (fun hc => ?_)
    · have h := wpO_t h hc
      have h := X97 _ (wpO_some h)
      try dsimp only at h
      cases hPHI _ (wpO_some h)
      exact G_vret K hr dX8_step_264 (Nat.le_of_ble_eq_true rfl) (Nat.le_of_ble_eq_true rfl) ⟨rfl, rfl⟩
    · have h := wpO_f h hc
      refine G_aload_n rfl 0 rfl K dX8_step_108 ?_
      refine G_aload_n rfl 0 rfl K dX8_step_109 ?_
      refine G_aload_n rfl 0 rfl K dX8_step_110 ?_
      refine G_get (ci := 8) (k := 6) K rfl in_X8 wd_156 rfl dX8_step_111 (Nat.le_of_ble_eq_true rfl) (sh_27 _ _) (Nat.le_of_ble_eq_true rfl) rfl ?_
      obtain ⟨r9, e9, h⟩ := wpO_bind h
      refine G_callVi (ci := 8) [.int (z.1 27 6)] [.ref (g.2.1 27)] K dX8_step_114 wv_780 yd_X8_byteAt (Nat.le_of_ble_eq_true rfl) (sh_27 _ _) rfl (by decide) (by decide) rfl rfl (Nat.le_of_ble_eq_true rfl) (K_Tape_byteAt l g htr (z.1 27 6) z _ e9) ?_
      obtain ⟨r10, e10, h⟩ := wpO_bind h
      refine G_callVi (ci := 8) [.int r9] [] K dX8_step_117 wv_785 yd_X8_isLetter (Nat.le_of_ble_eq_true rfl) (sh_27 _ _) rfl (by decide) (by decide) rfl rfl (Nat.le_of_ble_eq_true rfl) (K_Tape_isLetter l g htr r9 z _ e10) ?_
      refine G_ifb_eq (tgt := 264) K dX8_step_120 (by decide) (fun hc => ?_) (fun hc => ?_)
      · have h := wpO_bf h hc
        have h := X97 _ (wpO_some h)
        try dsimp only at h
        cases hPHI _ (wpO_some h)
        exact G_vret K hr dX8_step_264 (Nat.le_of_ble_eq_true rfl) (Nat.le_of_ble_eq_true rfl) ⟨rfl, rfl⟩
      · have h := wpO_t h hc
        refine G_aload_n rfl 0 rfl K dX8_step_123 ?_
        refine G_dup rfl K dX8_step_124 ?_
        refine G_get (ci := 8) (k := 6) K rfl in_X8 wd_156 rfl dX8_step_125 (Nat.le_of_ble_eq_true rfl) (sh_27 _ _) (Nat.le_of_ble_eq_true rfl) rfl ?_
        refine G_iconst (v := 1) rfl K dX8_step_128 ?_
        refine G_iadd K dX8_step_129 ?_
        refine G_putI (ci := 8) (k := 6) (ty := .int) K rfl in_X8 tyX8 tyX8_ok nmX8 wd_156 rfl rfl rfl rfl rfl dX8_step_130 (Nat.le_of_ble_eq_true rfl) (sh_27 _ _) (sh_27 _ _) (Nat.le_of_ble_eq_true rfl) (Nat.le_of_ble_eq_true rfl) rfl ?_
        refine G_goto (tgt := 97) K dX8_step_133 (by decide) ?_
        exact E97 (mSI z 27 6 ((z.1 27 6) + 1)) (wpO_some h)
  have J45 : ∀ (M : Mem), wpO (F_Tape_step_j45 M) PHI → GG p l e { frames := 2, cells := 0, slots := 0, locals := 42 } s m args below meth c g 2 (vx_MQ below (Qn g s.heap.size (.inl none) MZ) (QX g s.heap.size (.inl none) MZ) args s 0 0 (AS g s.heap.size)) 0 0 45 [(0, .ref (g.2.1 27))] [] M := by
    intro M h
    unfold F_Tape_step_j45 at h
    refine G_aload_n rfl 0 rfl K dX8_step_45 ?_
    refine G_aload_n rfl 0 rfl K dX8_step_46 ?_
    refine G_get (ci := 8) (k := 5) K rfl in_X8 wd_155 rfl dX8_step_47 (Nat.le_of_ble_eq_true rfl) (sh_27 _ _) (Nat.le_of_ble_eq_true rfl) rfl ?_
    refine G_putI (ci := 8) (k := 6) (ty := .int) K rfl in_X8 tyX8 tyX8_ok nmX8 wd_156 rfl rfl rfl rfl rfl dX8_step_50 (Nat.le_of_ble_eq_true rfl) (sh_27 _ _) (sh_27 _ _) (Nat.le_of_ble_eq_true rfl) (Nat.le_of_ble_eq_true rfl) rfl ?_
    refine G_aload_n rfl 0 rfl K dX8_step_53 ?_
    refine G_iconst (v := (-1)) rfl K dX8_step_54 ?_
    refine G_putI (ci := 8) (k := 7) (ty := .int) K rfl in_X8 tyX8 tyX8_ok nmX8 wd_157 rfl rfl rfl rfl rfl dX8_step_55 (Nat.le_of_ble_eq_true rfl) (sh_27 _ _) (sh_27 _ _) (Nat.le_of_ble_eq_true rfl) (Nat.le_of_ble_eq_true rfl) rfl ?_
    refine G_aload_n rfl 0 rfl K dX8_step_58 ?_
    refine G_get (ci := 8) (k := 5) K rfl in_X8 wd_155 rfl dX8_step_59 (Nat.le_of_ble_eq_true rfl) (sh_27 _ _) (Nat.le_of_ble_eq_true rfl) rfl ?_
    refine G_aload_n rfl 0 rfl K dX8_step_62 ?_
    refine G_get (ci := 8) (k := 1) K rfl in_X8 wd_149 rfl dX8_step_63 (Nat.le_of_ble_eq_true rfl) (sh_27 _ _) (Nat.le_of_ble_eq_true rfl) rfl ?_
    refine G_icmp_lt (tgt := 77) K dX8_step_66 (by decide) (fun hc => ?_) (fun hc => ?_)
    · have h := wpO_t h hc
      refine G_aload_n rfl 0 rfl K dX8_step_77 ?_
      refine G_aload_n rfl 0 rfl K dX8_step_78 ?_
      refine G_aload_n rfl 0 rfl K dX8_step_79 ?_
      refine G_get (ci := 8) (k := 5) K rfl in_X8 wd_155 rfl dX8_step_80 (Nat.le_of_ble_eq_true rfl) (sh_27 _ _) (Nat.le_of_ble_eq_true rfl) rfl ?_
      obtain ⟨r1, e1, h⟩ := wpO_bind h
      refine G_callVi (ci := 8) [.int ((mSI (mSI M 27 6 (M.1 27 5)) 27 7 ((-1))).1 27 5)] [.ref (g.2.1 27)] K dX8_step_83 wv_780 yd_X8_byteAt (Nat.le_of_ble_eq_true rfl) (sh_27 _ _) rfl (by decide) (by decide) rfl rfl (Nat.le_of_ble_eq_true rfl) (K_Tape_byteAt l g htr ((mSI (mSI M 27 6 (M.1 27 5)) 27 7 ((-1))).1 27 5) (mSI (mSI M 27 6 (M.1 27 5)) 27 7 ((-1))) _ e1) ?_
      obtain ⟨r2, e2, h⟩ := wpO_bind h
      refine G_callVi (ci := 8) [.int r1] [] K dX8_step_86 wv_785 yd_X8_isLetter (Nat.le_of_ble_eq_true rfl) (sh_27 _ _) rfl (by decide) (by decide) rfl rfl (Nat.le_of_ble_eq_true rfl) (K_Tape_isLetter l g htr r1 (mSI (mSI M 27 6 (M.1 27 5)) 27 7 ((-1))) _ e2) ?_
      refine G_ifb_eq (tgt := 136) K dX8_step_89 (by decide) (fun hc => ?_) (fun hc => ?_)
      · have h := wpO_bf h hc
        refine G_aload_n rfl 0 rfl K dX8_step_136 ?_
        refine G_aload_n rfl 0 rfl K dX8_step_137 ?_
        refine G_aload_n rfl 0 rfl K dX8_step_138 ?_
        refine G_get (ci := 8) (k := 5) K rfl in_X8 wd_155 rfl dX8_step_139 (Nat.le_of_ble_eq_true rfl) (sh_27 _ _) (Nat.le_of_ble_eq_true rfl) rfl ?_
        obtain ⟨r3, e3, h⟩ := wpO_bind h
        refine G_callVi (ci := 8) [.int ((mSI (mSI M 27 6 (M.1 27 5)) 27 7 ((-1))).1 27 5)] [.ref (g.2.1 27)] K dX8_step_142 wv_780 yd_X8_byteAt (Nat.le_of_ble_eq_true rfl) (sh_27 _ _) rfl (by decide) (by decide) rfl rfl (Nat.le_of_ble_eq_true rfl) (K_Tape_byteAt l g htr ((mSI (mSI M 27 6 (M.1 27 5)) 27 7 ((-1))).1 27 5) (mSI (mSI M 27 6 (M.1 27 5)) 27 7 ((-1))) _ e3) ?_
        obtain ⟨r4, e4, h⟩ := wpO_bind h
        refine G_callVi (ci := 8) [.int r3] [] K dX8_step_145 wv_789 yd_X8_isFigure (Nat.le_of_ble_eq_true rfl) (sh_27 _ _) rfl (by decide) (by decide) rfl rfl (Nat.le_of_ble_eq_true rfl) (K_Tape_isFigure l g htr r3 (mSI (mSI M 27 6 (M.1 27 5)) 27 7 ((-1))) _ e4) ?_
        refine G_ifb_eq (tgt := 237) K dX8_step_148 (by decide) (fun hc => ?_) (fun hc => ?_)
        · have h := wpO_bf h hc
          refine G_aload_n rfl 0 rfl K dX8_step_237 ?_
          refine G_iconst (v := 3) rfl K dX8_step_238 ?_
          refine G_putI (ci := 8) (k := 4) (ty := .int) K rfl in_X8 tyX8 tyX8_ok nmX8 wd_154 rfl rfl rfl rfl rfl dX8_step_239 (Nat.le_of_ble_eq_true rfl) (sh_27 _ _) (sh_27 _ _) (Nat.le_of_ble_eq_true rfl) (Nat.le_of_ble_eq_true rfl) rfl ?_
          refine G_aload_n rfl 0 rfl K dX8_step_242 ?_
          refine G_aload_n rfl 0 rfl K dX8_step_243 ?_
          refine G_aload_n rfl 0 rfl K dX8_step_244 ?_
          refine G_get (ci := 8) (k := 5) K rfl in_X8 wd_155 rfl dX8_step_245 (Nat.le_of_ble_eq_true rfl) (sh_27 _ _) (Nat.le_of_ble_eq_true rfl) rfl ?_
          obtain ⟨r5, e5, h⟩ := wpO_bind h
          refine G_callVi (ci := 8) [.int ((mSI (mSI (mSI M 27 6 (M.1 27 5)) 27 7 ((-1))) 27 4 3).1 27 5)] [.ref (g.2.1 27)] K dX8_step_248 wv_780 yd_X8_byteAt (Nat.le_of_ble_eq_true rfl) (sh_27 _ _) rfl (by decide) (by decide) rfl rfl (Nat.le_of_ble_eq_true rfl) (K_Tape_byteAt l g htr ((mSI (mSI (mSI M 27 6 (M.1 27 5)) 27 7 ((-1))) 27 4 3).1 27 5) (mSI (mSI (mSI M 27 6 (M.1 27 5)) 27 7 ((-1))) 27 4 3) _ e5) ?_
          refine G_putI (ci := 8) (k := 7) (ty := .int) K rfl in_X8 tyX8 tyX8_ok nmX8 wd_157 rfl rfl rfl rfl rfl dX8_step_251 (Nat.le_of_ble_eq_true rfl) (sh_27 _ _) (sh_27 _ _) (Nat.le_of_ble_eq_true rfl) (Nat.le_of_ble_eq_true rfl) rfl ?_
          refine G_aload_n rfl 0 rfl K dX8_step_254 ?_
          refine G_dup rfl K dX8_step_255 ?_
          refine G_get (ci := 8) (k := 6) K rfl in_X8 wd_156 rfl dX8_step_256 (Nat.le_of_ble_eq_true rfl) (sh_27 _ _) (Nat.le_of_ble_eq_true rfl) rfl ?_
          refine G_iconst (v := 1) rfl K dX8_step_259 ?_
          refine G_iadd K dX8_step_260 ?_
          refine G_putI (ci := 8) (k := 6) (ty := .int) K rfl in_X8 tyX8 tyX8_ok nmX8 wd_156 rfl rfl rfl rfl rfl dX8_step_261 (Nat.le_of_ble_eq_true rfl) (sh_27 _ _) (sh_27 _ _) (Nat.le_of_ble_eq_true rfl) (Nat.le_of_ble_eq_true rfl) rfl ?_
          cases hPHI _ (wpO_some h)
          exact G_vret K hr dX8_step_264 (Nat.le_of_ble_eq_true rfl) (Nat.le_of_ble_eq_true rfl) ⟨rfl, rfl⟩
        · have h := wpO_t h hc
          refine G_aload_n rfl 0 rfl K dX8_step_151 ?_
          refine G_iconst (v := 2) rfl K dX8_step_152 ?_
          refine G_putI (ci := 8) (k := 4) (ty := .int) K rfl in_X8 tyX8 tyX8_ok nmX8 wd_154 rfl rfl rfl rfl rfl dX8_step_153 (Nat.le_of_ble_eq_true rfl) (sh_27 _ _) (sh_27 _ _) (Nat.le_of_ble_eq_true rfl) (Nat.le_of_ble_eq_true rfl) rfl ?_
          exact J156 (mSI (mSI (mSI M 27 6 (M.1 27 5)) 27 7 ((-1))) 27 4 2) h
      · have h := wpO_t h hc
        refine G_aload_n rfl 0 rfl K dX8_step_92 ?_
        refine G_iconst (v := 1) rfl K dX8_step_93 ?_
        refine G_putI (ci := 8) (k := 4) (ty := .int) K rfl in_X8 tyX8 tyX8_ok nmX8 wd_154 rfl rfl rfl rfl rfl dX8_step_94 (Nat.le_of_ble_eq_true rfl) (sh_27 _ _) (sh_27 _ _) (Nat.le_of_ble_eq_true rfl) (Nat.le_of_ble_eq_true rfl) rfl ?_
        exact J97 (mSI (mSI (mSI M 27 6 (M.1 27 5)) 27 7 ((-1))) 27 4 1) h
    · have h := wpO_f h hc
      refine G_aload_n rfl 0 rfl K dX8_step_69 ?_
      refine G_iconst (v := 0) rfl K dX8_step_70 ?_
      refine G_putI (ci := 8) (k := 4) (ty := .int) K rfl in_X8 tyX8 tyX8_ok nmX8 wd_154 rfl rfl rfl rfl rfl dX8_step_71 (Nat.le_of_ble_eq_true rfl) (sh_27 _ _) (sh_27 _ _) (Nat.le_of_ble_eq_true rfl) (Nat.le_of_ble_eq_true rfl) rfl ?_
      refine G_goto (tgt := 264) K dX8_step_74 (by decide) ?_
      cases hPHI _ (wpO_some h)
      exact G_vret K hr dX8_step_264 (Nat.le_of_ble_eq_true rfl) (Nat.le_of_ble_eq_true rfl) ⟨rfl, rfl⟩
  have J8 : ∀ (M : Mem), wpO (F_Tape_step_l8 M) PHI → GG p l e { frames := 2, cells := 0, slots := 0, locals := 42 } s m args below meth c g 2 (vx_MQ below (Qn g s.heap.size (.inl none) MZ) (QX g s.heap.size (.inl none) MZ) args s 0 0 (AS g s.heap.size)) 0 0 8 [(0, .ref (g.2.1 27))] [] M := by
    intro M h
    unfold F_Tape_step_l8 at h
    refine loop_C1 (G := fun (M : Mem) => GG p l e { frames := 2, cells := 0, slots := 0, locals := 42 } s m args below meth c g 2 (vx_MQ below (Qn g s.heap.size (.inl none) MZ) (QX g s.heap.size (.inl none) MZ) args s 0 0 (AS g s.heap.size)) 0 0 8 [(0, .ref (g.2.1 27))] [] M) (body := F_Tape_step_b8) ?_ FUEL _ (wpO_bind h)
    intro P8 E8 X8
    intro z h
    unfold F_Tape_step_b8 at h
    refine G_aload_n rfl 0 rfl K dX8_step_8 ?_
    refine G_get (ci := 8) (k := 5) K rfl in_X8 wd_155 rfl dX8_step_9 (Nat.le_of_ble_eq_true rfl) (sh_27 _ _) (Nat.le_of_ble_eq_true rfl) rfl ?_
    refine G_aload_n rfl 0 rfl K dX8_step_12 ?_
    refine G_get (ci := 8) (k := 1) K rfl in_X8 wd_149 rfl dX8_step_13 (Nat.le_of_ble_eq_true rfl) (sh_27 _ _) (Nat.le_of_ble_eq_true rfl) rfl ?_
    refine G_icmp_ge (tgt := 45) K dX8_step_16 (by decide) (fun hc => ?_) (fun hc => ?_)
    · have h := wpO_t h hc
      have h := X8 _ (wpO_some h)
      try dsimp only at h
      exact J45 z h
    · have h := wpO_f h hc
      refine G_aload_n rfl 0 rfl K dX8_step_19 ?_
      refine G_aload_n rfl 0 rfl K dX8_step_20 ?_
      refine G_get (ci := 8) (k := 5) K rfl in_X8 wd_155 rfl dX8_step_21 (Nat.le_of_ble_eq_true rfl) (sh_27 _ _) (Nat.le_of_ble_eq_true rfl) rfl ?_
      obtain ⟨r11, e11, h⟩ := wpO_bind h
      refine G_callVi (ci := 8) [.int (z.1 27 5)] [] K dX8_step_24 wv_780 yd_X8_byteAt (Nat.le_of_ble_eq_true rfl) (sh_27 _ _) rfl (by decide) (by decide) rfl rfl (Nat.le_of_ble_eq_true rfl) (K_Tape_byteAt l g htr (z.1 27 5) z _ e11) ?_
      refine G_bipush (v := 32) rfl K dX8_step_27 ?_
      refine G_icmp_ne (tgt := 45) K dX8_step_29 (by decide) (fun hc => ?_) (fun hc => ?_)
      · have h := wpO_f h hc
        have h := X8 _ (wpO_some h)
        try dsimp only at h
        exact J45 z h
      · have h := wpO_t h hc
        refine G_aload_n rfl 0 rfl K dX8_step_32 ?_
        refine G_dup rfl K dX8_step_33 ?_
        refine G_get (ci := 8) (k := 5) K rfl in_X8 wd_155 rfl dX8_step_34 (Nat.le_of_ble_eq_true rfl) (sh_27 _ _) (Nat.le_of_ble_eq_true rfl) rfl ?_
        refine G_iconst (v := 1) rfl K dX8_step_37 ?_
        refine G_iadd K dX8_step_38 ?_
        refine G_putI (ci := 8) (k := 5) (ty := .int) K rfl in_X8 tyX8 tyX8_ok nmX8 wd_155 rfl rfl rfl rfl rfl dX8_step_39 (Nat.le_of_ble_eq_true rfl) (sh_27 _ _) (sh_27 _ _) (Nat.le_of_ble_eq_true rfl) (Nat.le_of_ble_eq_true rfl) rfl ?_
        refine G_goto (tgt := 8) K dX8_step_42 (by decide) ?_
        exact E8 (mSI z 27 5 ((z.1 27 5) + 1)) (wpO_some h)
  unfold F_Tape_step at h
  refine G_aload_n rfl 0 rfl K dX8_step_0 ?_
  refine G_aload_n rfl 0 rfl K dX8_step_1 ?_
  refine G_get (ci := 8) (k := 6) K rfl in_X8 wd_156 rfl dX8_step_2 (Nat.le_of_ble_eq_true rfl) (sh_27 _ _) (Nat.le_of_ble_eq_true rfl) rfl ?_
  refine G_putI (ci := 8) (k := 5) (ty := .int) K rfl in_X8 tyX8 tyX8_ok nmX8 wd_155 rfl rfl rfl rfl rfl dX8_step_5 (Nat.le_of_ble_eq_true rfl) (sh_27 _ _) (sh_27 _ _) (Nat.le_of_ble_eq_true rfl) (Nat.le_of_ble_eq_true rfl) rfl ?_
  exact J8 (mSI M 27 5 (M.1 27 6)) h
theorem wv_802 : wdV "KeptWell$Tape" 101 yJ0_length_8abf5 cJ0_length_8abf5 1 (some .int) := ⟨wd_802, wd_803, wd_804, wd_20, wd_805⟩
theorem wv_812 : wdV "KeptWell$Tape" 106 yJ0_charAt_5068e cJ0_charAt_5068e 2 (some .char) := ⟨wd_812, wd_813, wd_814, wd_20, wd_815⟩
def on_X8_isWord : Nat := 0xac04e1ffa7010284ac0305009f6a00b61c2b3400b6601c2300b42a2a1d00a26500b62b1c3d03ac0305009f6500b62b642300b42a2600b42a1300a0042000b42a
theorem ob_X8_isWord : OKB cX8_isWord on_X8_isWord 64 := ⟨by decide +kernel, by decide +kernel⟩
theorem dX8_isWord_0 : dc cX8_isWord 0 1 (.aload_n 0) 1 := o_42 ob_X8_isWord rfl rfl rfl
theorem dX8_isWord_1 : dc cX8_isWord 1 4 (.getfield 32) 3 := o_180 ob_X8_isWord rfl rfl rfl rfl
theorem dX8_isWord_4 : dc cX8_isWord 4 5 (.iconst 1) 1 := o_4 ob_X8_isWord rfl rfl rfl
theorem dX8_isWord_5 : dc cX8_isWord 5 8 (.if_icmp .ne 19) 3 := o_160 ob_X8_isWord rfl rfl rfl rfl
theorem dX8_isWord_8 : dc cX8_isWord 8 9 (.aload_n 0) 1 := o_42 ob_X8_isWord rfl rfl rfl
theorem dX8_isWord_9 : dc cX8_isWord 9 12 (.getfield 38) 3 := o_180 ob_X8_isWord rfl rfl rfl rfl
theorem dX8_isWord_12 : dc cX8_isWord 12 13 (.aload_n 0) 1 := o_42 ob_X8_isWord rfl rfl rfl
theorem dX8_isWord_13 : dc cX8_isWord 13 16 (.getfield 35) 3 := o_180 ob_X8_isWord rfl rfl rfl rfl
theorem dX8_isWord_16 : dc cX8_isWord 16 17 .isub 1 := o_100 ob_X8_isWord rfl rfl rfl
theorem dX8_isWord_17 : dc cX8_isWord 17 18 (.aload_n 1) 1 := o_43 ob_X8_isWord rfl rfl rfl
theorem dX8_isWord_18 : dc cX8_isWord 18 21 (.invokevirtual 101) 3 := o_182 ob_X8_isWord rfl rfl rfl rfl
theorem dX8_isWord_21 : dc cX8_isWord 21 24 (.if_icmp .eq 5) 3 := o_159 ob_X8_isWord rfl rfl rfl rfl
theorem dX8_isWord_24 : dc cX8_isWord 24 25 (.iconst 0) 1 := o_3 ob_X8_isWord rfl rfl rfl
theorem dX8_isWord_25 : dc cX8_isWord 25 26 .ireturn 1 := o_172 ob_X8_isWord rfl rfl rfl
theorem dX8_isWord_26 : dc cX8_isWord 26 27 (.iconst 0) 1 := o_3 ob_X8_isWord rfl rfl rfl
theorem dX8_isWord_27 : dc cX8_isWord 27 28 (.istore_n 2) 1 := o_61 ob_X8_isWord rfl rfl rfl
theorem dX8_isWord_28 : dc cX8_isWord 28 29 (.iload_n 2) 1 := o_28 ob_X8_isWord rfl rfl rfl
theorem dX8_isWord_29 : dc cX8_isWord 29 30 (.aload_n 1) 1 := o_43 ob_X8_isWord rfl rfl rfl
theorem dX8_isWord_30 : dc cX8_isWord 30 33 (.invokevirtual 101) 3 := o_182 ob_X8_isWord rfl rfl rfl rfl
theorem dX8_isWord_33 : dc cX8_isWord 33 36 (.if_icmp .ge 29) 3 := o_162 ob_X8_isWord rfl rfl rfl rfl
theorem dX8_isWord_36 : dc cX8_isWord 36 37 (.aload_n 0) 1 := o_42 ob_X8_isWord rfl rfl rfl
theorem dX8_isWord_37 : dc cX8_isWord 37 38 (.aload_n 0) 1 := o_42 ob_X8_isWord rfl rfl rfl
theorem dX8_isWord_38 : dc cX8_isWord 38 41 (.getfield 35) 3 := o_180 ob_X8_isWord rfl rfl rfl rfl
theorem dX8_isWord_41 : dc cX8_isWord 41 42 (.iload_n 2) 1 := o_28 ob_X8_isWord rfl rfl rfl
theorem dX8_isWord_42 : dc cX8_isWord 42 43 .iadd 1 := o_96 ob_X8_isWord rfl rfl rfl
theorem dX8_isWord_43 : dc cX8_isWord 43 46 (.invokevirtual 52) 3 := o_182 ob_X8_isWord rfl rfl rfl rfl
theorem dX8_isWord_46 : dc cX8_isWord 46 47 (.aload_n 1) 1 := o_43 ob_X8_isWord rfl rfl rfl
theorem dX8_isWord_47 : dc cX8_isWord 47 48 (.iload_n 2) 1 := o_28 ob_X8_isWord rfl rfl rfl
theorem dX8_isWord_48 : dc cX8_isWord 48 51 (.invokevirtual 106) 3 := o_182 ob_X8_isWord rfl rfl rfl rfl
theorem dX8_isWord_51 : dc cX8_isWord 51 54 (.if_icmp .eq 5) 3 := o_159 ob_X8_isWord rfl rfl rfl rfl
theorem dX8_isWord_54 : dc cX8_isWord 54 55 (.iconst 0) 1 := o_3 ob_X8_isWord rfl rfl rfl
theorem dX8_isWord_55 : dc cX8_isWord 55 56 .ireturn 1 := o_172 ob_X8_isWord rfl rfl rfl
theorem dX8_isWord_56 : dc cX8_isWord 56 59 (.iinc 2 1) 3 := o_132 ob_X8_isWord rfl rfl rfl rfl rfl
theorem dX8_isWord_59 : dc cX8_isWord 59 62 (.goto (-31)) 3 := o_167 ob_X8_isWord rfl rfl rfl rfl
theorem dX8_isWord_62 : dc cX8_isWord 62 63 (.iconst 1) 1 := o_4 ob_X8_isWord rfl rfl rfl
theorem dX8_isWord_63 : dc cX8_isWord 63 64 .ireturn 1 := o_172 ob_X8_isWord rfl rfl rfl
def F_Tape_isWord_b28 (o1w : Nat) (M : Mem) (z : Int32) : Option ((Int32) ⊕ ((Unit) ⊕ ((Unit)))) :=
  (F_String_length o1w M).bind fun r2 => if r2 ≤ z then some (.inr (.inr (()))) else (F_Tape_byteAt ((M.1 27 5) + z) M).bind fun r3 => (F_String_charAt o1w z M).bind fun r4 => if r3 = r4 then some (.inl (z + 1)) else some (.inr (.inl (())))
def F_Tape_isWord_l28 (o1w : Nat) (x2 : Int32) (M : Mem) : Option (Bool) :=
  (iter (F_Tape_isWord_b28 o1w M) FUEL x2).bind fun q => match q with
    | .inl r => some false
    | .inr r => some true
def F_Tape_isWord (o1w : Nat) (M : Mem) : Option (Bool) :=
  if (M.1 27 4) = 1 then (F_String_length o1w M).bind fun r1 => if ((M.1 27 6) - (M.1 27 5)) = r1 then F_Tape_isWord_l28 o1w 0 M else some false else some false
set_option maxRecDepth 100000 in
set_option maxHeartbeats 4000000 in
theorem K_Tape_isWord (l : Launch) (g : GB) (htr : l.stackTraces = false) (o1b o1w : Nat) (ho1 : isStr o1b o1w) (M : Mem) (rr : Bool) (h : F_Tape_isWord o1w M = some rr) : CT l g yX8_isWord (.code yX8_isWord cX8_isWord 3 (some .boolean) :: wAll) { frames := 4, cells := 0, slots := 0, locals := 85 } [.ref (g.2.1 27), .ref (g.2.1 ((NC + o1b + o1w)))] M (.inl (some (.int (b2i rr)))) M := by
  refine CT.of [(0, .ref (g.2.1 27)), (1, .ref (g.2.1 ((NC + o1b + o1w))))] (by decide +kernel) (Nat.le_of_ble_eq_true rfl) rfl htr ?_
  intro p e s m args below meth c K hr ht
  skip
  obtain ⟨PHI, hPHI, h⟩ : ∃ PHI : Bool → Prop, (∀ a, PHI a → a = rr) ∧ wpO (F_Tape_isWord o1w M) PHI := ⟨fun a => a = rr, fun _ h => h, _, h, rfl⟩
  have J28 : ∀ (x2 : Int32), wpO (F_Tape_isWord_l28 o1w x2 M) PHI → GG p l e { frames := 4, cells := 0, slots := 0, locals := 85 } s m args below meth c g 3 (vx_MQ below (Qn g s.heap.size (.inl (some (.int (b2i rr)))) M) (QX g s.heap.size (.inl (some (.int (b2i rr)))) M) args s 0 0 (AS g s.heap.size)) 0 0 28 [(0, .ref (g.2.1 27)), (1, .ref (g.2.1 ((NC + o1b + o1w)))), (2, .int x2)] [] M := by
    intro x2 h
    unfold F_Tape_isWord_l28 at h
    refine loop_C1 (G := fun (x2 : Int32) => GG p l e { frames := 4, cells := 0, slots := 0, locals := 85 } s m args below meth c g 3 (vx_MQ below (Qn g s.heap.size (.inl (some (.int (b2i rr)))) M) (QX g s.heap.size (.inl (some (.int (b2i rr)))) M) args s 0 0 (AS g s.heap.size)) 0 0 28 [(0, .ref (g.2.1 27)), (1, .ref (g.2.1 ((NC + o1b + o1w)))), (2, .int x2)] [] M) (body := F_Tape_isWord_b28 o1w M) ?_ FUEL _ (wpO_bind h)
    intro P28 E28 X28
    intro z h
    unfold F_Tape_isWord_b28 at h
    refine G_iload_n rfl 2 rfl K dX8_isWord_28 ?_
    refine G_aload_n rfl 1 rfl K dX8_isWord_29 ?_
    obtain ⟨r2, e2, h⟩ := wpO_bind h
    refine G_callO [] [.int z] K dX8_isWord_30 wv_802 yd_J0_length_8abf5 (fun H locs hS => str_recv ho1 K.2.1.2.2 hS) (by decide) (by decide) rfl rfl (Nat.le_of_ble_eq_true rfl) (K_String_length l g htr o1b o1w ho1 M _ e2) ?_
    refine G_icmp_ge (tgt := 62) K dX8_isWord_33 (by decide) (fun hc => ?_) (fun hc => ?_)
    · have h := wpO_t h hc
      have h := X28 _ (wpO_some h)
      try dsimp only at h
      refine G_iconst (v := 1) rfl K dX8_isWord_62 ?_
      cases hPHI _ (wpO_some h)
      exact G_iret K hr rfl dX8_isWord_63 (Nat.le_of_ble_eq_true rfl) (Nat.le_of_ble_eq_true rfl) ⟨rfl, rfl⟩
    · have h := wpO_f h hc
      refine G_aload_n rfl 0 rfl K dX8_isWord_36 ?_
      refine G_aload_n rfl 0 rfl K dX8_isWord_37 ?_
      refine G_get (ci := 8) (k := 5) K rfl in_X8 wd_155 rfl dX8_isWord_38 (Nat.le_of_ble_eq_true rfl) (sh_27 _ _) (Nat.le_of_ble_eq_true rfl) rfl ?_
      refine G_iload_n rfl 2 rfl K dX8_isWord_41 ?_
      refine G_iadd K dX8_isWord_42 ?_
      obtain ⟨r3, e3, h⟩ := wpO_bind h
      refine G_callVi (ci := 8) [.int ((M.1 27 5) + z)] [] K dX8_isWord_43 wv_780 yd_X8_byteAt (Nat.le_of_ble_eq_true rfl) (sh_27 _ _) rfl (by decide) (by decide) rfl rfl (Nat.le_of_ble_eq_true rfl) (K_Tape_byteAt l g htr ((M.1 27 5) + z) M _ e3) ?_
      refine G_aload_n rfl 1 rfl K dX8_isWord_46 ?_
      refine G_iload_n rfl 2 rfl K dX8_isWord_47 ?_
      obtain ⟨r4, e4, h⟩ := wpO_bind h
      refine G_callO [.int z] [.int r3] K dX8_isWord_48 wv_812 yd_J0_charAt_5068e (fun H locs hS => str_recv ho1 K.2.1.2.2 hS) (by decide) (by decide) rfl rfl (Nat.le_of_ble_eq_true rfl) (K_String_charAt l g htr o1b o1w ho1 z M _ e4) ?_
      refine G_icmp_eq (tgt := 56) K dX8_isWord_51 (by decide) (fun hc => ?_) (fun hc => ?_)
      · have h := wpO_t h hc
        refine G_iinc (v := z + 1) 2 rfl K dX8_isWord_56 rfl (Nat.le_of_ble_eq_true rfl) rfl ?_
        refine G_goto (tgt := 28) K dX8_isWord_59 (by decide) ?_
        exact G_lv (lv' := [(0, .ref (g.2.1 27)), (1, .ref (g.2.1 ((NC + o1b + o1w)))), (2, .int (z + 1))]) [1, 2, 0] rfl (E28 (z + 1) (wpO_some h))
      · have h := wpO_f h hc
        have h := X28 _ (wpO_some h)
        try dsimp only at h
        refine G_iconst (v := 0) rfl K dX8_isWord_54 ?_
        cases hPHI _ (wpO_some h)
        exact G_iret K hr rfl dX8_isWord_55 (Nat.le_of_ble_eq_true rfl) (Nat.le_of_ble_eq_true rfl) ⟨rfl, rfl⟩
  unfold F_Tape_isWord at h
  refine G_aload_n rfl 0 rfl K dX8_isWord_0 ?_
  refine G_get (ci := 8) (k := 4) K rfl in_X8 wd_154 rfl dX8_isWord_1 (Nat.le_of_ble_eq_true rfl) (sh_27 _ _) (Nat.le_of_ble_eq_true rfl) rfl ?_
  refine G_iconst (v := 1) rfl K dX8_isWord_4 ?_
  refine G_icmp_ne (tgt := 24) K dX8_isWord_5 (by decide) (fun hc => ?_) (fun hc => ?_)
  · have h := wpO_f h hc
    refine G_iconst (v := 0) rfl K dX8_isWord_24 ?_
    cases hPHI _ (wpO_some h)
    exact G_iret K hr rfl dX8_isWord_25 (Nat.le_of_ble_eq_true rfl) (Nat.le_of_ble_eq_true rfl) ⟨rfl, rfl⟩
  · have h := wpO_t h hc
    refine G_aload_n rfl 0 rfl K dX8_isWord_8 ?_
    refine G_get (ci := 8) (k := 6) K rfl in_X8 wd_156 rfl dX8_isWord_9 (Nat.le_of_ble_eq_true rfl) (sh_27 _ _) (Nat.le_of_ble_eq_true rfl) rfl ?_
    refine G_aload_n rfl 0 rfl K dX8_isWord_12 ?_
    refine G_get (ci := 8) (k := 5) K rfl in_X8 wd_155 rfl dX8_isWord_13 (Nat.le_of_ble_eq_true rfl) (sh_27 _ _) (Nat.le_of_ble_eq_true rfl) rfl ?_
    refine G_isub K dX8_isWord_16 ?_
    refine G_aload_n rfl 1 rfl K dX8_isWord_17 ?_
    obtain ⟨r1, e1, h⟩ := wpO_bind h
    refine G_callO [] [.int ((M.1 27 6) - (M.1 27 5))] K dX8_isWord_18 wv_802 yd_J0_length_8abf5 (fun H locs hS => str_recv ho1 K.2.1.2.2 hS) (by decide) (by decide) rfl rfl (Nat.le_of_ble_eq_true rfl) (K_String_length l g htr o1b o1w ho1 M _ e1) ?_
    refine G_icmp_eq (tgt := 26) K dX8_isWord_21 (by decide) (fun hc => ?_) (fun hc => ?_)
    · have h := wpO_t h hc
      refine G_iconst (v := 0) rfl K dX8_isWord_26 ?_
      refine G_istore_n rfl K dX8_isWord_27 (Nat.le_of_ble_eq_true rfl) rfl ?_
      exact G_lv (lv' := [(0, .ref (g.2.1 27)), (1, .ref (g.2.1 ((NC + o1b + o1w)))), (2, .int 0)]) [1, 2, 0] rfl (J28 0 h)
    · have h := wpO_f h hc
      refine G_iconst (v := 0) rfl K dX8_isWord_24 ?_
      cases hPHI _ (wpO_some h)
      exact G_iret K hr rfl dX8_isWord_25 (Nat.le_of_ble_eq_true rfl) (Nat.le_of_ble_eq_true rfl) ⟨rfl, rfl⟩
def on_X8_isNumber : Nat := 0xac030400a70407009f022900b42a0f00a0052000b42a
theorem ob_X8_isNumber : OKB cX8_isNumber on_X8_isNumber 22 := ⟨by decide +kernel, by decide +kernel⟩
theorem dX8_isNumber_0 : dc cX8_isNumber 0 1 (.aload_n 0) 1 := o_42 ob_X8_isNumber rfl rfl rfl
theorem dX8_isNumber_1 : dc cX8_isNumber 1 4 (.getfield 32) 3 := o_180 ob_X8_isNumber rfl rfl rfl rfl
theorem dX8_isNumber_4 : dc cX8_isNumber 4 5 (.iconst 2) 1 := o_5 ob_X8_isNumber rfl rfl rfl
theorem dX8_isNumber_5 : dc cX8_isNumber 5 8 (.if_icmp .ne 15) 3 := o_160 ob_X8_isNumber rfl rfl rfl rfl
theorem dX8_isNumber_8 : dc cX8_isNumber 8 9 (.aload_n 0) 1 := o_42 ob_X8_isNumber rfl rfl rfl
theorem dX8_isNumber_9 : dc cX8_isNumber 9 12 (.getfield 41) 3 := o_180 ob_X8_isNumber rfl rfl rfl rfl
theorem dX8_isNumber_12 : dc cX8_isNumber 12 13 (.iconst (-1)) 1 := o_2 ob_X8_isNumber rfl rfl rfl
theorem dX8_isNumber_13 : dc cX8_isNumber 13 16 (.if_icmp .eq 7) 3 := o_159 ob_X8_isNumber rfl rfl rfl rfl
theorem dX8_isNumber_16 : dc cX8_isNumber 16 17 (.iconst 1) 1 := o_4 ob_X8_isNumber rfl rfl rfl
theorem dX8_isNumber_17 : dc cX8_isNumber 17 20 (.goto 4) 3 := o_167 ob_X8_isNumber rfl rfl rfl rfl
theorem dX8_isNumber_20 : dc cX8_isNumber 20 21 (.iconst 0) 1 := o_3 ob_X8_isNumber rfl rfl rfl
theorem dX8_isNumber_21 : dc cX8_isNumber 21 22 .ireturn 1 := o_172 ob_X8_isNumber rfl rfl rfl
def F_Tape_isNumber (M : Mem) : Option (Bool) :=
  if (M.1 27 4) = 2 then if (M.1 27 7) = ((-1)) then some false else some true else some false
set_option maxRecDepth 100000 in
set_option maxHeartbeats 4000000 in
theorem K_Tape_isNumber (l : Launch) (g : GB) (htr : l.stackTraces = false) (M : Mem) (rr : Bool) (h : F_Tape_isNumber M = some rr) : CT l g yX8_isNumber (.code yX8_isNumber cX8_isNumber 1 (some .boolean) :: wAll) { frames := 0, cells := 0, slots := 0, locals := 0 } [.ref (g.2.1 27)] M (.inl (some (.int (b2i rr)))) M := by
  refine CT.of [(0, .ref (g.2.1 27))] (by decide +kernel) (Nat.le_of_ble_eq_true rfl) rfl htr ?_
  intro p e s m args below meth c K hr ht
  skip
  obtain ⟨PHI, hPHI, h⟩ : ∃ PHI : Bool → Prop, (∀ a, PHI a → a = rr) ∧ wpO (F_Tape_isNumber M) PHI := ⟨fun a => a = rr, fun _ h => h, _, h, rfl⟩
  unfold F_Tape_isNumber at h
  refine G_aload_n rfl 0 rfl K dX8_isNumber_0 ?_
  refine G_get (ci := 8) (k := 4) K rfl in_X8 wd_154 rfl dX8_isNumber_1 (Nat.le_of_ble_eq_true rfl) (sh_27 _ _) (Nat.le_of_ble_eq_true rfl) rfl ?_
  refine G_iconst (v := 2) rfl K dX8_isNumber_4 ?_
  refine G_icmp_ne (tgt := 20) K dX8_isNumber_5 (by decide) (fun hc => ?_) (fun hc => ?_)
  · have h := wpO_f h hc
    refine G_iconst (v := 0) rfl K dX8_isNumber_20 ?_
    cases hPHI _ (wpO_some h)
    exact G_iret K hr rfl dX8_isNumber_21 (Nat.le_of_ble_eq_true rfl) (Nat.le_of_ble_eq_true rfl) ⟨rfl, rfl⟩
  · have h := wpO_t h hc
    refine G_aload_n rfl 0 rfl K dX8_isNumber_8 ?_
    refine G_get (ci := 8) (k := 7) K rfl in_X8 wd_157 rfl dX8_isNumber_9 (Nat.le_of_ble_eq_true rfl) (sh_27 _ _) (Nat.le_of_ble_eq_true rfl) rfl ?_
    refine G_iconst (v := (-1)) rfl K dX8_isNumber_12 ?_
    refine G_icmp_eq (tgt := 20) K dX8_isNumber_13 (by decide) (fun hc => ?_) (fun hc => ?_)
    · have h := wpO_t h hc
      refine G_iconst (v := 0) rfl K dX8_isNumber_20 ?_
      cases hPHI _ (wpO_some h)
      exact G_iret K hr rfl dX8_isNumber_21 (Nat.le_of_ble_eq_true rfl) (Nat.le_of_ble_eq_true rfl) ⟨rfl, rfl⟩
    · have h := wpO_f h hc
      refine G_iconst (v := 1) rfl K dX8_isNumber_16 ?_
      refine G_goto (tgt := 21) K dX8_isNumber_17 (by decide) ?_
      cases hPHI _ (wpO_some h)
      exact G_iret K hr rfl dX8_isNumber_21 (Nat.le_of_ble_eq_true rfl) (Nat.le_of_ble_eq_true rfl) ⟨rfl, rfl⟩
def on_X8_isSign : Nat := 0xac030400a7040700a01b2900b42a0f00a0062000b42a
theorem ob_X8_isSign : OKB cX8_isSign on_X8_isSign 22 := ⟨by decide +kernel, by decide +kernel⟩
theorem dX8_isSign_0 : dc cX8_isSign 0 1 (.aload_n 0) 1 := o_42 ob_X8_isSign rfl rfl rfl
theorem dX8_isSign_1 : dc cX8_isSign 1 4 (.getfield 32) 3 := o_180 ob_X8_isSign rfl rfl rfl rfl
theorem dX8_isSign_4 : dc cX8_isSign 4 5 (.iconst 3) 1 := o_6 ob_X8_isSign rfl rfl rfl
theorem dX8_isSign_5 : dc cX8_isSign 5 8 (.if_icmp .ne 15) 3 := o_160 ob_X8_isSign rfl rfl rfl rfl
theorem dX8_isSign_8 : dc cX8_isSign 8 9 (.aload_n 0) 1 := o_42 ob_X8_isSign rfl rfl rfl
theorem dX8_isSign_9 : dc cX8_isSign 9 12 (.getfield 41) 3 := o_180 ob_X8_isSign rfl rfl rfl rfl
theorem dX8_isSign_12 : dc cX8_isSign 12 13 (.iload_n 1) 1 := o_27 ob_X8_isSign rfl rfl rfl
theorem dX8_isSign_13 : dc cX8_isSign 13 16 (.if_icmp .ne 7) 3 := o_160 ob_X8_isSign rfl rfl rfl rfl
theorem dX8_isSign_16 : dc cX8_isSign 16 17 (.iconst 1) 1 := o_4 ob_X8_isSign rfl rfl rfl
theorem dX8_isSign_17 : dc cX8_isSign 17 20 (.goto 4) 3 := o_167 ob_X8_isSign rfl rfl rfl rfl
theorem dX8_isSign_20 : dc cX8_isSign 20 21 (.iconst 0) 1 := o_3 ob_X8_isSign rfl rfl rfl
theorem dX8_isSign_21 : dc cX8_isSign 21 22 .ireturn 1 := o_172 ob_X8_isSign rfl rfl rfl
def F_Tape_isSign (x1 : Int32) (M : Mem) : Option (Bool) :=
  if (M.1 27 4) = 3 then if (M.1 27 7) = x1 then some true else some false else some false
set_option maxRecDepth 100000 in
set_option maxHeartbeats 4000000 in
theorem K_Tape_isSign (l : Launch) (g : GB) (htr : l.stackTraces = false) (x1 : Int32) (M : Mem) (rr : Bool) (h : F_Tape_isSign x1 M = some rr) : CT l g yX8_isSign (.code yX8_isSign cX8_isSign 2 (some .boolean) :: wAll) { frames := 0, cells := 0, slots := 0, locals := 0 } [.ref (g.2.1 27), .int x1] M (.inl (some (.int (b2i rr)))) M := by
  refine CT.of [(0, .ref (g.2.1 27)), (1, .int x1)] (by decide +kernel) (Nat.le_of_ble_eq_true rfl) rfl htr ?_
  intro p e s m args below meth c K hr ht
  skip
  obtain ⟨PHI, hPHI, h⟩ : ∃ PHI : Bool → Prop, (∀ a, PHI a → a = rr) ∧ wpO (F_Tape_isSign x1 M) PHI := ⟨fun a => a = rr, fun _ h => h, _, h, rfl⟩
  unfold F_Tape_isSign at h
  refine G_aload_n rfl 0 rfl K dX8_isSign_0 ?_
  refine G_get (ci := 8) (k := 4) K rfl in_X8 wd_154 rfl dX8_isSign_1 (Nat.le_of_ble_eq_true rfl) (sh_27 _ _) (Nat.le_of_ble_eq_true rfl) rfl ?_
  refine G_iconst (v := 3) rfl K dX8_isSign_4 ?_
  refine G_icmp_ne (tgt := 20) K dX8_isSign_5 (by decide) (fun hc => ?_) (fun hc => ?_)
  · have h := wpO_f h hc
    refine G_iconst (v := 0) rfl K dX8_isSign_20 ?_
    cases hPHI _ (wpO_some h)
    exact G_iret K hr rfl dX8_isSign_21 (Nat.le_of_ble_eq_true rfl) (Nat.le_of_ble_eq_true rfl) ⟨rfl, rfl⟩
  · have h := wpO_t h hc
    refine G_aload_n rfl 0 rfl K dX8_isSign_8 ?_
    refine G_get (ci := 8) (k := 7) K rfl in_X8 wd_157 rfl dX8_isSign_9 (Nat.le_of_ble_eq_true rfl) (sh_27 _ _) (Nat.le_of_ble_eq_true rfl) rfl ?_
    refine G_iload_n rfl 1 rfl K dX8_isSign_12 ?_
    refine G_icmp_ne (tgt := 20) K dX8_isSign_13 (by decide) (fun hc => ?_) (fun hc => ?_)
    · have h := wpO_f h hc
      refine G_iconst (v := 0) rfl K dX8_isSign_20 ?_
      cases hPHI _ (wpO_some h)
      exact G_iret K hr rfl dX8_isSign_21 (Nat.le_of_ble_eq_true rfl) (Nat.le_of_ble_eq_true rfl) ⟨rfl, rfl⟩
    · have h := wpO_t h hc
      refine G_iconst (v := 1) rfl K dX8_isSign_16 ?_
      refine G_goto (tgt := 21) K dX8_isSign_17 (by decide) ?_
      cases hPHI _ (wpO_some h)
      exact G_iret K hr rfl dX8_isSign_21 (Nat.le_of_ble_eq_true rfl) (Nat.le_of_ble_eq_true rfl) ⟨rfl, rfl⟩
theorem yd_X8_isNumber : ydN yX8_isNumber 0 := ⟨by decide, by decide, by decide +kernel⟩
theorem yd_X8_step : ydN yX8_step 0 := ⟨by decide, by decide, by decide +kernel⟩
theorem yd_X8_isWord : ydN yX8_isWord 1 := ⟨by decide, by decide, by decide +kernel⟩
theorem wv_798 : wdV "KeptWell$Tape" 76 yX8_isWord cX8_isWord 3 (some .boolean) := ⟨wd_798, wd_800, ws_X8_isWord, wd_5, wd_801⟩
theorem wv_776 : wdV "KeptWell$Tape" 61 yX8_step cX8_step 2 none := ⟨wd_776, wd_778, ws_X8_step, wd_5, wd_779⟩
theorem wv_850 : wdV "KeptWell$Tape" 80 yX8_isNumber cX8_isNumber 1 (some .boolean) := ⟨wd_850, wd_852, ws_X8_isNumber, wd_5, wd_853⟩
theorem wv_864 : wdV "KeptWell$Tape" 91 yX7_at cX7_at 2 (some .long) := ⟨wd_864, wd_528, wd_529, wd_3, wd_530⟩
def on_X8_readSeen : Nat := 0xac043d00b62ae0ffa70105842c00b6852900b42a6005151b1a00b42a1900a20605151f00a30415051505361d2c00b6852300b42a2900b42a1d00b42a13009a943b00145b00b62900b42a1d00b42aac0305009a5000b62a3d00b62aac0305009a4c00b659122a3d00b62a04362900b42a0700a7050700991c3e2900b42a0700a7030700991cac0305009a5000b62a0c009a1c3d4c00b657122a
theorem ob_X8_readSeen : OKB cX8_readSeen on_X8_readSeen 153 := ⟨by decide +kernel, by decide +kernel⟩
theorem dX8_readSeen_0 : dc cX8_readSeen 0 1 (.aload_n 0) 1 := o_42 ob_X8_readSeen rfl rfl rfl
theorem dX8_readSeen_1 : dc cX8_readSeen 1 3 (.ldc 87) 2 := o_18 ob_X8_readSeen rfl rfl rfl rfl
theorem dX8_readSeen_3 : dc cX8_readSeen 3 6 (.invokevirtual 76) 3 := o_182 ob_X8_readSeen rfl rfl rfl rfl
theorem dX8_readSeen_6 : dc cX8_readSeen 6 7 (.istore_n 2) 1 := o_61 ob_X8_readSeen rfl rfl rfl
theorem dX8_readSeen_7 : dc cX8_readSeen 7 8 (.iload_n 2) 1 := o_28 ob_X8_readSeen rfl rfl rfl
theorem dX8_readSeen_8 : dc cX8_readSeen 8 11 (.ifCond .ne 12) 3 := o_154 ob_X8_readSeen rfl rfl rfl rfl
theorem dX8_readSeen_11 : dc cX8_readSeen 11 12 (.aload_n 0) 1 := o_42 ob_X8_readSeen rfl rfl rfl
theorem dX8_readSeen_12 : dc cX8_readSeen 12 15 (.invokevirtual 80) 3 := o_182 ob_X8_readSeen rfl rfl rfl rfl
theorem dX8_readSeen_15 : dc cX8_readSeen 15 18 (.ifCond .ne 5) 3 := o_154 ob_X8_readSeen rfl rfl rfl rfl
theorem dX8_readSeen_18 : dc cX8_readSeen 18 19 (.iconst 0) 1 := o_3 ob_X8_readSeen rfl rfl rfl
theorem dX8_readSeen_19 : dc cX8_readSeen 19 20 .ireturn 1 := o_172 ob_X8_readSeen rfl rfl rfl
theorem dX8_readSeen_20 : dc cX8_readSeen 20 21 (.iload_n 2) 1 := o_28 ob_X8_readSeen rfl rfl rfl
theorem dX8_readSeen_21 : dc cX8_readSeen 21 24 (.ifCond .eq 7) 3 := o_153 ob_X8_readSeen rfl rfl rfl rfl
theorem dX8_readSeen_24 : dc cX8_readSeen 24 25 (.iconst 0) 1 := o_3 ob_X8_readSeen rfl rfl rfl
theorem dX8_readSeen_25 : dc cX8_readSeen 25 28 (.goto 7) 3 := o_167 ob_X8_readSeen rfl rfl rfl rfl
theorem dX8_readSeen_28 : dc cX8_readSeen 28 29 (.aload_n 0) 1 := o_42 ob_X8_readSeen rfl rfl rfl
theorem dX8_readSeen_29 : dc cX8_readSeen 29 32 (.getfield 41) 3 := o_180 ob_X8_readSeen rfl rfl rfl rfl
theorem dX8_readSeen_32 : dc cX8_readSeen 32 33 (.istore_n 3) 1 := o_62 ob_X8_readSeen rfl rfl rfl
theorem dX8_readSeen_33 : dc cX8_readSeen 33 34 (.iload_n 2) 1 := o_28 ob_X8_readSeen rfl rfl rfl
theorem dX8_readSeen_34 : dc cX8_readSeen 34 37 (.ifCond .eq 7) 3 := o_153 ob_X8_readSeen rfl rfl rfl rfl
theorem dX8_readSeen_37 : dc cX8_readSeen 37 38 (.iconst 2) 1 := o_5 ob_X8_readSeen rfl rfl rfl
theorem dX8_readSeen_38 : dc cX8_readSeen 38 41 (.goto 7) 3 := o_167 ob_X8_readSeen rfl rfl rfl rfl
theorem dX8_readSeen_41 : dc cX8_readSeen 41 42 (.aload_n 0) 1 := o_42 ob_X8_readSeen rfl rfl rfl
theorem dX8_readSeen_42 : dc cX8_readSeen 42 45 (.getfield 41) 3 := o_180 ob_X8_readSeen rfl rfl rfl rfl
theorem dX8_readSeen_45 : dc cX8_readSeen 45 47 (.istore 4) 2 := o_54 ob_X8_readSeen rfl rfl rfl rfl
theorem dX8_readSeen_47 : dc cX8_readSeen 47 48 (.aload_n 0) 1 := o_42 ob_X8_readSeen rfl rfl rfl
theorem dX8_readSeen_48 : dc cX8_readSeen 48 51 (.invokevirtual 61) 3 := o_182 ob_X8_readSeen rfl rfl rfl rfl
theorem dX8_readSeen_51 : dc cX8_readSeen 51 52 (.aload_n 0) 1 := o_42 ob_X8_readSeen rfl rfl rfl
theorem dX8_readSeen_52 : dc cX8_readSeen 52 54 (.ldc 89) 2 := o_18 ob_X8_readSeen rfl rfl rfl rfl
theorem dX8_readSeen_54 : dc cX8_readSeen 54 57 (.invokevirtual 76) 3 := o_182 ob_X8_readSeen rfl rfl rfl rfl
theorem dX8_readSeen_57 : dc cX8_readSeen 57 60 (.ifCond .ne 5) 3 := o_154 ob_X8_readSeen rfl rfl rfl rfl
theorem dX8_readSeen_60 : dc cX8_readSeen 60 61 (.iconst 0) 1 := o_3 ob_X8_readSeen rfl rfl rfl
theorem dX8_readSeen_61 : dc cX8_readSeen 61 62 .ireturn 1 := o_172 ob_X8_readSeen rfl rfl rfl
theorem dX8_readSeen_62 : dc cX8_readSeen 62 63 (.aload_n 0) 1 := o_42 ob_X8_readSeen rfl rfl rfl
theorem dX8_readSeen_63 : dc cX8_readSeen 63 66 (.invokevirtual 61) 3 := o_182 ob_X8_readSeen rfl rfl rfl rfl
theorem dX8_readSeen_66 : dc cX8_readSeen 66 67 (.aload_n 0) 1 := o_42 ob_X8_readSeen rfl rfl rfl
theorem dX8_readSeen_67 : dc cX8_readSeen 67 70 (.invokevirtual 80) 3 := o_182 ob_X8_readSeen rfl rfl rfl rfl
theorem dX8_readSeen_70 : dc cX8_readSeen 70 73 (.ifCond .ne 5) 3 := o_154 ob_X8_readSeen rfl rfl rfl rfl
theorem dX8_readSeen_73 : dc cX8_readSeen 73 74 (.iconst 0) 1 := o_3 ob_X8_readSeen rfl rfl rfl
theorem dX8_readSeen_74 : dc cX8_readSeen 74 75 .ireturn 1 := o_172 ob_X8_readSeen rfl rfl rfl
theorem dX8_readSeen_75 : dc cX8_readSeen 75 76 (.aload_n 0) 1 := o_42 ob_X8_readSeen rfl rfl rfl
theorem dX8_readSeen_76 : dc cX8_readSeen 76 79 (.getfield 29) 3 := o_180 ob_X8_readSeen rfl rfl rfl rfl
theorem dX8_readSeen_79 : dc cX8_readSeen 79 80 (.aload_n 0) 1 := o_42 ob_X8_readSeen rfl rfl rfl
theorem dX8_readSeen_80 : dc cX8_readSeen 80 83 (.getfield 41) 3 := o_180 ob_X8_readSeen rfl rfl rfl rfl
theorem dX8_readSeen_83 : dc cX8_readSeen 83 86 (.invokevirtual 91) 3 := o_182 ob_X8_readSeen rfl rfl rfl rfl
theorem dX8_readSeen_86 : dc cX8_readSeen 86 89 (.ldc2_w 59) 3 := o_20 ob_X8_readSeen rfl rfl rfl rfl
theorem dX8_readSeen_89 : dc cX8_readSeen 89 90 .lcmp 1 := o_148 ob_X8_readSeen rfl rfl rfl
theorem dX8_readSeen_90 : dc cX8_readSeen 90 93 (.ifCond .ne 19) 3 := o_154 ob_X8_readSeen rfl rfl rfl rfl
theorem dX8_readSeen_93 : dc cX8_readSeen 93 94 (.aload_n 0) 1 := o_42 ob_X8_readSeen rfl rfl rfl
theorem dX8_readSeen_94 : dc cX8_readSeen 94 97 (.getfield 29) 3 := o_180 ob_X8_readSeen rfl rfl rfl rfl
theorem dX8_readSeen_97 : dc cX8_readSeen 97 98 (.aload_n 0) 1 := o_42 ob_X8_readSeen rfl rfl rfl
theorem dX8_readSeen_98 : dc cX8_readSeen 98 101 (.getfield 41) 3 := o_180 ob_X8_readSeen rfl rfl rfl rfl
theorem dX8_readSeen_101 : dc cX8_readSeen 101 102 (.aload_n 0) 1 := o_42 ob_X8_readSeen rfl rfl rfl
theorem dX8_readSeen_102 : dc cX8_readSeen 102 105 (.getfield 35) 3 := o_180 ob_X8_readSeen rfl rfl rfl rfl
theorem dX8_readSeen_105 : dc cX8_readSeen 105 106 .i2l 1 := o_133 ob_X8_readSeen rfl rfl rfl
theorem dX8_readSeen_106 : dc cX8_readSeen 106 109 (.invokevirtual 44) 3 := o_182 ob_X8_readSeen rfl rfl rfl rfl
theorem dX8_readSeen_109 : dc cX8_readSeen 109 110 (.iload_n 3) 1 := o_29 ob_X8_readSeen rfl rfl rfl
theorem dX8_readSeen_110 : dc cX8_readSeen 110 112 (.istore 5) 2 := o_54 ob_X8_readSeen rfl rfl rfl rfl
theorem dX8_readSeen_112 : dc cX8_readSeen 112 114 (.iload 5) 2 := o_21 ob_X8_readSeen rfl rfl rfl rfl
theorem dX8_readSeen_114 : dc cX8_readSeen 114 116 (.iload 4) 2 := o_21 ob_X8_readSeen rfl rfl rfl rfl
theorem dX8_readSeen_116 : dc cX8_readSeen 116 119 (.if_icmp .gt 31) 3 := o_163 ob_X8_readSeen rfl rfl rfl rfl
theorem dX8_readSeen_119 : dc cX8_readSeen 119 121 (.iload 5) 2 := o_21 ob_X8_readSeen rfl rfl rfl rfl
theorem dX8_readSeen_121 : dc cX8_readSeen 121 122 (.iconst 3) 1 := o_6 ob_X8_readSeen rfl rfl rfl
theorem dX8_readSeen_122 : dc cX8_readSeen 122 125 (.if_icmp .ge 25) 3 := o_162 ob_X8_readSeen rfl rfl rfl rfl
theorem dX8_readSeen_125 : dc cX8_readSeen 125 126 (.aload_n 0) 1 := o_42 ob_X8_readSeen rfl rfl rfl
theorem dX8_readSeen_126 : dc cX8_readSeen 126 129 (.getfield 26) 3 := o_180 ob_X8_readSeen rfl rfl rfl rfl
theorem dX8_readSeen_129 : dc cX8_readSeen 129 130 (.iload_n 1) 1 := o_27 ob_X8_readSeen rfl rfl rfl
theorem dX8_readSeen_130 : dc cX8_readSeen 130 132 (.iload 5) 2 := o_21 ob_X8_readSeen rfl rfl rfl rfl
theorem dX8_readSeen_132 : dc cX8_readSeen 132 133 .iadd 1 := o_96 ob_X8_readSeen rfl rfl rfl
theorem dX8_readSeen_133 : dc cX8_readSeen 133 134 (.aload_n 0) 1 := o_42 ob_X8_readSeen rfl rfl rfl
theorem dX8_readSeen_134 : dc cX8_readSeen 134 137 (.getfield 41) 3 := o_180 ob_X8_readSeen rfl rfl rfl rfl
theorem dX8_readSeen_137 : dc cX8_readSeen 137 138 .i2l 1 := o_133 ob_X8_readSeen rfl rfl rfl
theorem dX8_readSeen_138 : dc cX8_readSeen 138 141 (.invokevirtual 44) 3 := o_182 ob_X8_readSeen rfl rfl rfl rfl
theorem dX8_readSeen_141 : dc cX8_readSeen 141 144 (.iinc 5 1) 3 := o_132 ob_X8_readSeen rfl rfl rfl rfl rfl
theorem dX8_readSeen_144 : dc cX8_readSeen 144 147 (.goto (-32)) 3 := o_167 ob_X8_readSeen rfl rfl rfl rfl
theorem dX8_readSeen_147 : dc cX8_readSeen 147 148 (.aload_n 0) 1 := o_42 ob_X8_readSeen rfl rfl rfl
theorem dX8_readSeen_148 : dc cX8_readSeen 148 151 (.invokevirtual 61) 3 := o_182 ob_X8_readSeen rfl rfl rfl rfl
theorem dX8_readSeen_151 : dc cX8_readSeen 151 152 (.iconst 1) 1 := o_4 ob_X8_readSeen rfl rfl rfl
theorem dX8_readSeen_152 : dc cX8_readSeen 152 153 .ireturn 1 := o_172 ob_X8_readSeen rfl rfl rfl
def F_Tape_readSeen_j147 (M : Mem) : Option (Bool × Mem) :=
  (F_Tape_step M).bind fun r7 => some ((true, r7))
def F_Tape_readSeen_b112 (x1 : Int32) (x4 : Int32) (z : Int32 × Mem) : Option ((Int32 × Mem) ⊕ ((Mem))) :=
  if x4 < z.1 then some (.inr z.2) else if 3 ≤ z.1 then some (.inr z.2) else (F_Row_put 31 13 (x1 + z.1) ((z.2.1 27 7).toInt64) z.2).bind fun r8 => some (.inl ((z.1 + 1, r8)))
def F_Tape_readSeen_l112 (x1 : Int32) (x4 : Int32) (x5 : Int32) (M : Mem) : Option (Bool × Mem) :=
  (iter (F_Tape_readSeen_b112 x1 x4) FUEL (x5, M)).bind fun r => F_Tape_readSeen_j147 r
def F_Tape_readSeen_j45 (x1 : Int32) (x3 : Int32) (s0 : Int32) (M : Mem) : Option (Bool × Mem) :=
  (F_Tape_step M).bind fun r2 => (F_Tape_isWord 2 r2).bind fun r3 => if r3 = true then (F_Tape_step r2).bind fun r4 => (F_Tape_isNumber r4).bind fun r5 => if r5 = true then (F_Row_at 33 3 (r4.1 27 7) r4).bind fun r6 => if r6 = ((-1)) then (F_Row_put 33 3 (r4.1 27 7) ((r4.1 27 5).toInt64) r4).bind fun r9 => F_Tape_readSeen_l112 x1 s0 x3 r9 else F_Tape_readSeen_l112 x1 s0 x3 r4 else some ((false, r4)) else some ((false, r2))
def F_Tape_readSeen_j32 (x1 : Int32) (x2 : Bool) (s0 : Int32) (M : Mem) : Option (Bool × Mem) :=
  if x2 = true then F_Tape_readSeen_j45 x1 s0 2 M else F_Tape_readSeen_j45 x1 s0 (M.1 27 7) M
def F_Tape_readSeen_j20 (x1 : Int32) (x2 : Bool) (M : Mem) : Option (Bool × Mem) :=
  if x2 = true then F_Tape_readSeen_j32 x1 x2 0 M else F_Tape_readSeen_j32 x1 x2 (M.1 27 7) M
def F_Tape_readSeen (x1 : Int32) (M : Mem) : Option (Bool × Mem) :=
  (F_Tape_isWord 1 M).bind fun r1 => if r1 = true then F_Tape_readSeen_j20 x1 r1 M else (F_Tape_isNumber M).bind fun r10 => if r10 = true then F_Tape_readSeen_j20 x1 r1 M else some ((false, M))
set_option maxRecDepth 100000 in
set_option maxHeartbeats 4000000 in
theorem K_Tape_readSeen (l : Launch) (g : GB) (htr : l.stackTraces = false) (x1 : Int32) (M : Mem) (rr : Bool) (MZ : Mem) (h : F_Tape_readSeen x1 M = some (rr, MZ)) : CT l g yX8_readSeen (.code yX8_readSeen cX8_readSeen 6 (some .boolean) :: wAll) { frames := 5, cells := 0, slots := 0, locals := 107 } [.ref (g.2.1 27), .int x1] M (.inl (some (.int (b2i rr)))) MZ := by
  refine CT.of [(0, .ref (g.2.1 27)), (1, .int x1)] (by decide +kernel) (Nat.le_of_ble_eq_true rfl) rfl htr ?_
  intro p e s m args below meth c K hr ht
  skip
  obtain ⟨PHI, hPHI, h⟩ : ∃ PHI : Bool × Mem → Prop, (∀ a, PHI a → a = (rr, MZ)) ∧ wpO (F_Tape_readSeen x1 M) PHI := ⟨fun a => a = (rr, MZ), fun _ h => h, _, h, rfl⟩
  have J147 : ∀ (M : Mem), wpO (F_Tape_readSeen_j147 M) PHI → GG p l e { frames := 5, cells := 0, slots := 0, locals := 107 } s m args below meth c g 6 (vx_MQ below (Qn g s.heap.size (.inl (some (.int (b2i rr)))) MZ) (QX g s.heap.size (.inl (some (.int (b2i rr)))) MZ) args s 0 0 (AS g s.heap.size)) 0 0 147 [(0, .ref (g.2.1 27))] [] M := by
    intro M h
    unfold F_Tape_readSeen_j147 at h
    refine G_aload_n rfl 0 rfl K dX8_readSeen_147 ?_
    obtain ⟨r7, e7, h⟩ := wpO_bind h
    refine G_callVv (ci := 8) [] [] K dX8_readSeen_148 wv_776 yd_X8_step (Nat.le_of_ble_eq_true rfl) (sh_27 _ _) rfl (by decide) (by decide) rfl rfl (Nat.le_of_ble_eq_true rfl) (K_Tape_step l g htr  M _ e7) ?_
    refine G_iconst (v := 1) rfl K dX8_readSeen_151 ?_
    cases hPHI _ (wpO_some h)
    exact G_iret K hr rfl dX8_readSeen_152 (Nat.le_of_ble_eq_true rfl) (Nat.le_of_ble_eq_true rfl) ⟨rfl, rfl⟩
  have J112 : ∀ (x1 : Int32) (x4 : Int32) (x5 : Int32) (M : Mem), wpO (F_Tape_readSeen_l112 x1 x4 x5 M) PHI → GG p l e { frames := 5, cells := 0, slots := 0, locals := 107 } s m args below meth c g 6 (vx_MQ below (Qn g s.heap.size (.inl (some (.int (b2i rr)))) MZ) (QX g s.heap.size (.inl (some (.int (b2i rr)))) MZ) args s 0 0 (AS g s.heap.size)) 0 0 112 [(0, .ref (g.2.1 27)), (1, .int x1), (4, .int x4), (5, .int x5)] [] M := by
    intro x1 x4 x5 M h
    unfold F_Tape_readSeen_l112 at h
    refine loop_C2 (G := fun (x5 : Int32) (M : Mem) => GG p l e { frames := 5, cells := 0, slots := 0, locals := 107 } s m args below meth c g 6 (vx_MQ below (Qn g s.heap.size (.inl (some (.int (b2i rr)))) MZ) (QX g s.heap.size (.inl (some (.int (b2i rr)))) MZ) args s 0 0 (AS g s.heap.size)) 0 0 112 [(0, .ref (g.2.1 27)), (1, .int x1), (4, .int x4), (5, .int x5)] [] M) (body := F_Tape_readSeen_b112 x1 x4) ?_ FUEL _ _ (wpO_bind h)
    intro P112 E112 X112
    intro z h
    unfold F_Tape_readSeen_b112 at h
    refine G_iload 3 rfl K dX8_readSeen_112 ?_
    refine G_iload 2 rfl K dX8_readSeen_114 ?_
    refine G_icmp_gt (tgt := 147) K dX8_readSeen_116 (by decide) (fun hc => ?_) (fun hc => ?_)
    · have h := wpO_t h hc
      have h := X112 _ (wpO_some h)
      try dsimp only at h
      exact G_lv (lv' := [(0, .ref (g.2.1 27))]) [0] rfl (J147 z.2 h)
    · have h := wpO_f h hc
      refine G_iload 3 rfl K dX8_readSeen_119 ?_
      refine G_iconst (v := 3) rfl K dX8_readSeen_121 ?_
      refine G_icmp_ge (tgt := 147) K dX8_readSeen_122 (by decide) (fun hc => ?_) (fun hc => ?_)
      · have h := wpO_t h hc
        have h := X112 _ (wpO_some h)
        try dsimp only at h
        exact G_lv (lv' := [(0, .ref (g.2.1 27))]) [0] rfl (J147 z.2 h)
      · have h := wpO_f h hc
        refine G_aload_n rfl 0 rfl K dX8_readSeen_125 ?_
        refine G_get (ci := 8) (k := 2) K rfl in_X8 wd_151 rfl dX8_readSeen_126 (Nat.le_of_ble_eq_true rfl) (sh_27 _ _) (Nat.le_of_ble_eq_true rfl) rfl ?_
        refine G_iload_n rfl 1 rfl K dX8_readSeen_129 ?_
        refine G_iload 3 rfl K dX8_readSeen_130 ?_
        refine G_iadd K dX8_readSeen_132 ?_
        refine G_aload_n rfl 0 rfl K dX8_readSeen_133 ?_
        refine G_get (ci := 8) (k := 7) K rfl in_X8 wd_157 rfl dX8_readSeen_134 (Nat.le_of_ble_eq_true rfl) (sh_27 _ _) (Nat.le_of_ble_eq_true rfl) rfl ?_
        refine G_i2l K dX8_readSeen_137 ?_
        obtain ⟨r8, e8, h⟩ := wpO_bind h
        refine G_callVv (ci := 7) [.int (x1 + z.1), .long ((z.2.1 27 7).toInt64)] [] K dX8_readSeen_138 wv_451 yd_X7_put (Nat.le_of_ble_eq_true rfl) (sh_30 _ _) rfl (by decide) (by decide) rfl rfl (Nat.le_of_ble_eq_true rfl) (K_Row_put l g htr 30 31 13 isRow_30 (x1 + z.1) ((z.2.1 27 7).toInt64) z.2 _ e8) ?_
        refine G_iinc (v := z.1 + 1) 3 rfl K dX8_readSeen_141 rfl (Nat.le_of_ble_eq_true rfl) rfl ?_
        refine G_goto (tgt := 112) K dX8_readSeen_144 (by decide) ?_
        exact G_lv (lv' := [(0, .ref (g.2.1 27)), (1, .int x1), (4, .int x4), (5, .int (z.1 + 1))]) [1, 2, 3, 0] rfl (E112 (z.1 + 1) r8 (wpO_some h))
  have J45 : ∀ (x1 : Int32) (x3 : Int32) (s0 : Int32) (M : Mem), wpO (F_Tape_readSeen_j45 x1 x3 s0 M) PHI → GG p l e { frames := 5, cells := 0, slots := 0, locals := 107 } s m args below meth c g 6 (vx_MQ below (Qn g s.heap.size (.inl (some (.int (b2i rr)))) MZ) (QX g s.heap.size (.inl (some (.int (b2i rr)))) MZ) args s 0 0 (AS g s.heap.size)) 0 0 45 [(0, .ref (g.2.1 27)), (1, .int x1), (3, .int x3)] [.int s0] M := by
    intro x1 x3 s0 M h
    unfold F_Tape_readSeen_j45 at h
    refine G_istore K dX8_readSeen_45 (Nat.le_of_ble_eq_true rfl) rfl ?_
    refine G_aload_n rfl 1 rfl K dX8_readSeen_47 ?_
    obtain ⟨r2, e2, h⟩ := wpO_bind h
    refine G_callVv (ci := 8) [] [] K dX8_readSeen_48 wv_776 yd_X8_step (Nat.le_of_ble_eq_true rfl) (sh_27 _ _) rfl (by decide) (by decide) rfl rfl (Nat.le_of_ble_eq_true rfl) (K_Tape_step l g htr  M _ e2) ?_
    refine G_aload_n rfl 1 rfl K dX8_readSeen_51 ?_
    refine G_ldcS (q := g.2.1 ((NC + 0 + 2))) K K.2.1.2.2.2.2.1.1.2.2 dX8_readSeen_52 ?_
    obtain ⟨r3, e3, h⟩ := wpO_bind h
    refine G_callVi (ci := 8) [.ref (g.2.1 ((NC + 0 + 2)))] [] K dX8_readSeen_54 wv_798 yd_X8_isWord (Nat.le_of_ble_eq_true rfl) (sh_27 _ _) rfl (by decide) (by decide) rfl rfl (Nat.le_of_ble_eq_true rfl) (K_Tape_isWord l g htr 0 2 isStr_0_2 r2 _ e3) ?_
    refine G_ifb_ne (tgt := 62) K dX8_readSeen_57 (by decide) (fun hc => ?_) (fun hc => ?_)
    · have h := wpO_t h hc
      refine G_aload_n rfl 1 rfl K dX8_readSeen_62 ?_
      obtain ⟨r4, e4, h⟩ := wpO_bind h
      refine G_callVv (ci := 8) [] [] K dX8_readSeen_63 wv_776 yd_X8_step (Nat.le_of_ble_eq_true rfl) (sh_27 _ _) rfl (by decide) (by decide) rfl rfl (Nat.le_of_ble_eq_true rfl) (K_Tape_step l g htr  r2 _ e4) ?_
      refine G_aload_n rfl 1 rfl K dX8_readSeen_66 ?_
      obtain ⟨r5, e5, h⟩ := wpO_bind h
      refine G_callVi (ci := 8) [] [] K dX8_readSeen_67 wv_850 yd_X8_isNumber (Nat.le_of_ble_eq_true rfl) (sh_27 _ _) rfl (by decide) (by decide) rfl rfl (Nat.le_of_ble_eq_true rfl) (K_Tape_isNumber l g htr  r4 _ e5) ?_
      refine G_ifb_ne (tgt := 75) K dX8_readSeen_70 (by decide) (fun hc => ?_) (fun hc => ?_)
      · have h := wpO_t h hc
        refine G_aload_n rfl 1 rfl K dX8_readSeen_75 ?_
        refine G_get (ci := 8) (k := 3) K rfl in_X8 wd_153 rfl dX8_readSeen_76 (Nat.le_of_ble_eq_true rfl) (sh_27 _ _) (Nat.le_of_ble_eq_true rfl) rfl ?_
        refine G_aload_n rfl 1 rfl K dX8_readSeen_79 ?_
        refine G_get (ci := 8) (k := 7) K rfl in_X8 wd_157 rfl dX8_readSeen_80 (Nat.le_of_ble_eq_true rfl) (sh_27 _ _) (Nat.le_of_ble_eq_true rfl) rfl ?_
        obtain ⟨r6, e6, h⟩ := wpO_bind h
        refine G_callVl (ci := 7) [.int (r4.1 27 7)] [] K dX8_readSeen_83 wv_864 yd_X7_at (Nat.le_of_ble_eq_true rfl) (sh_32 _ _) rfl (by decide) (by decide) rfl rfl (Nat.le_of_ble_eq_true rfl) (K_Row_at l g htr 32 33 3 isRow_32 (r4.1 27 7) r4 _ e6) ?_
        refine G_ldc2 (v := (-1)) K dX8_readSeen_86 wd_775 ?_
        refine G_lcmp_ne (tgt := 109) K dX8_readSeen_89 dX8_readSeen_90 (by decide) (fun hc => ?_) (fun hc => ?_)
        · have h := wpO_f h hc
          refine G_iload_n rfl 3 rfl K dX8_readSeen_109 ?_
          refine G_istore K dX8_readSeen_110 (Nat.le_of_ble_eq_true rfl) rfl ?_
          exact G_lv (lv' := [(0, .ref (g.2.1 27)), (1, .int x1), (4, .int s0), (5, .int x3)]) [2, 3, 1, 0] rfl (J112 x1 s0 x3 r4 h)
        · have h := wpO_t h hc
          refine G_aload_n rfl 1 rfl K dX8_readSeen_93 ?_
          refine G_get (ci := 8) (k := 3) K rfl in_X8 wd_153 rfl dX8_readSeen_94 (Nat.le_of_ble_eq_true rfl) (sh_27 _ _) (Nat.le_of_ble_eq_true rfl) rfl ?_
          refine G_aload_n rfl 1 rfl K dX8_readSeen_97 ?_
          refine G_get (ci := 8) (k := 7) K rfl in_X8 wd_157 rfl dX8_readSeen_98 (Nat.le_of_ble_eq_true rfl) (sh_27 _ _) (Nat.le_of_ble_eq_true rfl) rfl ?_
          refine G_aload_n rfl 1 rfl K dX8_readSeen_101 ?_
          refine G_get (ci := 8) (k := 5) K rfl in_X8 wd_155 rfl dX8_readSeen_102 (Nat.le_of_ble_eq_true rfl) (sh_27 _ _) (Nat.le_of_ble_eq_true rfl) rfl ?_
          refine G_i2l K dX8_readSeen_105 ?_
          obtain ⟨r9, e9, h⟩ := wpO_bind h
          refine G_callVv (ci := 7) [.int (r4.1 27 7), .long ((r4.1 27 5).toInt64)] [] K dX8_readSeen_106 wv_451 yd_X7_put (Nat.le_of_ble_eq_true rfl) (sh_32 _ _) rfl (by decide) (by decide) rfl rfl (Nat.le_of_ble_eq_true rfl) (K_Row_put l g htr 32 33 3 isRow_32 (r4.1 27 7) ((r4.1 27 5).toInt64) r4 _ e9) ?_
          refine G_iload_n rfl 3 rfl K dX8_readSeen_109 ?_
          refine G_istore K dX8_readSeen_110 (Nat.le_of_ble_eq_true rfl) rfl ?_
          exact G_lv (lv' := [(0, .ref (g.2.1 27)), (1, .int x1), (4, .int s0), (5, .int x3)]) [2, 3, 1, 0] rfl (J112 x1 s0 x3 r9 h)
      · have h := wpO_bf h hc
        refine G_iconst (v := 0) rfl K dX8_readSeen_73 ?_
        cases hPHI _ (wpO_some h)
        exact G_iret K hr rfl dX8_readSeen_74 (Nat.le_of_ble_eq_true rfl) (Nat.le_of_ble_eq_true rfl) ⟨rfl, rfl⟩
    · have h := wpO_bf h hc
      refine G_iconst (v := 0) rfl K dX8_readSeen_60 ?_
      cases hPHI _ (wpO_some h)
      exact G_iret K hr rfl dX8_readSeen_61 (Nat.le_of_ble_eq_true rfl) (Nat.le_of_ble_eq_true rfl) ⟨rfl, rfl⟩
  have J32 : ∀ (x1 : Int32) (x2 : Bool) (s0 : Int32) (M : Mem), wpO (F_Tape_readSeen_j32 x1 x2 s0 M) PHI → GG p l e { frames := 5, cells := 0, slots := 0, locals := 107 } s m args below meth c g 6 (vx_MQ below (Qn g s.heap.size (.inl (some (.int (b2i rr)))) MZ) (QX g s.heap.size (.inl (some (.int (b2i rr)))) MZ) args s 0 0 (AS g s.heap.size)) 0 0 32 [(0, .ref (g.2.1 27)), (1, .int x1), (2, .int ((b2i x2)))] [.int s0] M := by
    intro x1 x2 s0 M h
    unfold F_Tape_readSeen_j32 at h
    refine G_istore_n rfl K dX8_readSeen_32 (Nat.le_of_ble_eq_true rfl) rfl ?_
    refine G_iload_n rfl 3 rfl K dX8_readSeen_33 ?_
    refine G_ifb_eq (tgt := 41) K dX8_readSeen_34 (by decide) (fun hc => ?_) (fun hc => ?_)
    · have h := wpO_bf h hc
      refine G_aload_n rfl 1 rfl K dX8_readSeen_41 ?_
      refine G_get (ci := 8) (k := 7) K rfl in_X8 wd_157 rfl dX8_readSeen_42 (Nat.le_of_ble_eq_true rfl) (sh_27 _ _) (Nat.le_of_ble_eq_true rfl) rfl ?_
      exact G_lv (lv' := [(0, .ref (g.2.1 27)), (1, .int x1), (3, .int s0)]) [1, 2, 0] rfl (J45 x1 s0 (M.1 27 7) M h)
    · have h := wpO_t h hc
      refine G_iconst (v := 2) rfl K dX8_readSeen_37 ?_
      refine G_goto (tgt := 45) K dX8_readSeen_38 (by decide) ?_
      exact G_lv (lv' := [(0, .ref (g.2.1 27)), (1, .int x1), (3, .int s0)]) [1, 2, 0] rfl (J45 x1 s0 2 M h)
  have J20 : ∀ (x1 : Int32) (x2 : Bool) (M : Mem), wpO (F_Tape_readSeen_j20 x1 x2 M) PHI → GG p l e { frames := 5, cells := 0, slots := 0, locals := 107 } s m args below meth c g 6 (vx_MQ below (Qn g s.heap.size (.inl (some (.int (b2i rr)))) MZ) (QX g s.heap.size (.inl (some (.int (b2i rr)))) MZ) args s 0 0 (AS g s.heap.size)) 0 0 20 [(0, .ref (g.2.1 27)), (1, .int x1), (2, .int ((b2i x2)))] [] M := by
    intro x1 x2 M h
    unfold F_Tape_readSeen_j20 at h
    refine G_iload_n rfl 2 rfl K dX8_readSeen_20 ?_
    refine G_ifb_eq (tgt := 28) K dX8_readSeen_21 (by decide) (fun hc => ?_) (fun hc => ?_)
    · have h := wpO_bf h hc
      refine G_aload_n rfl 0 rfl K dX8_readSeen_28 ?_
      refine G_get (ci := 8) (k := 7) K rfl in_X8 wd_157 rfl dX8_readSeen_29 (Nat.le_of_ble_eq_true rfl) (sh_27 _ _) (Nat.le_of_ble_eq_true rfl) rfl ?_
      exact J32 x1 x2 (M.1 27 7) M h
    · have h := wpO_t h hc
      refine G_iconst (v := 0) rfl K dX8_readSeen_24 ?_
      refine G_goto (tgt := 32) K dX8_readSeen_25 (by decide) ?_
      exact J32 x1 x2 0 M h
  unfold F_Tape_readSeen at h
  refine G_aload_n rfl 0 rfl K dX8_readSeen_0 ?_
  refine G_ldcS (q := g.2.1 ((NC + 0 + 1))) K K.2.1.2.2.2.2.1.1.2.1 dX8_readSeen_1 ?_
  obtain ⟨r1, e1, h⟩ := wpO_bind h
  refine G_callVi (ci := 8) [.ref (g.2.1 ((NC + 0 + 1)))] [] K dX8_readSeen_3 wv_798 yd_X8_isWord (Nat.le_of_ble_eq_true rfl) (sh_27 _ _) rfl (by decide) (by decide) rfl rfl (Nat.le_of_ble_eq_true rfl) (K_Tape_isWord l g htr 0 1 isStr_0_1 M _ e1) ?_
  refine G_istore_n rfl K dX8_readSeen_6 (Nat.le_of_ble_eq_true rfl) rfl ?_
  refine G_iload_n rfl 0 rfl K dX8_readSeen_7 ?_
  refine G_ifb_ne (tgt := 20) K dX8_readSeen_8 (by decide) (fun hc => ?_) (fun hc => ?_)
  · have h := wpO_t h hc
    exact G_lv (lv' := [(0, .ref (g.2.1 27)), (1, .int x1), (2, .int ((b2i r1)))]) [1, 2, 0] rfl (J20 x1 r1 M h)
  · have h := wpO_bf h hc
    refine G_aload_n rfl 1 rfl K dX8_readSeen_11 ?_
    obtain ⟨r10, e10, h⟩ := wpO_bind h
    refine G_callVi (ci := 8) [] [] K dX8_readSeen_12 wv_850 yd_X8_isNumber (Nat.le_of_ble_eq_true rfl) (sh_27 _ _) rfl (by decide) (by decide) rfl rfl (Nat.le_of_ble_eq_true rfl) (K_Tape_isNumber l g htr  M _ e10) ?_
    refine G_ifb_ne (tgt := 20) K dX8_readSeen_15 (by decide) (fun hc => ?_) (fun hc => ?_)
    · have h := wpO_t h hc
      exact G_lv (lv' := [(0, .ref (g.2.1 27)), (1, .int x1), (2, .int ((b2i r1)))]) [1, 2, 0] rfl (J20 x1 r1 M h)
    · have h := wpO_bf h hc
      refine G_iconst (v := 0) rfl K dX8_readSeen_18 ?_
      cases hPHI _ (wpO_some h)
      exact G_iret K hr rfl dX8_readSeen_19 (Nat.le_of_ble_eq_true rfl) (Nat.le_of_ble_eq_true rfl) ⟨rfl, rfl⟩
theorem yd_X8_isSign : ydN yX8_isSign 1 := ⟨by decide, by decide, by decide +kernel⟩
theorem yd_X8_readSeen : ydN yX8_readSeen 1 := ⟨by decide, by decide, by decide +kernel⟩
theorem wv_854 : wdV "KeptWell$Tape" 68 yX8_isSign cX8_isSign 2 (some .boolean) := ⟨wd_854, wd_856, ws_X8_isSign, wd_5, wd_857⟩
theorem wv_858 : wdV "KeptWell$Tape" 84 yX8_readSeen cX8_readSeen 6 (some .boolean) := ⟨wd_858, wd_860, ws_X8_readSeen, wd_5, wd_861⟩
def on_X8_readMood : Nat := 0xac04ddffa7010384ac0305009a5400b660041c2a3d00b62a1900994400b62c102a2200a29001111d3e033d00b62aeaffa70103842c00b6851b601d60041c1a00b42a1700a2061d3e032c00b6852900b42a1c1a00b42aac0305009a5000b62a3d00b62aac0305009a4c00b64a122a3d60681b0704
theorem ob_X8_readMood : OKB cX8_readMood on_X8_readMood 116 := ⟨by decide +kernel, by decide +kernel⟩
theorem dX8_readMood_0 : dc cX8_readMood 0 1 (.iconst 1) 1 := o_4 ob_X8_readMood rfl rfl rfl
theorem dX8_readMood_1 : dc cX8_readMood 1 2 (.iconst 4) 1 := o_7 ob_X8_readMood rfl rfl rfl
theorem dX8_readMood_2 : dc cX8_readMood 2 3 (.iload_n 1) 1 := o_27 ob_X8_readMood rfl rfl rfl
theorem dX8_readMood_3 : dc cX8_readMood 3 4 .imul 1 := o_104 ob_X8_readMood rfl rfl rfl
theorem dX8_readMood_4 : dc cX8_readMood 4 5 .iadd 1 := o_96 ob_X8_readMood rfl rfl rfl
theorem dX8_readMood_5 : dc cX8_readMood 5 6 (.istore_n 2) 1 := o_61 ob_X8_readMood rfl rfl rfl
theorem dX8_readMood_6 : dc cX8_readMood 6 7 (.aload_n 0) 1 := o_42 ob_X8_readMood rfl rfl rfl
theorem dX8_readMood_7 : dc cX8_readMood 7 9 (.ldc 74) 2 := o_18 ob_X8_readMood rfl rfl rfl rfl
theorem dX8_readMood_9 : dc cX8_readMood 9 12 (.invokevirtual 76) 3 := o_182 ob_X8_readMood rfl rfl rfl rfl
theorem dX8_readMood_12 : dc cX8_readMood 12 15 (.ifCond .ne 5) 3 := o_154 ob_X8_readMood rfl rfl rfl rfl
theorem dX8_readMood_15 : dc cX8_readMood 15 16 (.iconst 0) 1 := o_3 ob_X8_readMood rfl rfl rfl
theorem dX8_readMood_16 : dc cX8_readMood 16 17 .ireturn 1 := o_172 ob_X8_readMood rfl rfl rfl
theorem dX8_readMood_17 : dc cX8_readMood 17 18 (.aload_n 0) 1 := o_42 ob_X8_readMood rfl rfl rfl
theorem dX8_readMood_18 : dc cX8_readMood 18 21 (.invokevirtual 61) 3 := o_182 ob_X8_readMood rfl rfl rfl rfl
theorem dX8_readMood_21 : dc cX8_readMood 21 22 (.aload_n 0) 1 := o_42 ob_X8_readMood rfl rfl rfl
theorem dX8_readMood_22 : dc cX8_readMood 22 25 (.invokevirtual 80) 3 := o_182 ob_X8_readMood rfl rfl rfl rfl
theorem dX8_readMood_25 : dc cX8_readMood 25 28 (.ifCond .ne 5) 3 := o_154 ob_X8_readMood rfl rfl rfl rfl
theorem dX8_readMood_28 : dc cX8_readMood 28 29 (.iconst 0) 1 := o_3 ob_X8_readMood rfl rfl rfl
theorem dX8_readMood_29 : dc cX8_readMood 29 30 .ireturn 1 := o_172 ob_X8_readMood rfl rfl rfl
theorem dX8_readMood_30 : dc cX8_readMood 30 31 (.aload_n 0) 1 := o_42 ob_X8_readMood rfl rfl rfl
theorem dX8_readMood_31 : dc cX8_readMood 31 34 (.getfield 26) 3 := o_180 ob_X8_readMood rfl rfl rfl rfl
theorem dX8_readMood_34 : dc cX8_readMood 34 35 (.iload_n 2) 1 := o_28 ob_X8_readMood rfl rfl rfl
theorem dX8_readMood_35 : dc cX8_readMood 35 36 (.aload_n 0) 1 := o_42 ob_X8_readMood rfl rfl rfl
theorem dX8_readMood_36 : dc cX8_readMood 36 39 (.getfield 41) 3 := o_180 ob_X8_readMood rfl rfl rfl rfl
theorem dX8_readMood_39 : dc cX8_readMood 39 40 .i2l 1 := o_133 ob_X8_readMood rfl rfl rfl
theorem dX8_readMood_40 : dc cX8_readMood 40 43 (.invokevirtual 44) 3 := o_182 ob_X8_readMood rfl rfl rfl rfl
theorem dX8_readMood_43 : dc cX8_readMood 43 44 (.iconst 0) 1 := o_3 ob_X8_readMood rfl rfl rfl
theorem dX8_readMood_44 : dc cX8_readMood 44 45 (.istore_n 3) 1 := o_62 ob_X8_readMood rfl rfl rfl
theorem dX8_readMood_45 : dc cX8_readMood 45 46 (.iload_n 3) 1 := o_29 ob_X8_readMood rfl rfl rfl
theorem dX8_readMood_46 : dc cX8_readMood 46 47 (.iconst 3) 1 := o_6 ob_X8_readMood rfl rfl rfl
theorem dX8_readMood_47 : dc cX8_readMood 47 50 (.if_icmp .ge 23) 3 := o_162 ob_X8_readMood rfl rfl rfl rfl
theorem dX8_readMood_50 : dc cX8_readMood 50 51 (.aload_n 0) 1 := o_42 ob_X8_readMood rfl rfl rfl
theorem dX8_readMood_51 : dc cX8_readMood 51 54 (.getfield 26) 3 := o_180 ob_X8_readMood rfl rfl rfl rfl
theorem dX8_readMood_54 : dc cX8_readMood 54 55 (.iload_n 2) 1 := o_28 ob_X8_readMood rfl rfl rfl
theorem dX8_readMood_55 : dc cX8_readMood 55 56 (.iconst 1) 1 := o_4 ob_X8_readMood rfl rfl rfl
theorem dX8_readMood_56 : dc cX8_readMood 56 57 .iadd 1 := o_96 ob_X8_readMood rfl rfl rfl
theorem dX8_readMood_57 : dc cX8_readMood 57 58 (.iload_n 3) 1 := o_29 ob_X8_readMood rfl rfl rfl
theorem dX8_readMood_58 : dc cX8_readMood 58 59 .iadd 1 := o_96 ob_X8_readMood rfl rfl rfl
theorem dX8_readMood_59 : dc cX8_readMood 59 60 (.iload_n 1) 1 := o_27 ob_X8_readMood rfl rfl rfl
theorem dX8_readMood_60 : dc cX8_readMood 60 61 .i2l 1 := o_133 ob_X8_readMood rfl rfl rfl
theorem dX8_readMood_61 : dc cX8_readMood 61 64 (.invokevirtual 44) 3 := o_182 ob_X8_readMood rfl rfl rfl rfl
theorem dX8_readMood_64 : dc cX8_readMood 64 67 (.iinc 3 1) 3 := o_132 ob_X8_readMood rfl rfl rfl rfl rfl
theorem dX8_readMood_67 : dc cX8_readMood 67 70 (.goto (-22)) 3 := o_167 ob_X8_readMood rfl rfl rfl rfl
theorem dX8_readMood_70 : dc cX8_readMood 70 71 (.aload_n 0) 1 := o_42 ob_X8_readMood rfl rfl rfl
theorem dX8_readMood_71 : dc cX8_readMood 71 74 (.invokevirtual 61) 3 := o_182 ob_X8_readMood rfl rfl rfl rfl
theorem dX8_readMood_74 : dc cX8_readMood 74 75 (.iconst 0) 1 := o_3 ob_X8_readMood rfl rfl rfl
theorem dX8_readMood_75 : dc cX8_readMood 75 76 (.istore_n 3) 1 := o_62 ob_X8_readMood rfl rfl rfl
theorem dX8_readMood_76 : dc cX8_readMood 76 77 (.iload_n 3) 1 := o_29 ob_X8_readMood rfl rfl rfl
theorem dX8_readMood_77 : dc cX8_readMood 77 80 (.sipush 400) 3 := o_17 ob_X8_readMood rfl rfl rfl rfl
theorem dX8_readMood_80 : dc cX8_readMood 80 83 (.if_icmp .ge 34) 3 := o_162 ob_X8_readMood rfl rfl rfl rfl
theorem dX8_readMood_83 : dc cX8_readMood 83 84 (.aload_n 0) 1 := o_42 ob_X8_readMood rfl rfl rfl
theorem dX8_readMood_84 : dc cX8_readMood 84 86 (.bipush 44) 2 := o_16 ob_X8_readMood rfl rfl rfl rfl
theorem dX8_readMood_86 : dc cX8_readMood 86 89 (.invokevirtual 68) 3 := o_182 ob_X8_readMood rfl rfl rfl rfl
theorem dX8_readMood_89 : dc cX8_readMood 89 92 (.ifCond .eq 25) 3 := o_153 ob_X8_readMood rfl rfl rfl rfl
theorem dX8_readMood_92 : dc cX8_readMood 92 93 (.aload_n 0) 1 := o_42 ob_X8_readMood rfl rfl rfl
theorem dX8_readMood_93 : dc cX8_readMood 93 96 (.invokevirtual 61) 3 := o_182 ob_X8_readMood rfl rfl rfl rfl
theorem dX8_readMood_96 : dc cX8_readMood 96 97 (.aload_n 0) 1 := o_42 ob_X8_readMood rfl rfl rfl
theorem dX8_readMood_97 : dc cX8_readMood 97 98 (.iload_n 2) 1 := o_28 ob_X8_readMood rfl rfl rfl
theorem dX8_readMood_98 : dc cX8_readMood 98 99 (.iconst 1) 1 := o_4 ob_X8_readMood rfl rfl rfl
theorem dX8_readMood_99 : dc cX8_readMood 99 100 .iadd 1 := o_96 ob_X8_readMood rfl rfl rfl
theorem dX8_readMood_100 : dc cX8_readMood 100 103 (.invokevirtual 84) 3 := o_182 ob_X8_readMood rfl rfl rfl rfl
theorem dX8_readMood_103 : dc cX8_readMood 103 106 (.ifCond .ne 5) 3 := o_154 ob_X8_readMood rfl rfl rfl rfl
theorem dX8_readMood_106 : dc cX8_readMood 106 107 (.iconst 0) 1 := o_3 ob_X8_readMood rfl rfl rfl
theorem dX8_readMood_107 : dc cX8_readMood 107 108 .ireturn 1 := o_172 ob_X8_readMood rfl rfl rfl
theorem dX8_readMood_108 : dc cX8_readMood 108 111 (.iinc 3 1) 3 := o_132 ob_X8_readMood rfl rfl rfl rfl rfl
theorem dX8_readMood_111 : dc cX8_readMood 111 114 (.goto (-35)) 3 := o_167 ob_X8_readMood rfl rfl rfl rfl
theorem dX8_readMood_114 : dc cX8_readMood 114 115 (.iconst 1) 1 := o_4 ob_X8_readMood rfl rfl rfl
theorem dX8_readMood_115 : dc cX8_readMood 115 116 .ireturn 1 := o_172 ob_X8_readMood rfl rfl rfl
def F_Tape_readMood_b76 (x2 : Int32) (z : Int32 × Mem) : Option ((Int32 × Mem) ⊕ ((Mem) ⊕ ((Mem)))) :=
  if 400 ≤ z.1 then some (.inr (.inr z.2)) else (F_Tape_isSign 44 z.2).bind fun r6 => if r6 = true then (F_Tape_step z.2).bind fun r7 => (F_Tape_readSeen (x2 + 1) r7).bind fun r8 => if r8.1 = true then some (.inl ((z.1 + 1, r8.2))) else some (.inr (.inl r8.2)) else some (.inr (.inr z.2))
def F_Tape_readMood_l76 (x2 : Int32) (x3 : Int32) (M : Mem) : Option (Bool × Mem) :=
  (iter (F_Tape_readMood_b76 x2) FUEL (x3, M)).bind fun q => match q with
    | .inl r => some ((false, r))
    | .inr r => some ((true, r))
def F_Tape_readMood_j70 (x2 : Int32) (M : Mem) : Option (Bool × Mem) :=
  (F_Tape_step M).bind fun r5 => F_Tape_readMood_l76 x2 0 r5
def F_Tape_readMood_b45 (x1 : Int32) (x2 : Int32) (z : Int32 × Mem) : Option ((Int32 × Mem) ⊕ ((Mem))) :=
  if 3 ≤ z.1 then some (.inr z.2) else (F_Row_put 31 13 ((x2 + 1) + z.1) x1.toInt64 z.2).bind fun r9 => some (.inl ((z.1 + 1, r9)))
def F_Tape_readMood_l45 (x1 : Int32) (x2 : Int32) (x3 : Int32) (M : Mem) : Option (Bool × Mem) :=
  (iter (F_Tape_readMood_b45 x1 x2) FUEL (x3, M)).bind fun r => F_Tape_readMood_j70 x2 r
def F_Tape_readMood (x1 : Int32) (M : Mem) : Option (Bool × Mem) :=
  (F_Tape_isWord 0 M).bind fun r1 => if r1 = true then (F_Tape_step M).bind fun r2 => (F_Tape_isNumber r2).bind fun r3 => if r3 = true then (F_Row_put 31 13 (1 + (4 * x1)) ((r2.1 27 7).toInt64) r2).bind fun r4 => F_Tape_readMood_l45 x1 (1 + (4 * x1)) 0 r4 else some ((false, r2)) else some ((false, M))
set_option maxRecDepth 100000 in
set_option maxHeartbeats 4000000 in
theorem K_Tape_readMood (l : Launch) (g : GB) (htr : l.stackTraces = false) (x1 : Int32) (M : Mem) (rr : Bool) (MZ : Mem) (h : F_Tape_readMood x1 M = some (rr, MZ)) : CT l g yX8_readMood (.code yX8_readMood cX8_readMood 4 (some .boolean) :: wAll) { frames := 6, cells := 0, slots := 0, locals := 132 } [.ref (g.2.1 27), .int x1] M (.inl (some (.int (b2i rr)))) MZ := by
  refine CT.of [(0, .ref (g.2.1 27)), (1, .int x1)] (by decide +kernel) (Nat.le_of_ble_eq_true rfl) rfl htr ?_
  intro p e s m args below meth c K hr ht
  skip
  obtain ⟨PHI, hPHI, h⟩ : ∃ PHI : Bool × Mem → Prop, (∀ a, PHI a → a = (rr, MZ)) ∧ wpO (F_Tape_readMood x1 M) PHI := ⟨fun a => a = (rr, MZ), fun _ h => h, _, h, rfl⟩
  have J76 : ∀ (x2 : Int32) (x3 : Int32) (M : Mem), wpO (F_Tape_readMood_l76 x2 x3 M) PHI → GG p l e { frames := 6, cells := 0, slots := 0, locals := 132 } s m args below meth c g 4 (vx_MQ below (Qn g s.heap.size (.inl (some (.int (b2i rr)))) MZ) (QX g s.heap.size (.inl (some (.int (b2i rr)))) MZ) args s 0 0 (AS g s.heap.size)) 0 0 76 [(0, .ref (g.2.1 27)), (2, .int x2), (3, .int x3)] [] M := by
    intro x2 x3 M h
    unfold F_Tape_readMood_l76 at h
    refine loop_C2 (G := fun (x3 : Int32) (M : Mem) => GG p l e { frames := 6, cells := 0, slots := 0, locals := 132 } s m args below meth c g 4 (vx_MQ below (Qn g s.heap.size (.inl (some (.int (b2i rr)))) MZ) (QX g s.heap.size (.inl (some (.int (b2i rr)))) MZ) args s 0 0 (AS g s.heap.size)) 0 0 76 [(0, .ref (g.2.1 27)), (2, .int x2), (3, .int x3)] [] M) (body := F_Tape_readMood_b76 x2) ?_ FUEL _ _ (wpO_bind h)
    intro P76 E76 X76
    intro z h
    unfold F_Tape_readMood_b76 at h
    refine G_iload_n rfl 2 rfl K dX8_readMood_76 ?_
    refine G_sipush (v := 400) rfl K dX8_readMood_77 ?_
    refine G_icmp_ge (tgt := 114) K dX8_readMood_80 (by decide) (fun hc => ?_) (fun hc => ?_)
    · have h := wpO_t h hc
      have h := X76 _ (wpO_some h)
      try dsimp only at h
      refine G_iconst (v := 1) rfl K dX8_readMood_114 ?_
      cases hPHI _ (wpO_some h)
      exact G_iret K hr rfl dX8_readMood_115 (Nat.le_of_ble_eq_true rfl) (Nat.le_of_ble_eq_true rfl) ⟨rfl, rfl⟩
    · have h := wpO_f h hc
      refine G_aload_n rfl 0 rfl K dX8_readMood_83 ?_
      refine G_bipush (v := 44) rfl K dX8_readMood_84 ?_
      obtain ⟨r6, e6, h⟩ := wpO_bind h
      refine G_callVi (ci := 8) [.int 44] [] K dX8_readMood_86 wv_854 yd_X8_isSign (Nat.le_of_ble_eq_true rfl) (sh_27 _ _) rfl (by decide) (by decide) rfl rfl (Nat.le_of_ble_eq_true rfl) (K_Tape_isSign l g htr 44 z.2 _ e6) ?_
      refine G_ifb_eq (tgt := 114) K dX8_readMood_89 (by decide) (fun hc => ?_) (fun hc => ?_)
      · have h := wpO_bf h hc
        have h := X76 _ (wpO_some h)
        try dsimp only at h
        refine G_iconst (v := 1) rfl K dX8_readMood_114 ?_
        cases hPHI _ (wpO_some h)
        exact G_iret K hr rfl dX8_readMood_115 (Nat.le_of_ble_eq_true rfl) (Nat.le_of_ble_eq_true rfl) ⟨rfl, rfl⟩
      · have h := wpO_t h hc
        refine G_aload_n rfl 0 rfl K dX8_readMood_92 ?_
        obtain ⟨r7, e7, h⟩ := wpO_bind h
        refine G_callVv (ci := 8) [] [] K dX8_readMood_93 wv_776 yd_X8_step (Nat.le_of_ble_eq_true rfl) (sh_27 _ _) rfl (by decide) (by decide) rfl rfl (Nat.le_of_ble_eq_true rfl) (K_Tape_step l g htr  z.2 _ e7) ?_
        refine G_aload_n rfl 0 rfl K dX8_readMood_96 ?_
        refine G_iload_n rfl 1 rfl K dX8_readMood_97 ?_
        refine G_iconst (v := 1) rfl K dX8_readMood_98 ?_
        refine G_iadd K dX8_readMood_99 ?_
        obtain ⟨r8, e8, h⟩ := wpO_bind h
        refine G_callVi (ci := 8) [.int (x2 + 1)] [] K dX8_readMood_100 wv_858 yd_X8_readSeen (Nat.le_of_ble_eq_true rfl) (sh_27 _ _) rfl (by decide) (by decide) rfl rfl (Nat.le_of_ble_eq_true rfl) (K_Tape_readSeen l g htr (x2 + 1) r7 _ _ e8) ?_
        refine G_ifb_ne (tgt := 108) K dX8_readMood_103 (by decide) (fun hc => ?_) (fun hc => ?_)
        · have h := wpO_t h hc
          refine G_iinc (v := z.1 + 1) 2 rfl K dX8_readMood_108 rfl (Nat.le_of_ble_eq_true rfl) rfl ?_
          refine G_goto (tgt := 76) K dX8_readMood_111 (by decide) ?_
          exact G_lv (lv' := [(0, .ref (g.2.1 27)), (2, .int x2), (3, .int (z.1 + 1))]) [1, 2, 0] rfl (E76 (z.1 + 1) r8.2 (wpO_some h))
        · have h := wpO_bf h hc
          have h := X76 _ (wpO_some h)
          try dsimp only at h
          refine G_iconst (v := 0) rfl K dX8_readMood_106 ?_
          cases hPHI _ (wpO_some h)
          exact G_iret K hr rfl dX8_readMood_107 (Nat.le_of_ble_eq_true rfl) (Nat.le_of_ble_eq_true rfl) ⟨rfl, rfl⟩
  have J70 : ∀ (x2 : Int32) (M : Mem), wpO (F_Tape_readMood_j70 x2 M) PHI → GG p l e { frames := 6, cells := 0, slots := 0, locals := 132 } s m args below meth c g 4 (vx_MQ below (Qn g s.heap.size (.inl (some (.int (b2i rr)))) MZ) (QX g s.heap.size (.inl (some (.int (b2i rr)))) MZ) args s 0 0 (AS g s.heap.size)) 0 0 70 [(0, .ref (g.2.1 27)), (2, .int x2)] [] M := by
    intro x2 M h
    unfold F_Tape_readMood_j70 at h
    refine G_aload_n rfl 0 rfl K dX8_readMood_70 ?_
    obtain ⟨r5, e5, h⟩ := wpO_bind h
    refine G_callVv (ci := 8) [] [] K dX8_readMood_71 wv_776 yd_X8_step (Nat.le_of_ble_eq_true rfl) (sh_27 _ _) rfl (by decide) (by decide) rfl rfl (Nat.le_of_ble_eq_true rfl) (K_Tape_step l g htr  M _ e5) ?_
    refine G_iconst (v := 0) rfl K dX8_readMood_74 ?_
    refine G_istore_n rfl K dX8_readMood_75 (Nat.le_of_ble_eq_true rfl) rfl ?_
    exact G_lv (lv' := [(0, .ref (g.2.1 27)), (2, .int x2), (3, .int 0)]) [1, 2, 0] rfl (J76 x2 0 r5 h)
  have J45 : ∀ (x1 : Int32) (x2 : Int32) (x3 : Int32) (M : Mem), wpO (F_Tape_readMood_l45 x1 x2 x3 M) PHI → GG p l e { frames := 6, cells := 0, slots := 0, locals := 132 } s m args below meth c g 4 (vx_MQ below (Qn g s.heap.size (.inl (some (.int (b2i rr)))) MZ) (QX g s.heap.size (.inl (some (.int (b2i rr)))) MZ) args s 0 0 (AS g s.heap.size)) 0 0 45 [(0, .ref (g.2.1 27)), (1, .int x1), (2, .int x2), (3, .int x3)] [] M := by
    intro x1 x2 x3 M h
    unfold F_Tape_readMood_l45 at h
    refine loop_C2 (G := fun (x3 : Int32) (M : Mem) => GG p l e { frames := 6, cells := 0, slots := 0, locals := 132 } s m args below meth c g 4 (vx_MQ below (Qn g s.heap.size (.inl (some (.int (b2i rr)))) MZ) (QX g s.heap.size (.inl (some (.int (b2i rr)))) MZ) args s 0 0 (AS g s.heap.size)) 0 0 45 [(0, .ref (g.2.1 27)), (1, .int x1), (2, .int x2), (3, .int x3)] [] M) (body := F_Tape_readMood_b45 x1 x2) ?_ FUEL _ _ (wpO_bind h)
    intro P45 E45 X45
    intro z h
    unfold F_Tape_readMood_b45 at h
    refine G_iload_n rfl 3 rfl K dX8_readMood_45 ?_
    refine G_iconst (v := 3) rfl K dX8_readMood_46 ?_
    refine G_icmp_ge (tgt := 70) K dX8_readMood_47 (by decide) (fun hc => ?_) (fun hc => ?_)
    · have h := wpO_t h hc
      have h := X45 _ (wpO_some h)
      try dsimp only at h
      exact G_lv (lv' := [(0, .ref (g.2.1 27)), (2, .int x2)]) [0, 2] rfl (J70 x2 z.2 h)
    · have h := wpO_f h hc
      refine G_aload_n rfl 0 rfl K dX8_readMood_50 ?_
      refine G_get (ci := 8) (k := 2) K rfl in_X8 wd_151 rfl dX8_readMood_51 (Nat.le_of_ble_eq_true rfl) (sh_27 _ _) (Nat.le_of_ble_eq_true rfl) rfl ?_
      refine G_iload_n rfl 2 rfl K dX8_readMood_54 ?_
      refine G_iconst (v := 1) rfl K dX8_readMood_55 ?_
      refine G_iadd K dX8_readMood_56 ?_
      refine G_iload_n rfl 3 rfl K dX8_readMood_57 ?_
      refine G_iadd K dX8_readMood_58 ?_
      refine G_iload_n rfl 1 rfl K dX8_readMood_59 ?_
      refine G_i2l K dX8_readMood_60 ?_
      obtain ⟨r9, e9, h⟩ := wpO_bind h
      refine G_callVv (ci := 7) [.int ((x2 + 1) + z.1), .long x1.toInt64] [] K dX8_readMood_61 wv_451 yd_X7_put (Nat.le_of_ble_eq_true rfl) (sh_30 _ _) rfl (by decide) (by decide) rfl rfl (Nat.le_of_ble_eq_true rfl) (K_Row_put l g htr 30 31 13 isRow_30 ((x2 + 1) + z.1) x1.toInt64 z.2 _ e9) ?_
      refine G_iinc (v := z.1 + 1) 3 rfl K dX8_readMood_64 rfl (Nat.le_of_ble_eq_true rfl) rfl ?_
      refine G_goto (tgt := 45) K dX8_readMood_67 (by decide) ?_
      exact G_lv (lv' := [(0, .ref (g.2.1 27)), (1, .int x1), (2, .int x2), (3, .int (z.1 + 1))]) [1, 2, 3, 0] rfl (E45 (z.1 + 1) r9 (wpO_some h))
  unfold F_Tape_readMood at h
  refine G_iconst (v := 1) rfl K dX8_readMood_0 ?_
  refine G_iconst (v := 4) rfl K dX8_readMood_1 ?_
  refine G_iload_n rfl 1 rfl K dX8_readMood_2 ?_
  refine G_imul K dX8_readMood_3 ?_
  refine G_iadd K dX8_readMood_4 ?_
  refine G_istore_n rfl K dX8_readMood_5 (Nat.le_of_ble_eq_true rfl) rfl ?_
  refine G_aload_n rfl 1 rfl K dX8_readMood_6 ?_
  refine G_ldcS (q := g.2.1 ((NC + 0 + 0))) K K.2.1.2.2.2.2.1.1.1 dX8_readMood_7 ?_
  obtain ⟨r1, e1, h⟩ := wpO_bind h
  refine G_callVi (ci := 8) [.ref (g.2.1 ((NC + 0 + 0)))] [] K dX8_readMood_9 wv_798 yd_X8_isWord (Nat.le_of_ble_eq_true rfl) (sh_27 _ _) rfl (by decide) (by decide) rfl rfl (Nat.le_of_ble_eq_true rfl) (K_Tape_isWord l g htr 0 0 isStr_0_0 M _ e1) ?_
  refine G_ifb_ne (tgt := 17) K dX8_readMood_12 (by decide) (fun hc => ?_) (fun hc => ?_)
  · have h := wpO_t h hc
    refine G_aload_n rfl 1 rfl K dX8_readMood_17 ?_
    obtain ⟨r2, e2, h⟩ := wpO_bind h
    refine G_callVv (ci := 8) [] [] K dX8_readMood_18 wv_776 yd_X8_step (Nat.le_of_ble_eq_true rfl) (sh_27 _ _) rfl (by decide) (by decide) rfl rfl (Nat.le_of_ble_eq_true rfl) (K_Tape_step l g htr  M _ e2) ?_
    refine G_aload_n rfl 1 rfl K dX8_readMood_21 ?_
    obtain ⟨r3, e3, h⟩ := wpO_bind h
    refine G_callVi (ci := 8) [] [] K dX8_readMood_22 wv_850 yd_X8_isNumber (Nat.le_of_ble_eq_true rfl) (sh_27 _ _) rfl (by decide) (by decide) rfl rfl (Nat.le_of_ble_eq_true rfl) (K_Tape_isNumber l g htr  r2 _ e3) ?_
    refine G_ifb_ne (tgt := 30) K dX8_readMood_25 (by decide) (fun hc => ?_) (fun hc => ?_)
    · have h := wpO_t h hc
      refine G_aload_n rfl 1 rfl K dX8_readMood_30 ?_
      refine G_get (ci := 8) (k := 2) K rfl in_X8 wd_151 rfl dX8_readMood_31 (Nat.le_of_ble_eq_true rfl) (sh_27 _ _) (Nat.le_of_ble_eq_true rfl) rfl ?_
      refine G_iload_n rfl 0 rfl K dX8_readMood_34 ?_
      refine G_aload_n rfl 1 rfl K dX8_readMood_35 ?_
      refine G_get (ci := 8) (k := 7) K rfl in_X8 wd_157 rfl dX8_readMood_36 (Nat.le_of_ble_eq_true rfl) (sh_27 _ _) (Nat.le_of_ble_eq_true rfl) rfl ?_
      refine G_i2l K dX8_readMood_39 ?_
      obtain ⟨r4, e4, h⟩ := wpO_bind h
      refine G_callVv (ci := 7) [.int (1 + (4 * x1)), .long ((r2.1 27 7).toInt64)] [] K dX8_readMood_40 wv_451 yd_X7_put (Nat.le_of_ble_eq_true rfl) (sh_30 _ _) rfl (by decide) (by decide) rfl rfl (Nat.le_of_ble_eq_true rfl) (K_Row_put l g htr 30 31 13 isRow_30 (1 + (4 * x1)) ((r2.1 27 7).toInt64) r2 _ e4) ?_
      refine G_iconst (v := 0) rfl K dX8_readMood_43 ?_
      refine G_istore_n rfl K dX8_readMood_44 (Nat.le_of_ble_eq_true rfl) rfl ?_
      exact G_lv (lv' := [(0, .ref (g.2.1 27)), (1, .int x1), (2, .int (1 + (4 * x1))), (3, .int 0)]) [2, 3, 1, 0] rfl (J45 x1 (1 + (4 * x1)) 0 r4 h)
    · have h := wpO_bf h hc
      refine G_iconst (v := 0) rfl K dX8_readMood_28 ?_
      cases hPHI _ (wpO_some h)
      exact G_iret K hr rfl dX8_readMood_29 (Nat.le_of_ble_eq_true rfl) (Nat.le_of_ble_eq_true rfl) ⟨rfl, rfl⟩
  · have h := wpO_bf h hc
    refine G_iconst (v := 0) rfl K dX8_readMood_15 ?_
    cases hPHI _ (wpO_some h)
    exact G_iret K hr rfl dX8_readMood_16 (Nat.le_of_ble_eq_true rfl) (Nat.le_of_ble_eq_true rfl) ⟨rfl, rfl⟩
def on_X8_firstStray : Nat := 0xac1cdaffa70103843d04150600a21c041509009f021c11009f02041504363000b61d1d00b42a2700a2061d3e1b3d02
theorem ob_X8_firstStray : OKB cX8_firstStray on_X8_firstStray 47 := ⟨by decide +kernel, by decide +kernel⟩
theorem dX8_firstStray_0 : dc cX8_firstStray 0 1 (.iconst (-1)) 1 := o_2 ob_X8_firstStray rfl rfl rfl
theorem dX8_firstStray_1 : dc cX8_firstStray 1 2 (.istore_n 2) 1 := o_61 ob_X8_firstStray rfl rfl rfl
theorem dX8_firstStray_2 : dc cX8_firstStray 2 3 (.iload_n 1) 1 := o_27 ob_X8_firstStray rfl rfl rfl
theorem dX8_firstStray_3 : dc cX8_firstStray 3 4 (.istore_n 3) 1 := o_62 ob_X8_firstStray rfl rfl rfl
theorem dX8_firstStray_4 : dc cX8_firstStray 4 5 (.iload_n 3) 1 := o_29 ob_X8_firstStray rfl rfl rfl
theorem dX8_firstStray_5 : dc cX8_firstStray 5 6 (.iconst 3) 1 := o_6 ob_X8_firstStray rfl rfl rfl
theorem dX8_firstStray_6 : dc cX8_firstStray 6 9 (.if_icmp .ge 39) 3 := o_162 ob_X8_firstStray rfl rfl rfl rfl
theorem dX8_firstStray_9 : dc cX8_firstStray 9 10 (.aload_n 0) 1 := o_42 ob_X8_firstStray rfl rfl rfl
theorem dX8_firstStray_10 : dc cX8_firstStray 10 13 (.getfield 29) 3 := o_180 ob_X8_firstStray rfl rfl rfl rfl
theorem dX8_firstStray_13 : dc cX8_firstStray 13 14 (.iload_n 3) 1 := o_29 ob_X8_firstStray rfl rfl rfl
theorem dX8_firstStray_14 : dc cX8_firstStray 14 17 (.invokevirtual 48) 3 := o_182 ob_X8_firstStray rfl rfl rfl rfl
theorem dX8_firstStray_17 : dc cX8_firstStray 17 19 (.istore 4) 2 := o_54 ob_X8_firstStray rfl rfl rfl rfl
theorem dX8_firstStray_19 : dc cX8_firstStray 19 21 (.iload 4) 2 := o_21 ob_X8_firstStray rfl rfl rfl rfl
theorem dX8_firstStray_21 : dc cX8_firstStray 21 22 (.iconst (-1)) 1 := o_2 ob_X8_firstStray rfl rfl rfl
theorem dX8_firstStray_22 : dc cX8_firstStray 22 25 (.if_icmp .eq 17) 3 := o_159 ob_X8_firstStray rfl rfl rfl rfl
theorem dX8_firstStray_25 : dc cX8_firstStray 25 26 (.iload_n 2) 1 := o_28 ob_X8_firstStray rfl rfl rfl
theorem dX8_firstStray_26 : dc cX8_firstStray 26 27 (.iconst (-1)) 1 := o_2 ob_X8_firstStray rfl rfl rfl
theorem dX8_firstStray_27 : dc cX8_firstStray 27 30 (.if_icmp .eq 9) 3 := o_159 ob_X8_firstStray rfl rfl rfl rfl
theorem dX8_firstStray_30 : dc cX8_firstStray 30 32 (.iload 4) 2 := o_21 ob_X8_firstStray rfl rfl rfl rfl
theorem dX8_firstStray_32 : dc cX8_firstStray 32 33 (.iload_n 2) 1 := o_28 ob_X8_firstStray rfl rfl rfl
theorem dX8_firstStray_33 : dc cX8_firstStray 33 36 (.if_icmp .ge 6) 3 := o_162 ob_X8_firstStray rfl rfl rfl rfl
theorem dX8_firstStray_36 : dc cX8_firstStray 36 38 (.iload 4) 2 := o_21 ob_X8_firstStray rfl rfl rfl rfl
theorem dX8_firstStray_38 : dc cX8_firstStray 38 39 (.istore_n 2) 1 := o_61 ob_X8_firstStray rfl rfl rfl
theorem dX8_firstStray_39 : dc cX8_firstStray 39 42 (.iinc 3 1) 3 := o_132 ob_X8_firstStray rfl rfl rfl rfl rfl
theorem dX8_firstStray_42 : dc cX8_firstStray 42 45 (.goto (-38)) 3 := o_167 ob_X8_firstStray rfl rfl rfl rfl
theorem dX8_firstStray_45 : dc cX8_firstStray 45 46 (.iload_n 2) 1 := o_28 ob_X8_firstStray rfl rfl rfl
theorem dX8_firstStray_46 : dc cX8_firstStray 46 47 .ireturn 1 := o_172 ob_X8_firstStray rfl rfl rfl
def F_Tape_firstStray_b4 (M : Mem) (z : Int32 × Int32) : Option ((Int32 × Int32) ⊕ ((Int32))) :=
  if 3 ≤ z.2 then some (.inr z.1) else (F_Row_small 33 3 z.2 M).bind fun r1 => if r1 = ((-1)) then some (.inl ((z.1, z.2 + 1))) else if z.1 = ((-1)) then some (.inl ((r1, z.2 + 1))) else if z.1 ≤ r1 then some (.inl ((z.1, z.2 + 1))) else some (.inl ((r1, z.2 + 1)))
def F_Tape_firstStray_l4 (x2 : Int32) (x3 : Int32) (M : Mem) : Option (Int32) :=
  (iter (F_Tape_firstStray_b4 M) FUEL (x2, x3)).bind fun r => some r
def F_Tape_firstStray (x1 : Int32) (M : Mem) : Option (Int32) :=
  F_Tape_firstStray_l4 ((-1)) x1 M
set_option maxRecDepth 100000 in
set_option maxHeartbeats 4000000 in
theorem K_Tape_firstStray (l : Launch) (g : GB) (htr : l.stackTraces = false) (x1 : Int32) (M : Mem) (rr : Int32) (h : F_Tape_firstStray x1 M = some rr) : CT l g yX8_firstStray (.code yX8_firstStray cX8_firstStray 5 (some .int) :: wAll) { frames := 1, cells := 0, slots := 0, locals := 21 } [.ref (g.2.1 27), .int x1] M (.inl (some (.int rr))) M := by
  refine CT.of [(0, .ref (g.2.1 27)), (1, .int x1)] (by decide +kernel) (Nat.le_of_ble_eq_true rfl) rfl htr ?_
  intro p e s m args below meth c K hr ht
  skip
  obtain ⟨PHI, hPHI, h⟩ : ∃ PHI : Int32 → Prop, (∀ a, PHI a → a = rr) ∧ wpO (F_Tape_firstStray x1 M) PHI := ⟨fun a => a = rr, fun _ h => h, _, h, rfl⟩
  have J4 : ∀ (x2 : Int32) (x3 : Int32), wpO (F_Tape_firstStray_l4 x2 x3 M) PHI → GG p l e { frames := 1, cells := 0, slots := 0, locals := 21 } s m args below meth c g 5 (vx_MQ below (Qn g s.heap.size (.inl (some (.int rr))) M) (QX g s.heap.size (.inl (some (.int rr))) M) args s 0 0 (AS g s.heap.size)) 0 0 4 [(0, .ref (g.2.1 27)), (2, .int x2), (3, .int x3)] [] M := by
    intro x2 x3 h
    unfold F_Tape_firstStray_l4 at h
    refine loop_C2 (G := fun (x2 : Int32) (x3 : Int32) => GG p l e { frames := 1, cells := 0, slots := 0, locals := 21 } s m args below meth c g 5 (vx_MQ below (Qn g s.heap.size (.inl (some (.int rr))) M) (QX g s.heap.size (.inl (some (.int rr))) M) args s 0 0 (AS g s.heap.size)) 0 0 4 [(0, .ref (g.2.1 27)), (2, .int x2), (3, .int x3)] [] M) (body := F_Tape_firstStray_b4 M) ?_ FUEL _ _ (wpO_bind h)
    intro P4 E4 X4
    intro z h
    unfold F_Tape_firstStray_b4 at h
    refine G_iload_n rfl 2 rfl K dX8_firstStray_4 ?_
    refine G_iconst (v := 3) rfl K dX8_firstStray_5 ?_
    refine G_icmp_ge (tgt := 45) K dX8_firstStray_6 (by decide) (fun hc => ?_) (fun hc => ?_)
    · have h := wpO_t h hc
      have h := X4 _ (wpO_some h)
      try dsimp only at h
      refine G_iload_n rfl 1 rfl K dX8_firstStray_45 ?_
      cases hPHI _ (wpO_some h)
      exact G_iret K hr rfl dX8_firstStray_46 (Nat.le_of_ble_eq_true rfl) (Nat.le_of_ble_eq_true rfl) ⟨rfl, rfl⟩
    · have h := wpO_f h hc
      refine G_aload_n rfl 0 rfl K dX8_firstStray_9 ?_
      refine G_get (ci := 8) (k := 3) K rfl in_X8 wd_153 rfl dX8_firstStray_10 (Nat.le_of_ble_eq_true rfl) (sh_27 _ _) (Nat.le_of_ble_eq_true rfl) rfl ?_
      refine G_iload_n rfl 2 rfl K dX8_firstStray_13 ?_
      obtain ⟨r1, e1, h⟩ := wpO_bind h
      refine G_callVi (ci := 7) [.int z.2] [] K dX8_firstStray_14 wv_784 yd_X7_small (Nat.le_of_ble_eq_true rfl) (sh_32 _ _) rfl (by decide) (by decide) rfl rfl (Nat.le_of_ble_eq_true rfl) (K_Row_small l g htr 32 33 3 isRow_32 z.2 M _ e1) ?_
      refine G_istore K dX8_firstStray_17 (Nat.le_of_ble_eq_true rfl) rfl ?_
      refine G_iload 0 rfl K dX8_firstStray_19 ?_
      refine G_iconst (v := (-1)) rfl K dX8_firstStray_21 ?_
      refine G_icmp_eq (tgt := 39) K dX8_firstStray_22 (by decide) (fun hc => ?_) (fun hc => ?_)
      · have h := wpO_t h hc
        refine G_iinc (v := z.2 + 1) 3 rfl K dX8_firstStray_39 rfl (Nat.le_of_ble_eq_true rfl) rfl ?_
        refine G_goto (tgt := 4) K dX8_firstStray_42 (by decide) ?_
        exact G_lv (lv' := [(0, .ref (g.2.1 27)), (2, .int z.1), (3, .int (z.2 + 1))]) [2, 3, 0] rfl (E4 z.1 (z.2 + 1) (wpO_some h))
      · have h := wpO_f h hc
        refine G_iload_n rfl 2 rfl K dX8_firstStray_25 ?_
        refine G_iconst (v := (-1)) rfl K dX8_firstStray_26 ?_
        refine G_icmp_eq (tgt := 36) K dX8_firstStray_27 (by decide) (fun hc => ?_) (fun hc => ?_)
        · have h := wpO_t h hc
          refine G_iload 0 rfl K dX8_firstStray_36 ?_
          refine G_istore_n rfl K dX8_firstStray_38 (Nat.le_of_ble_eq_true rfl) rfl ?_
          refine G_iinc (v := z.2 + 1) 3 rfl K dX8_firstStray_39 rfl (Nat.le_of_ble_eq_true rfl) rfl ?_
          refine G_goto (tgt := 4) K dX8_firstStray_42 (by decide) ?_
          exact G_lv (lv' := [(0, .ref (g.2.1 27)), (2, .int r1), (3, .int (z.2 + 1))]) [3, 1, 0] rfl (E4 r1 (z.2 + 1) (wpO_some h))
        · have h := wpO_f h hc
          refine G_iload 0 rfl K dX8_firstStray_30 ?_
          refine G_iload_n rfl 2 rfl K dX8_firstStray_32 ?_
          refine G_icmp_ge (tgt := 39) K dX8_firstStray_33 (by decide) (fun hc => ?_) (fun hc => ?_)
          · have h := wpO_t h hc
            refine G_iinc (v := z.2 + 1) 3 rfl K dX8_firstStray_39 rfl (Nat.le_of_ble_eq_true rfl) rfl ?_
            refine G_goto (tgt := 4) K dX8_firstStray_42 (by decide) ?_
            exact G_lv (lv' := [(0, .ref (g.2.1 27)), (2, .int z.1), (3, .int (z.2 + 1))]) [2, 3, 0] rfl (E4 z.1 (z.2 + 1) (wpO_some h))
          · have h := wpO_f h hc
            refine G_iload 0 rfl K dX8_firstStray_36 ?_
            refine G_istore_n rfl K dX8_firstStray_38 (Nat.le_of_ble_eq_true rfl) rfl ?_
            refine G_iinc (v := z.2 + 1) 3 rfl K dX8_firstStray_39 rfl (Nat.le_of_ble_eq_true rfl) rfl ?_
            refine G_goto (tgt := 4) K dX8_firstStray_42 (by decide) ?_
            exact G_lv (lv' := [(0, .ref (g.2.1 27)), (2, .int r1), (3, .int (z.2 + 1))]) [3, 1, 0] rfl (E4 r1 (z.2 + 1) (wpO_some h))
  unfold F_Tape_firstStray at h
  refine G_iconst (v := (-1)) rfl K dX8_firstStray_0 ?_
  refine G_istore_n rfl K dX8_firstStray_1 (Nat.le_of_ble_eq_true rfl) rfl ?_
  refine G_iload_n rfl 2 rfl K dX8_firstStray_2 ?_
  refine G_istore_n rfl K dX8_firstStray_3 (Nat.le_of_ble_eq_true rfl) rfl ?_
  exact G_lv (lv' := [(0, .ref (g.2.1 27)), (2, .int ((-1))), (3, .int x1)]) [2, 1, 0] rfl (J4 ((-1)) x1 h)
theorem yd_X8_firstStray : ydN yX8_firstStray 1 := ⟨by decide, by decide, by decide +kernel⟩
theorem yd_X8_readMood : ydN yX8_readMood 1 := ⟨by decide, by decide, by decide +kernel⟩
theorem wv_774 : wdV "KeptWell$Tape" 55 yX7_setAll cX7_setAll 4 none := ⟨wd_774, wd_502, wd_503, wd_3, wd_504⟩
theorem wv_865 : wdV "KeptWell$Tape" 71 yX8_firstStray cX8_firstStray 5 (some .int) := ⟨wd_865, wd_867, ws_X8_firstStray, wd_5, wd_868⟩
theorem wv_793 : wdV "KeptWell$Tape" 64 yX8_readMood cX8_readMood 4 (some .boolean) := ⟨wd_793, wd_795, ws_X8_readMood, wd_5, wd_796⟩
def on_X8_readWay : Nat := 0xac2300b42a0700a74700b61b2a0b009a2000b42a2c00b6851b031a00b42ad3ffa73d00b62adaff991c3d4400b63b102a010184ac2300b42a08009a4000b61b2a0b009f061b2a00a3061b2f00991c3d043c033d00b62a2600b5032a3700b63b00141d00b42a3700b6091a00b42a
theorem ob_X8_readWay : OKB cX8_readWay on_X8_readWay 109 := ⟨by decide +kernel, by decide +kernel⟩
theorem dX8_readWay_0 : dc cX8_readWay 0 1 (.aload_n 0) 1 := o_42 ob_X8_readWay rfl rfl rfl
theorem dX8_readWay_1 : dc cX8_readWay 1 4 (.getfield 26) 3 := o_180 ob_X8_readWay rfl rfl rfl rfl
theorem dX8_readWay_4 : dc cX8_readWay 4 5 (.lconst 0) 1 := o_9 ob_X8_readWay rfl rfl rfl
theorem dX8_readWay_5 : dc cX8_readWay 5 8 (.invokevirtual 55) 3 := o_182 ob_X8_readWay rfl rfl rfl rfl
theorem dX8_readWay_8 : dc cX8_readWay 8 9 (.aload_n 0) 1 := o_42 ob_X8_readWay rfl rfl rfl
theorem dX8_readWay_9 : dc cX8_readWay 9 12 (.getfield 29) 3 := o_180 ob_X8_readWay rfl rfl rfl rfl
theorem dX8_readWay_12 : dc cX8_readWay 12 15 (.ldc2_w 59) 3 := o_20 ob_X8_readWay rfl rfl rfl rfl
theorem dX8_readWay_15 : dc cX8_readWay 15 18 (.invokevirtual 55) 3 := o_182 ob_X8_readWay rfl rfl rfl rfl
theorem dX8_readWay_18 : dc cX8_readWay 18 19 (.aload_n 0) 1 := o_42 ob_X8_readWay rfl rfl rfl
theorem dX8_readWay_19 : dc cX8_readWay 19 20 (.iconst 0) 1 := o_3 ob_X8_readWay rfl rfl rfl
theorem dX8_readWay_20 : dc cX8_readWay 20 23 (.putfield 38) 3 := o_181 ob_X8_readWay rfl rfl rfl rfl
theorem dX8_readWay_23 : dc cX8_readWay 23 24 (.aload_n 0) 1 := o_42 ob_X8_readWay rfl rfl rfl
theorem dX8_readWay_24 : dc cX8_readWay 24 27 (.invokevirtual 61) 3 := o_182 ob_X8_readWay rfl rfl rfl rfl
theorem dX8_readWay_27 : dc cX8_readWay 27 28 (.iconst 0) 1 := o_3 ob_X8_readWay rfl rfl rfl
theorem dX8_readWay_28 : dc cX8_readWay 28 29 (.istore_n 1) 1 := o_60 ob_X8_readWay rfl rfl rfl
theorem dX8_readWay_29 : dc cX8_readWay 29 30 (.iconst 1) 1 := o_4 ob_X8_readWay rfl rfl rfl
theorem dX8_readWay_30 : dc cX8_readWay 30 31 (.istore_n 2) 1 := o_61 ob_X8_readWay rfl rfl rfl
theorem dX8_readWay_31 : dc cX8_readWay 31 32 (.iload_n 2) 1 := o_28 ob_X8_readWay rfl rfl rfl
theorem dX8_readWay_32 : dc cX8_readWay 32 35 (.ifCond .eq 47) 3 := o_153 ob_X8_readWay rfl rfl rfl rfl
theorem dX8_readWay_35 : dc cX8_readWay 35 36 (.iload_n 1) 1 := o_27 ob_X8_readWay rfl rfl rfl
theorem dX8_readWay_36 : dc cX8_readWay 36 37 (.iconst 3) 1 := o_6 ob_X8_readWay rfl rfl rfl
theorem dX8_readWay_37 : dc cX8_readWay 37 40 (.if_icmp .gt 42) 3 := o_163 ob_X8_readWay rfl rfl rfl rfl
theorem dX8_readWay_40 : dc cX8_readWay 40 41 (.iload_n 1) 1 := o_27 ob_X8_readWay rfl rfl rfl
theorem dX8_readWay_41 : dc cX8_readWay 41 42 (.iconst 3) 1 := o_6 ob_X8_readWay rfl rfl rfl
theorem dX8_readWay_42 : dc cX8_readWay 42 45 (.if_icmp .eq 11) 3 := o_159 ob_X8_readWay rfl rfl rfl rfl
theorem dX8_readWay_45 : dc cX8_readWay 45 46 (.aload_n 0) 1 := o_42 ob_X8_readWay rfl rfl rfl
theorem dX8_readWay_46 : dc cX8_readWay 46 47 (.iload_n 1) 1 := o_27 ob_X8_readWay rfl rfl rfl
theorem dX8_readWay_47 : dc cX8_readWay 47 50 (.invokevirtual 64) 3 := o_182 ob_X8_readWay rfl rfl rfl rfl
theorem dX8_readWay_50 : dc cX8_readWay 50 53 (.ifCond .ne 8) 3 := o_154 ob_X8_readWay rfl rfl rfl rfl
theorem dX8_readWay_53 : dc cX8_readWay 53 54 (.aload_n 0) 1 := o_42 ob_X8_readWay rfl rfl rfl
theorem dX8_readWay_54 : dc cX8_readWay 54 57 (.getfield 35) 3 := o_180 ob_X8_readWay rfl rfl rfl rfl
theorem dX8_readWay_57 : dc cX8_readWay 57 58 .ireturn 1 := o_172 ob_X8_readWay rfl rfl rfl
theorem dX8_readWay_58 : dc cX8_readWay 58 61 (.iinc 1 1) 3 := o_132 ob_X8_readWay rfl rfl rfl rfl rfl
theorem dX8_readWay_61 : dc cX8_readWay 61 62 (.aload_n 0) 1 := o_42 ob_X8_readWay rfl rfl rfl
theorem dX8_readWay_62 : dc cX8_readWay 62 64 (.bipush 59) 2 := o_16 ob_X8_readWay rfl rfl rfl rfl
theorem dX8_readWay_64 : dc cX8_readWay 64 67 (.invokevirtual 68) 3 := o_182 ob_X8_readWay rfl rfl rfl rfl
theorem dX8_readWay_67 : dc cX8_readWay 67 68 (.istore_n 2) 1 := o_61 ob_X8_readWay rfl rfl rfl
theorem dX8_readWay_68 : dc cX8_readWay 68 69 (.iload_n 2) 1 := o_28 ob_X8_readWay rfl rfl rfl
theorem dX8_readWay_69 : dc cX8_readWay 69 72 (.ifCond .eq (-38)) 3 := o_153 ob_X8_readWay rfl rfl rfl rfl
theorem dX8_readWay_72 : dc cX8_readWay 72 73 (.aload_n 0) 1 := o_42 ob_X8_readWay rfl rfl rfl
theorem dX8_readWay_73 : dc cX8_readWay 73 76 (.invokevirtual 61) 3 := o_182 ob_X8_readWay rfl rfl rfl rfl
theorem dX8_readWay_76 : dc cX8_readWay 76 79 (.goto (-45)) 3 := o_167 ob_X8_readWay rfl rfl rfl rfl
theorem dX8_readWay_79 : dc cX8_readWay 79 80 (.aload_n 0) 1 := o_42 ob_X8_readWay rfl rfl rfl
theorem dX8_readWay_80 : dc cX8_readWay 80 83 (.getfield 26) 3 := o_180 ob_X8_readWay rfl rfl rfl rfl
theorem dX8_readWay_83 : dc cX8_readWay 83 84 (.iconst 0) 1 := o_3 ob_X8_readWay rfl rfl rfl
theorem dX8_readWay_84 : dc cX8_readWay 84 85 (.iload_n 1) 1 := o_27 ob_X8_readWay rfl rfl rfl
theorem dX8_readWay_85 : dc cX8_readWay 85 86 .i2l 1 := o_133 ob_X8_readWay rfl rfl rfl
theorem dX8_readWay_86 : dc cX8_readWay 86 89 (.invokevirtual 44) 3 := o_182 ob_X8_readWay rfl rfl rfl rfl
theorem dX8_readWay_89 : dc cX8_readWay 89 90 (.aload_n 0) 1 := o_42 ob_X8_readWay rfl rfl rfl
theorem dX8_readWay_90 : dc cX8_readWay 90 93 (.getfield 32) 3 := o_180 ob_X8_readWay rfl rfl rfl rfl
theorem dX8_readWay_93 : dc cX8_readWay 93 96 (.ifCond .ne 11) 3 := o_154 ob_X8_readWay rfl rfl rfl rfl
theorem dX8_readWay_96 : dc cX8_readWay 96 97 (.aload_n 0) 1 := o_42 ob_X8_readWay rfl rfl rfl
theorem dX8_readWay_97 : dc cX8_readWay 97 98 (.iload_n 1) 1 := o_27 ob_X8_readWay rfl rfl rfl
theorem dX8_readWay_98 : dc cX8_readWay 98 101 (.invokevirtual 71) 3 := o_182 ob_X8_readWay rfl rfl rfl rfl
theorem dX8_readWay_101 : dc cX8_readWay 101 104 (.goto 7) 3 := o_167 ob_X8_readWay rfl rfl rfl rfl
theorem dX8_readWay_104 : dc cX8_readWay 104 105 (.aload_n 0) 1 := o_42 ob_X8_readWay rfl rfl rfl
theorem dX8_readWay_105 : dc cX8_readWay 105 108 (.getfield 35) 3 := o_180 ob_X8_readWay rfl rfl rfl rfl
theorem dX8_readWay_108 : dc cX8_readWay 108 109 .ireturn 1 := o_172 ob_X8_readWay rfl rfl rfl
def F_Tape_readWay_j79 (x1 : Int32) (M : Mem) : Option (Int32 × Mem) :=
  (F_Row_put 31 13 0 x1.toInt64 M).bind fun r4 => if (r4.1 27 4) = 0 then (F_Tape_firstStray x1 r4).bind fun r5 => some ((r5, r4)) else some ((r4.1 27 5, r4))
def F_Tape_readWay_b31 (z : Int32 × Bool × Mem) : Option ((Int32 × Bool × Mem) ⊕ ((Mem) ⊕ ((Int32 × Mem)))) :=
  if z.2.1 = true then if 3 < z.1 then some (.inr (.inr ((z.1, z.2.2)))) else if z.1 = 3 then some (.inr (.inl z.2.2)) else (F_Tape_readMood z.1 z.2.2).bind fun r6 => if r6.1 = true then (F_Tape_isSign 59 r6.2).bind fun r7 => if r7 = true then (F_Tape_step r6.2).bind fun r8 => some (.inl ((z.1 + 1, r7, r8))) else some (.inl ((z.1 + 1, r7, r6.2))) else some (.inr (.inl r6.2)) else some (.inr (.inr ((z.1, z.2.2))))
def F_Tape_readWay_l31 (x1 : Int32) (x2 : Bool) (M : Mem) : Option (Int32 × Mem) :=
  (iter (F_Tape_readWay_b31) FUEL (x1, x2, M)).bind fun q => match q with
    | .inl r => some ((r.1 27 5, r))
    | .inr r => F_Tape_readWay_j79 r.1 r.2
def F_Tape_readWay (M : Mem) : Option (Int32 × Mem) :=
  (F_Row_setAll 31 13 0 M).bind fun r1 => (F_Row_setAll 33 3 ((-1)) r1).bind fun r2 => (F_Tape_step (mSI r2 27 6 0)).bind fun r3 => F_Tape_readWay_l31 0 true r3
set_option maxRecDepth 100000 in
set_option maxHeartbeats 4000000 in
theorem K_Tape_readWay (l : Launch) (g : GB) (htr : l.stackTraces = false) (M : Mem) (rr : Int32) (MZ : Mem) (h : F_Tape_readWay M = some (rr, MZ)) : CT l g yX8_readWay (.code yX8_readWay cX8_readWay 3 (some .int) :: wAll) { frames := 7, cells := 0, slots := 0, locals := 155 } [.ref (g.2.1 27)] M (.inl (some (.int rr))) MZ := by
  refine CT.of [(0, .ref (g.2.1 27))] (by decide +kernel) (Nat.le_of_ble_eq_true rfl) rfl htr ?_
  intro p e s m args below meth c K hr ht
  skip
  obtain ⟨PHI, hPHI, h⟩ : ∃ PHI : Int32 × Mem → Prop, (∀ a, PHI a → a = (rr, MZ)) ∧ wpO (F_Tape_readWay M) PHI := ⟨fun a => a = (rr, MZ), fun _ h => h, _, h, rfl⟩
  have J79 : ∀ (x1 : Int32) (M : Mem), wpO (F_Tape_readWay_j79 x1 M) PHI → GG p l e { frames := 7, cells := 0, slots := 0, locals := 155 } s m args below meth c g 3 (vx_MQ below (Qn g s.heap.size (.inl (some (.int rr))) MZ) (QX g s.heap.size (.inl (some (.int rr))) MZ) args s 0 0 (AS g s.heap.size)) 0 0 79 [(0, .ref (g.2.1 27)), (1, .int x1)] [] M := by
    intro x1 M h
    unfold F_Tape_readWay_j79 at h
    refine G_aload_n rfl 0 rfl K dX8_readWay_79 ?_
    refine G_get (ci := 8) (k := 2) K rfl in_X8 wd_151 rfl dX8_readWay_80 (Nat.le_of_ble_eq_true rfl) (sh_27 _ _) (Nat.le_of_ble_eq_true rfl) rfl ?_
    refine G_iconst (v := 0) rfl K dX8_readWay_83 ?_
    refine G_iload_n rfl 1 rfl K dX8_readWay_84 ?_
    refine G_i2l K dX8_readWay_85 ?_
    obtain ⟨r4, e4, h⟩ := wpO_bind h
    refine G_callVv (ci := 7) [.int 0, .long x1.toInt64] [] K dX8_readWay_86 wv_451 yd_X7_put (Nat.le_of_ble_eq_true rfl) (sh_30 _ _) rfl (by decide) (by decide) rfl rfl (Nat.le_of_ble_eq_true rfl) (K_Row_put l g htr 30 31 13 isRow_30 0 x1.toInt64 M _ e4) ?_
    refine G_aload_n rfl 0 rfl K dX8_readWay_89 ?_
    refine G_get (ci := 8) (k := 4) K rfl in_X8 wd_154 rfl dX8_readWay_90 (Nat.le_of_ble_eq_true rfl) (sh_27 _ _) (Nat.le_of_ble_eq_true rfl) rfl ?_
    refine G_if_ne (tgt := 104) K dX8_readWay_93 (by decide) (fun hc => ?_) (fun hc => ?_)
    · have h := wpO_f h hc
      refine G_aload_n rfl 0 rfl K dX8_readWay_104 ?_
      refine G_get (ci := 8) (k := 5) K rfl in_X8 wd_155 rfl dX8_readWay_105 (Nat.le_of_ble_eq_true rfl) (sh_27 _ _) (Nat.le_of_ble_eq_true rfl) rfl ?_
      cases hPHI _ (wpO_some h)
      exact G_iret K hr rfl dX8_readWay_108 (Nat.le_of_ble_eq_true rfl) (Nat.le_of_ble_eq_true rfl) ⟨rfl, rfl⟩
    · have h := wpO_t h hc
      refine G_aload_n rfl 0 rfl K dX8_readWay_96 ?_
      refine G_iload_n rfl 1 rfl K dX8_readWay_97 ?_
      obtain ⟨r5, e5, h⟩ := wpO_bind h
      refine G_callVi (ci := 8) [.int x1] [] K dX8_readWay_98 wv_865 yd_X8_firstStray (Nat.le_of_ble_eq_true rfl) (sh_27 _ _) rfl (by decide) (by decide) rfl rfl (Nat.le_of_ble_eq_true rfl) (K_Tape_firstStray l g htr x1 r4 _ e5) ?_
      refine G_goto (tgt := 108) K dX8_readWay_101 (by decide) ?_
      cases hPHI _ (wpO_some h)
      exact G_iret K hr rfl dX8_readWay_108 (Nat.le_of_ble_eq_true rfl) (Nat.le_of_ble_eq_true rfl) ⟨rfl, rfl⟩
  have J31 : ∀ (x1 : Int32) (x2 : Bool) (M : Mem), wpO (F_Tape_readWay_l31 x1 x2 M) PHI → GG p l e { frames := 7, cells := 0, slots := 0, locals := 155 } s m args below meth c g 3 (vx_MQ below (Qn g s.heap.size (.inl (some (.int rr))) MZ) (QX g s.heap.size (.inl (some (.int rr))) MZ) args s 0 0 (AS g s.heap.size)) 0 0 31 [(0, .ref (g.2.1 27)), (1, .int x1), (2, .int ((b2i x2)))] [] M := by
    intro x1 x2 M h
    unfold F_Tape_readWay_l31 at h
    refine loop_C3 (G := fun (x1 : Int32) (x2 : Bool) (M : Mem) => GG p l e { frames := 7, cells := 0, slots := 0, locals := 155 } s m args below meth c g 3 (vx_MQ below (Qn g s.heap.size (.inl (some (.int rr))) MZ) (QX g s.heap.size (.inl (some (.int rr))) MZ) args s 0 0 (AS g s.heap.size)) 0 0 31 [(0, .ref (g.2.1 27)), (1, .int x1), (2, .int ((b2i x2)))] [] M) (body := F_Tape_readWay_b31) ?_ FUEL _ _ _ (wpO_bind h)
    intro P31 E31 X31
    intro z h
    unfold F_Tape_readWay_b31 at h
    refine G_iload_n rfl 2 rfl K dX8_readWay_31 ?_
    refine G_ifb_eq (tgt := 79) K dX8_readWay_32 (by decide) (fun hc => ?_) (fun hc => ?_)
    · have h := wpO_bf h hc
      have h := X31 _ (wpO_some h)
      try dsimp only at h
      exact G_lv (lv' := [(0, .ref (g.2.1 27)), (1, .int z.1)]) [0, 1] rfl (J79 z.1 z.2.2 h)
    · have h := wpO_t h hc
      refine G_iload_n rfl 1 rfl K dX8_readWay_35 ?_
      refine G_iconst (v := 3) rfl K dX8_readWay_36 ?_
      refine G_icmp_gt (tgt := 79) K dX8_readWay_37 (by decide) (fun hc => ?_) (fun hc => ?_)
      · have h := wpO_t h hc
        have h := X31 _ (wpO_some h)
        try dsimp only at h
        exact G_lv (lv' := [(0, .ref (g.2.1 27)), (1, .int z.1)]) [0, 1] rfl (J79 z.1 z.2.2 h)
      · have h := wpO_f h hc
        refine G_iload_n rfl 1 rfl K dX8_readWay_40 ?_
        refine G_iconst (v := 3) rfl K dX8_readWay_41 ?_
        refine G_icmp_eq (tgt := 53) K dX8_readWay_42 (by decide) (fun hc => ?_) (fun hc => ?_)
        · have h := wpO_t h hc
          have h := X31 _ (wpO_some h)
          try dsimp only at h
          refine G_aload_n rfl 0 rfl K dX8_readWay_53 ?_
          refine G_get (ci := 8) (k := 5) K rfl in_X8 wd_155 rfl dX8_readWay_54 (Nat.le_of_ble_eq_true rfl) (sh_27 _ _) (Nat.le_of_ble_eq_true rfl) rfl ?_
          cases hPHI _ (wpO_some h)
          exact G_iret K hr rfl dX8_readWay_57 (Nat.le_of_ble_eq_true rfl) (Nat.le_of_ble_eq_true rfl) ⟨rfl, rfl⟩
        · have h := wpO_f h hc
          refine G_aload_n rfl 0 rfl K dX8_readWay_45 ?_
          refine G_iload_n rfl 1 rfl K dX8_readWay_46 ?_
          obtain ⟨r6, e6, h⟩ := wpO_bind h
          refine G_callVi (ci := 8) [.int z.1] [] K dX8_readWay_47 wv_793 yd_X8_readMood (Nat.le_of_ble_eq_true rfl) (sh_27 _ _) rfl (by decide) (by decide) rfl rfl (Nat.le_of_ble_eq_true rfl) (K_Tape_readMood l g htr z.1 z.2.2 _ _ e6) ?_
          refine G_ifb_ne (tgt := 58) K dX8_readWay_50 (by decide) (fun hc => ?_) (fun hc => ?_)
          · have h := wpO_t h hc
            refine G_iinc (v := z.1 + 1) 1 rfl K dX8_readWay_58 rfl (Nat.le_of_ble_eq_true rfl) rfl ?_
            refine G_aload_n rfl 1 rfl K dX8_readWay_61 ?_
            refine G_bipush (v := 59) rfl K dX8_readWay_62 ?_
            obtain ⟨r7, e7, h⟩ := wpO_bind h
            refine G_callVi (ci := 8) [.int 59] [] K dX8_readWay_64 wv_854 yd_X8_isSign (Nat.le_of_ble_eq_true rfl) (sh_27 _ _) rfl (by decide) (by decide) rfl rfl (Nat.le_of_ble_eq_true rfl) (K_Tape_isSign l g htr 59 r6.2 _ e7) ?_
            refine G_istore_n rfl K dX8_readWay_67 (Nat.le_of_ble_eq_true rfl) rfl ?_
            refine G_iload_n rfl 0 rfl K dX8_readWay_68 ?_
            refine G_ifb_eq (tgt := 31) K dX8_readWay_69 (by decide) (fun hc => ?_) (fun hc => ?_)
            · have h := wpO_bf h hc
              exact G_lv (lv' := [(0, .ref (g.2.1 27)), (1, .int (z.1 + 1)), (2, .int ((b2i r7)))]) [2, 1, 0] rfl (E31 (z.1 + 1) r7 r6.2 (wpO_some h))
            · have h := wpO_t h hc
              refine G_aload_n rfl 2 rfl K dX8_readWay_72 ?_
              obtain ⟨r8, e8, h⟩ := wpO_bind h
              refine G_callVv (ci := 8) [] [] K dX8_readWay_73 wv_776 yd_X8_step (Nat.le_of_ble_eq_true rfl) (sh_27 _ _) rfl (by decide) (by decide) rfl rfl (Nat.le_of_ble_eq_true rfl) (K_Tape_step l g htr  r6.2 _ e8) ?_
              refine G_goto (tgt := 31) K dX8_readWay_76 (by decide) ?_
              exact G_lv (lv' := [(0, .ref (g.2.1 27)), (1, .int (z.1 + 1)), (2, .int ((b2i r7)))]) [2, 1, 0] rfl (E31 (z.1 + 1) r7 r8 (wpO_some h))
          · have h := wpO_bf h hc
            have h := X31 _ (wpO_some h)
            try dsimp only at h
            refine G_aload_n rfl 0 rfl K dX8_readWay_53 ?_
            refine G_get (ci := 8) (k := 5) K rfl in_X8 wd_155 rfl dX8_readWay_54 (Nat.le_of_ble_eq_true rfl) (sh_27 _ _) (Nat.le_of_ble_eq_true rfl) rfl ?_
            cases hPHI _ (wpO_some h)
            exact G_iret K hr rfl dX8_readWay_57 (Nat.le_of_ble_eq_true rfl) (Nat.le_of_ble_eq_true rfl) ⟨rfl, rfl⟩
  unfold F_Tape_readWay at h
  refine G_aload_n rfl 0 rfl K dX8_readWay_0 ?_
  refine G_get (ci := 8) (k := 2) K rfl in_X8 wd_151 rfl dX8_readWay_1 (Nat.le_of_ble_eq_true rfl) (sh_27 _ _) (Nat.le_of_ble_eq_true rfl) rfl ?_
  refine G_lconst (v := 0) rfl K dX8_readWay_4 ?_
  obtain ⟨r1, e1, h⟩ := wpO_bind h
  refine G_callVv (ci := 7) [.long 0] [] K dX8_readWay_5 wv_774 yd_X7_setAll (Nat.le_of_ble_eq_true rfl) (sh_30 _ _) rfl (by decide) (by decide) rfl rfl (Nat.le_of_ble_eq_true rfl) (K_Row_setAll l g htr 30 31 13 isRow_30 0 M _ e1) ?_
  refine G_aload_n rfl 0 rfl K dX8_readWay_8 ?_
  refine G_get (ci := 8) (k := 3) K rfl in_X8 wd_153 rfl dX8_readWay_9 (Nat.le_of_ble_eq_true rfl) (sh_27 _ _) (Nat.le_of_ble_eq_true rfl) rfl ?_
  refine G_ldc2 (v := (-1)) K dX8_readWay_12 wd_775 ?_
  obtain ⟨r2, e2, h⟩ := wpO_bind h
  refine G_callVv (ci := 7) [.long ((-1))] [] K dX8_readWay_15 wv_774 yd_X7_setAll (Nat.le_of_ble_eq_true rfl) (sh_32 _ _) rfl (by decide) (by decide) rfl rfl (Nat.le_of_ble_eq_true rfl) (K_Row_setAll l g htr 32 33 3 isRow_32 ((-1)) r1 _ e2) ?_
  refine G_aload_n rfl 0 rfl K dX8_readWay_18 ?_
  refine G_iconst (v := 0) rfl K dX8_readWay_19 ?_
  refine G_putI (ci := 8) (k := 6) (ty := .int) K rfl in_X8 tyX8 tyX8_ok nmX8 wd_156 rfl rfl rfl rfl rfl dX8_readWay_20 (Nat.le_of_ble_eq_true rfl) (sh_27 _ _) (sh_27 _ _) (Nat.le_of_ble_eq_true rfl) (Nat.le_of_ble_eq_true rfl) rfl ?_
  refine G_aload_n rfl 0 rfl K dX8_readWay_23 ?_
  obtain ⟨r3, e3, h⟩ := wpO_bind h
  refine G_callVv (ci := 8) [] [] K dX8_readWay_24 wv_776 yd_X8_step (Nat.le_of_ble_eq_true rfl) (sh_27 _ _) rfl (by decide) (by decide) rfl rfl (Nat.le_of_ble_eq_true rfl) (K_Tape_step l g htr  (mSI r2 27 6 0) _ e3) ?_
  refine G_iconst (v := 0) rfl K dX8_readWay_27 ?_
  refine G_istore_n rfl K dX8_readWay_28 (Nat.le_of_ble_eq_true rfl) rfl ?_
  refine G_iconst (v := 1) rfl K dX8_readWay_29 ?_
  refine G_istore_n rfl K dX8_readWay_30 (Nat.le_of_ble_eq_true rfl) rfl ?_
  exact G_lv (lv' := [(0, .ref (g.2.1 27)), (1, .int 0), (2, .int 1)]) [2, 1, 0] rfl (J31 0 true r3 h)
