def on_J9_abs_067f4 : Nat := 0xad1e0400a7751e08009c94091e
theorem ob_J9_abs_067f4 : OKB cJ9_abs_067f4 on_J9_abs_067f4 13 := ⟨by decide +kernel, by decide +kernel⟩
theorem dJ9_abs_067f4_0 : dc cJ9_abs_067f4 0 1 (.lload_n 0) 1 := o_30 ob_J9_abs_067f4 rfl rfl rfl
theorem dJ9_abs_067f4_1 : dc cJ9_abs_067f4 1 2 (.lconst 0) 1 := o_9 ob_J9_abs_067f4 rfl rfl rfl
theorem dJ9_abs_067f4_2 : dc cJ9_abs_067f4 2 3 .lcmp 1 := o_148 ob_J9_abs_067f4 rfl rfl rfl
theorem dJ9_abs_067f4_3 : dc cJ9_abs_067f4 3 6 (.ifCond .ge 8) 3 := o_156 ob_J9_abs_067f4 rfl rfl rfl rfl
theorem dJ9_abs_067f4_6 : dc cJ9_abs_067f4 6 7 (.lload_n 0) 1 := o_30 ob_J9_abs_067f4 rfl rfl rfl
theorem dJ9_abs_067f4_7 : dc cJ9_abs_067f4 7 8 .lneg 1 := o_117 ob_J9_abs_067f4 rfl rfl rfl
theorem dJ9_abs_067f4_8 : dc cJ9_abs_067f4 8 11 (.goto 4) 3 := o_167 ob_J9_abs_067f4 rfl rfl rfl rfl
theorem dJ9_abs_067f4_11 : dc cJ9_abs_067f4 11 12 (.lload_n 0) 1 := o_30 ob_J9_abs_067f4 rfl rfl rfl
theorem dJ9_abs_067f4_12 : dc cJ9_abs_067f4 12 13 .lreturn 1 := o_173 ob_J9_abs_067f4 rfl rfl rfl
def F_Math_abs (x0 : Int64) (M : Mem) : Option (Int64) :=
  if 0 ≤ x0 then some x0 else some (-x0)
set_option maxRecDepth 100000 in
set_option maxHeartbeats 4000000 in
theorem K_Math_abs (l : Launch) (g : GB) (htr : l.stackTraces = false) (x0 : Int64) (M : Mem) (rr : Int64) (h : F_Math_abs x0 M = some rr) : CT l g yJ9_abs_067f4 (.code yJ9_abs_067f4 cJ9_abs_067f4 2 (some .long) :: wAll) { frames := 0, cells := 0, slots := 0, locals := 0 } [.long x0] M (.inl (some (.long rr))) M := by
  refine CT.of [(0, .long x0)] pf_J9_abs_067f4 (Nat.le_of_ble_eq_true rfl) rfl htr ?_
  intro p e s m args below meth c K hr ht
  skip
  obtain ⟨PHI, hPHI, h⟩ : ∃ PHI : Int64 → Prop, (∀ a, PHI a → a = rr) ∧ wpO (F_Math_abs x0 M) PHI := ⟨fun a => a = rr, fun _ h => h, _, h, rfl⟩
  unfold F_Math_abs at h
  refine G_lload_n rfl 0 rfl K dJ9_abs_067f4_0 ?_
  refine G_lconst (v := 0) rfl K dJ9_abs_067f4_1 ?_
  refine G_lcmp_ge (tgt := 11) K dJ9_abs_067f4_2 dJ9_abs_067f4_3 (by decide) (fun hc => ?_) (fun hc => ?_)
  · have h := wpO_t h hc
    refine G_lload_n rfl 0 rfl K dJ9_abs_067f4_11 ?_
    cases hPHI _ (wpO_some h)
    exact G_lret K hr dJ9_abs_067f4_12 (Nat.le_of_ble_eq_true rfl) (Nat.le_of_ble_eq_true rfl) ⟨rfl, rfl⟩
  · have h := wpO_f h hc
    refine G_lload_n rfl 0 rfl K dJ9_abs_067f4_6 ?_
    refine G_lneg K dJ9_abs_067f4_7 ?_
    refine G_goto (tgt := 12) K dJ9_abs_067f4_8 (by decide) ?_
    cases hPHI _ (wpO_some h)
    exact G_lret K hr dJ9_abs_067f4_12 (Nat.le_of_ble_eq_true rfl) (Nat.le_of_ble_eq_true rfl) ⟨rfl, rfl⟩
theorem yd_J9_abs_067f4 : ydN yJ9_abs_067f4 1 := ⟨by decide, by decide, by decide +kernel⟩
theorem wv_976 : wdS "KeptWell$Fraction" 20 yJ9_abs_067f4 cJ9_abs_067f4 2 (some .long) := ⟨wd_976, wd_977, wd_4, wd_978⟩
def on_X5_commonPart : Nat := 0xad0416dfffa7010884063709160437061609377106160416180099940906161f00a2c80011081508360306371400b82004371400b81e
theorem ob_X5_commonPart : OKB cX5_commonPart on_X5_commonPart 54 := ⟨by decide +kernel, by decide +kernel⟩
theorem dX5_commonPart_0 : dc cX5_commonPart 0 1 (.lload_n 0) 1 := o_30 ob_X5_commonPart rfl rfl rfl
theorem dX5_commonPart_1 : dc cX5_commonPart 1 4 (.invokestatic 20) 3 := o_184 ob_X5_commonPart rfl rfl rfl rfl
theorem dX5_commonPart_4 : dc cX5_commonPart 4 6 (.lstore 4) 2 := o_55 ob_X5_commonPart rfl rfl rfl rfl
theorem dX5_commonPart_6 : dc cX5_commonPart 6 7 (.lload_n 2) 1 := o_32 ob_X5_commonPart rfl rfl rfl
theorem dX5_commonPart_7 : dc cX5_commonPart 7 10 (.invokestatic 20) 3 := o_184 ob_X5_commonPart rfl rfl rfl rfl
theorem dX5_commonPart_10 : dc cX5_commonPart 10 12 (.lstore 6) 2 := o_55 ob_X5_commonPart rfl rfl rfl rfl
theorem dX5_commonPart_12 : dc cX5_commonPart 12 13 (.iconst 0) 1 := o_3 ob_X5_commonPart rfl rfl rfl
theorem dX5_commonPart_13 : dc cX5_commonPart 13 15 (.istore 8) 2 := o_54 ob_X5_commonPart rfl rfl rfl rfl
theorem dX5_commonPart_15 : dc cX5_commonPart 15 17 (.iload 8) 2 := o_21 ob_X5_commonPart rfl rfl rfl rfl
theorem dX5_commonPart_17 : dc cX5_commonPart 17 20 (.sipush 200) 3 := o_17 ob_X5_commonPart rfl rfl rfl rfl
theorem dX5_commonPart_20 : dc cX5_commonPart 20 23 (.if_icmp .ge 31) 3 := o_162 ob_X5_commonPart rfl rfl rfl rfl
theorem dX5_commonPart_23 : dc cX5_commonPart 23 25 (.lload 6) 2 := o_22 ob_X5_commonPart rfl rfl rfl rfl
theorem dX5_commonPart_25 : dc cX5_commonPart 25 26 (.lconst 0) 1 := o_9 ob_X5_commonPart rfl rfl rfl
theorem dX5_commonPart_26 : dc cX5_commonPart 26 27 .lcmp 1 := o_148 ob_X5_commonPart rfl rfl rfl
theorem dX5_commonPart_27 : dc cX5_commonPart 27 30 (.ifCond .eq 24) 3 := o_153 ob_X5_commonPart rfl rfl rfl rfl
theorem dX5_commonPart_30 : dc cX5_commonPart 30 32 (.lload 4) 2 := o_22 ob_X5_commonPart rfl rfl rfl rfl
theorem dX5_commonPart_32 : dc cX5_commonPart 32 34 (.lload 6) 2 := o_22 ob_X5_commonPart rfl rfl rfl rfl
theorem dX5_commonPart_34 : dc cX5_commonPart 34 35 .lrem 1 := o_113 ob_X5_commonPart rfl rfl rfl
theorem dX5_commonPart_35 : dc cX5_commonPart 35 37 (.lstore 9) 2 := o_55 ob_X5_commonPart rfl rfl rfl rfl
theorem dX5_commonPart_37 : dc cX5_commonPart 37 39 (.lload 6) 2 := o_22 ob_X5_commonPart rfl rfl rfl rfl
theorem dX5_commonPart_39 : dc cX5_commonPart 39 41 (.lstore 4) 2 := o_55 ob_X5_commonPart rfl rfl rfl rfl
theorem dX5_commonPart_41 : dc cX5_commonPart 41 43 (.lload 9) 2 := o_22 ob_X5_commonPart rfl rfl rfl rfl
theorem dX5_commonPart_43 : dc cX5_commonPart 43 45 (.lstore 6) 2 := o_55 ob_X5_commonPart rfl rfl rfl rfl
theorem dX5_commonPart_45 : dc cX5_commonPart 45 48 (.iinc 8 1) 3 := o_132 ob_X5_commonPart rfl rfl rfl rfl rfl
theorem dX5_commonPart_48 : dc cX5_commonPart 48 51 (.goto (-33)) 3 := o_167 ob_X5_commonPart rfl rfl rfl rfl
theorem dX5_commonPart_51 : dc cX5_commonPart 51 53 (.lload 4) 2 := o_22 ob_X5_commonPart rfl rfl rfl rfl
theorem dX5_commonPart_53 : dc cX5_commonPart 53 54 .lreturn 1 := o_173 ob_X5_commonPart rfl rfl rfl
def F_Fraction_commonPart_b15 (M : Mem) (z : Int64 × Int64 × Int32) : Option ((Int64 × Int64 × Int32) ⊕ ((Int64))) :=
  if 200 ≤ z.2.2 then some (.inr z.1) else if z.2.1 = 0 then some (.inr z.1) else if ¬ z.2.1 = 0 then some (.inl ((z.2.1, lrm z.1 z.2.1, z.2.2 + 1))) else none
def F_Fraction_commonPart_l15 (x4 : Int64) (x6 : Int64) (x8 : Int32) (M : Mem) : Option (Int64) :=
  (iter (F_Fraction_commonPart_b15 M) FUEL (x4, x6, x8)).bind fun r => some r
def F_Fraction_commonPart (x0 : Int64) (x2 : Int64) (M : Mem) : Option (Int64) :=
  (F_Math_abs x0 M).bind fun r1 => (F_Math_abs x2 M).bind fun r2 => F_Fraction_commonPart_l15 r1 r2 0 M
set_option maxRecDepth 100000 in
set_option maxHeartbeats 4000000 in
theorem K_Fraction_commonPart (l : Launch) (g : GB) (htr : l.stackTraces = false) (x0 : Int64) (x2 : Int64) (M : Mem) (rr : Int64) (h : F_Fraction_commonPart x0 x2 M = some rr) : CT l g yX5_commonPart (.code yX5_commonPart cX5_commonPart 11 (some .long) :: wAll) { frames := 1, cells := 0, slots := 0, locals := 21 } [.long x0, .long x2] M (.inl (some (.long rr))) M := by
  refine CT.of [(0, .long x0), (2, .long x2)] (by decide +kernel) (Nat.le_of_ble_eq_true rfl) rfl htr ?_
  intro p e s m args below meth c K hr ht
  skip
  obtain ⟨PHI, hPHI, h⟩ : ∃ PHI : Int64 → Prop, (∀ a, PHI a → a = rr) ∧ wpO (F_Fraction_commonPart x0 x2 M) PHI := ⟨fun a => a = rr, fun _ h => h, _, h, rfl⟩
  have J15 : ∀ (x4 : Int64) (x6 : Int64) (x8 : Int32), wpO (F_Fraction_commonPart_l15 x4 x6 x8 M) PHI → GG p l e { frames := 1, cells := 0, slots := 0, locals := 21 } s m args below meth c g 11 (vx_MQ below (Qn g s.heap.size (.inl (some (.long rr))) M) (QX g s.heap.size (.inl (some (.long rr))) M) args s 0 0 (AS g s.heap.size)) 0 0 15 [(4, .long x4), (6, .long x6), (8, .int x8)] [] M := by
    intro x4 x6 x8 h
    unfold F_Fraction_commonPart_l15 at h
    refine loop_C3 (G := fun (x4 : Int64) (x6 : Int64) (x8 : Int32) => GG p l e { frames := 1, cells := 0, slots := 0, locals := 21 } s m args below meth c g 11 (vx_MQ below (Qn g s.heap.size (.inl (some (.long rr))) M) (QX g s.heap.size (.inl (some (.long rr))) M) args s 0 0 (AS g s.heap.size)) 0 0 15 [(4, .long x4), (6, .long x6), (8, .int x8)] [] M) (body := F_Fraction_commonPart_b15 M) ?_ FUEL _ _ _ (wpO_bind h)
    intro P15 E15 X15
    intro z h
    unfold F_Fraction_commonPart_b15 at h
    refine G_iload 2 rfl K dX5_commonPart_15 ?_
    refine G_sipush (v := 200) rfl K dX5_commonPart_17 ?_
    refine G_icmp_ge (tgt := 51) K dX5_commonPart_20 (by decide) (fun hc => ?_) (fun hc => ?_)
    · have h := wpO_t h hc
      have h := X15 _ (wpO_some h)
      try dsimp only at h
      refine G_lload 0 rfl K dX5_commonPart_51 ?_
      cases hPHI _ (wpO_some h)
      exact G_lret K hr dX5_commonPart_53 (Nat.le_of_ble_eq_true rfl) (Nat.le_of_ble_eq_true rfl) ⟨rfl, rfl⟩
    · have h := wpO_f h hc
      refine G_lload 1 rfl K dX5_commonPart_23 ?_
      refine G_lconst (v := 0) rfl K dX5_commonPart_25 ?_
      refine G_lcmp_eq (tgt := 51) K dX5_commonPart_26 dX5_commonPart_27 (by decide) (fun hc => ?_) (fun hc => ?_)
      · have h := wpO_t h hc
        have h := X15 _ (wpO_some h)
        try dsimp only at h
        refine G_lload 0 rfl K dX5_commonPart_51 ?_
        cases hPHI _ (wpO_some h)
        exact G_lret K hr dX5_commonPart_53 (Nat.le_of_ble_eq_true rfl) (Nat.le_of_ble_eq_true rfl) ⟨rfl, rfl⟩
      · have h := wpO_f h hc
        refine G_lload 0 rfl K dX5_commonPart_30 ?_
        refine G_lload 1 rfl K dX5_commonPart_32 ?_
        obtain ⟨hc, h⟩ := wpO_g h
        refine G_lrem hc K dX5_commonPart_34 ?_
        refine G_lstore K dX5_commonPart_35 (Nat.le_of_ble_eq_true rfl) rfl ?_
        refine G_lload 2 rfl K dX5_commonPart_37 ?_
        refine G_lstore K dX5_commonPart_39 (Nat.le_of_ble_eq_true rfl) rfl ?_
        refine G_lload 1 rfl K dX5_commonPart_41 ?_
        refine G_lstore K dX5_commonPart_43 (Nat.le_of_ble_eq_true rfl) rfl ?_
        refine G_iinc (v := z.2.2 + 1) 3 rfl K dX5_commonPart_45 rfl (Nat.le_of_ble_eq_true rfl) rfl ?_
        refine G_goto (tgt := 15) K dX5_commonPart_48 (by decide) ?_
        exact G_lv (lv' := [(4, .long z.2.1), (6, .long (lrm z.1 z.2.1)), (8, .int (z.2.2 + 1))]) [2, 1, 0] rfl (E15 z.2.1 (lrm z.1 z.2.1) (z.2.2 + 1) (wpO_some h))
  unfold F_Fraction_commonPart at h
  refine G_lload_n rfl 0 rfl K dX5_commonPart_0 ?_
  obtain ⟨r1, e1, h⟩ := wpO_bind h
  refine G_callSl [.long x0] [] K dX5_commonPart_1 wv_976 yd_J9_abs_067f4 (by decide) (by decide) rfl rfl (Nat.le_of_ble_eq_true rfl) (K_Math_abs l g htr x0 M _ e1) ?_
  refine G_lstore K dX5_commonPart_4 (Nat.le_of_ble_eq_true rfl) rfl ?_
  refine G_lload_n rfl 2 rfl K dX5_commonPart_6 ?_
  obtain ⟨r2, e2, h⟩ := wpO_bind h
  refine G_callSl [.long x2] [] K dX5_commonPart_7 wv_976 yd_J9_abs_067f4 (by decide) (by decide) rfl rfl (Nat.le_of_ble_eq_true rfl) (K_Math_abs l g htr x2 M _ e2) ?_
  refine G_lstore K dX5_commonPart_10 (Nat.le_of_ble_eq_true rfl) rfl ?_
  refine G_iconst (v := 0) rfl K dX5_commonPart_12 ?_
  refine G_istore K dX5_commonPart_13 (Nat.le_of_ble_eq_true rfl) rfl ?_
  exact G_lv (lv' := [(4, .long r1), (6, .long r2), (8, .int 0)]) [2, 1, 0] rfl (J15 r1 r2 0 h)
theorem yd_X5_commonPart : ydN yX5_commonPart 2 := ⟨by decide, by decide, by decide +kernel⟩
theorem wv_973 : wdS "KeptWell$Fraction" 16 yX5_commonPart cX5_commonPart 11 (some .long) := ⟨wd_973, wd_974, wd_13, wd_975⟩
def on_X5_be : Nat := 0xb10d00b56d0516212a0700b56d05161f2ab10d00b50a2a0700b5092a0e009a940905160a009e94092105371000b8211f
theorem ob_X5_be : OKB cX5_be on_X5_be 48 := ⟨by decide +kernel, by decide +kernel⟩
theorem dX5_be_0 : dc cX5_be 0 1 (.lload_n 1) 1 := o_31 ob_X5_be rfl rfl rfl
theorem dX5_be_1 : dc cX5_be 1 2 (.lload_n 3) 1 := o_33 ob_X5_be rfl rfl rfl
theorem dX5_be_2 : dc cX5_be 2 5 (.invokestatic 16) 3 := o_184 ob_X5_be rfl rfl rfl rfl
theorem dX5_be_5 : dc cX5_be 5 7 (.lstore 5) 2 := o_55 ob_X5_be rfl rfl rfl rfl
theorem dX5_be_7 : dc cX5_be 7 8 (.lload_n 3) 1 := o_33 ob_X5_be rfl rfl rfl
theorem dX5_be_8 : dc cX5_be 8 9 (.lconst 0) 1 := o_9 ob_X5_be rfl rfl rfl
theorem dX5_be_9 : dc cX5_be 9 10 .lcmp 1 := o_148 ob_X5_be rfl rfl rfl
theorem dX5_be_10 : dc cX5_be 10 13 (.ifCond .le 10) 3 := o_158 ob_X5_be rfl rfl rfl rfl
theorem dX5_be_13 : dc cX5_be 13 15 (.lload 5) 2 := o_22 ob_X5_be rfl rfl rfl rfl
theorem dX5_be_15 : dc cX5_be 15 16 (.lconst 0) 1 := o_9 ob_X5_be rfl rfl rfl
theorem dX5_be_16 : dc cX5_be 16 17 .lcmp 1 := o_148 ob_X5_be rfl rfl rfl
theorem dX5_be_17 : dc cX5_be 17 20 (.ifCond .ne 14) 3 := o_154 ob_X5_be rfl rfl rfl rfl
theorem dX5_be_20 : dc cX5_be 20 21 (.aload_n 0) 1 := o_42 ob_X5_be rfl rfl rfl
theorem dX5_be_21 : dc cX5_be 21 22 (.lconst 0) 1 := o_9 ob_X5_be rfl rfl rfl
theorem dX5_be_22 : dc cX5_be 22 25 (.putfield 7) 3 := o_181 ob_X5_be rfl rfl rfl rfl
theorem dX5_be_25 : dc cX5_be 25 26 (.aload_n 0) 1 := o_42 ob_X5_be rfl rfl rfl
theorem dX5_be_26 : dc cX5_be 26 27 (.lconst 1) 1 := o_10 ob_X5_be rfl rfl rfl
theorem dX5_be_27 : dc cX5_be 27 30 (.putfield 13) 3 := o_181 ob_X5_be rfl rfl rfl rfl
theorem dX5_be_30 : dc cX5_be 30 31 .return_ 1 := o_177 ob_X5_be rfl rfl rfl
theorem dX5_be_31 : dc cX5_be 31 32 (.aload_n 0) 1 := o_42 ob_X5_be rfl rfl rfl
theorem dX5_be_32 : dc cX5_be 32 33 (.lload_n 1) 1 := o_31 ob_X5_be rfl rfl rfl
theorem dX5_be_33 : dc cX5_be 33 35 (.lload 5) 2 := o_22 ob_X5_be rfl rfl rfl rfl
theorem dX5_be_35 : dc cX5_be 35 36 .ldiv 1 := o_109 ob_X5_be rfl rfl rfl
theorem dX5_be_36 : dc cX5_be 36 39 (.putfield 7) 3 := o_181 ob_X5_be rfl rfl rfl rfl
theorem dX5_be_39 : dc cX5_be 39 40 (.aload_n 0) 1 := o_42 ob_X5_be rfl rfl rfl
theorem dX5_be_40 : dc cX5_be 40 41 (.lload_n 3) 1 := o_33 ob_X5_be rfl rfl rfl
theorem dX5_be_41 : dc cX5_be 41 43 (.lload 5) 2 := o_22 ob_X5_be rfl rfl rfl rfl
theorem dX5_be_43 : dc cX5_be 43 44 .ldiv 1 := o_109 ob_X5_be rfl rfl rfl
theorem dX5_be_44 : dc cX5_be 44 47 (.putfield 13) 3 := o_181 ob_X5_be rfl rfl rfl rfl
theorem dX5_be_47 : dc cX5_be 47 48 .return_ 1 := o_177 ob_X5_be rfl rfl rfl
def F_Fraction_be_j20 (b : Nat) (M : Mem) : Option (Mem) :=
  some (mSL (mSL M b 0 0) b 1 1)
def F_Fraction_be (b : Nat) (x1 : Int64) (x3 : Int64) (M : Mem) : Option (Mem) :=
  (F_Fraction_commonPart x1 x3 M).bind fun r1 => if x3 ≤ 0 then F_Fraction_be_j20 b M else if r1 = 0 then F_Fraction_be_j20 b M else if ¬ r1 = 0 then if ¬ r1 = 0 then some (mSL (mSL M b 0 (x1 / r1)) b 1 (x3 / r1)) else none else none
set_option maxRecDepth 100000 in
set_option maxHeartbeats 4000000 in
theorem K_Fraction_be (l : Launch) (g : GB) (htr : l.stackTraces = false) (b : Nat) (hb : isFrac b) (x1 : Int64) (x3 : Int64) (M : Mem) (MZ : Mem) (h : F_Fraction_be b x1 x3 M = some MZ) : CT l g yX5_be (.code yX5_be cX5_be 7 none :: wAll) { frames := 2, cells := 0, slots := 0, locals := 51 } [.ref (g.2.1 b), .long x1, .long x3] M (.inl none) MZ := by
  refine CT.of [(0, .ref (g.2.1 b)), (1, .long x1), (3, .long x3)] (by decide +kernel) (Nat.le_of_ble_eq_true rfl) rfl htr ?_
  intro p e s m args below meth c K hr ht
  skip
  obtain ⟨PHI, hPHI, h⟩ : ∃ PHI : Mem → Prop, (∀ a, PHI a → a = MZ) ∧ wpO (F_Fraction_be b x1 x3 M) PHI := ⟨fun a => a = MZ, fun _ h => h, _, h, rfl⟩
  have J20 : ∀ (M : Mem), wpO (F_Fraction_be_j20 b M) PHI → GG p l e { frames := 2, cells := 0, slots := 0, locals := 51 } s m args below meth c g 7 (vx_MQ below (Qn g s.heap.size (.inl none) MZ) (QX g s.heap.size (.inl none) MZ) args s 0 0 (AS g s.heap.size)) 0 0 20 [(0, .ref (g.2.1 b))] [] M := by
    intro M h
    unfold F_Fraction_be_j20 at h
    refine G_aload_n rfl 0 rfl K dX5_be_20 ?_
    refine G_lconst (v := 0) rfl K dX5_be_21 ?_
    refine G_putL (ci := 5) (k := 0) (ty := .long) K rfl in_X5 tyX5 tyX5_ok nmX5 wd_380 rfl rfl rfl rfl rfl dX5_be_22 hb.1 (hb.2 _ _) (hb.2 _ _) (Nat.le_of_ble_eq_true rfl) (Nat.le_of_ble_eq_true rfl) (put_5_0 g _ _ _) ?_
    refine G_aload_n rfl 0 rfl K dX5_be_25 ?_
    refine G_lconst (v := 1) rfl K dX5_be_26 ?_
    refine G_putL (ci := 5) (k := 1) (ty := .long) K rfl in_X5 tyX5 tyX5_ok nmX5 wd_384 rfl rfl rfl rfl rfl dX5_be_27 hb.1 (hb.2 _ _) (hb.2 _ _) (Nat.le_of_ble_eq_true rfl) (Nat.le_of_ble_eq_true rfl) (put_5_1 g _ _ _) ?_
    cases hPHI _ (wpO_some h)
    exact G_vret K hr dX5_be_30 (Nat.le_of_ble_eq_true rfl) (Nat.le_of_ble_eq_true rfl) ⟨rfl, rfl⟩
  unfold F_Fraction_be at h
  refine G_lload_n rfl 1 rfl K dX5_be_0 ?_
  refine G_lload_n rfl 2 rfl K dX5_be_1 ?_
  obtain ⟨r1, e1, h⟩ := wpO_bind h
  refine G_callSl [.long x1, .long x3] [] K dX5_be_2 wv_973 yd_X5_commonPart (by decide) (by decide) rfl rfl (Nat.le_of_ble_eq_true rfl) (K_Fraction_commonPart l g htr x1 x3 M _ e1) ?_
  refine G_lstore K dX5_be_5 (Nat.le_of_ble_eq_true rfl) rfl ?_
  refine G_lload_n rfl 3 rfl K dX5_be_7 ?_
  refine G_lconst (v := 0) rfl K dX5_be_8 ?_
  refine G_lcmp_le (tgt := 20) K dX5_be_9 dX5_be_10 (by decide) (fun hc => ?_) (fun hc => ?_)
  · have h := wpO_t h hc
    exact G_lv (lv' := [(0, .ref (g.2.1 b))]) [1] rfl (J20 M h)
  · have h := wpO_f h hc
    refine G_lload 0 rfl K dX5_be_13 ?_
    refine G_lconst (v := 0) rfl K dX5_be_15 ?_
    refine G_lcmp_ne (tgt := 31) K dX5_be_16 dX5_be_17 (by decide) (fun hc => ?_) (fun hc => ?_)
    · have h := wpO_f h hc
      refine G_aload_n rfl 1 rfl K dX5_be_31 ?_
      refine G_lload_n rfl 2 rfl K dX5_be_32 ?_
      refine G_lload 0 rfl K dX5_be_33 ?_
      obtain ⟨hc, h⟩ := wpO_g h
      refine G_ldiv hc K dX5_be_35 ?_
      refine G_putL (ci := 5) (k := 0) (ty := .long) K rfl in_X5 tyX5 tyX5_ok nmX5 wd_380 rfl rfl rfl rfl rfl dX5_be_36 hb.1 (hb.2 _ _) (hb.2 _ _) (Nat.le_of_ble_eq_true rfl) (Nat.le_of_ble_eq_true rfl) (put_5_0 g _ _ _) ?_
      refine G_aload_n rfl 1 rfl K dX5_be_39 ?_
      refine G_lload_n rfl 3 rfl K dX5_be_40 ?_
      refine G_lload 0 rfl K dX5_be_41 ?_
      obtain ⟨hc, h⟩ := wpO_g h
      refine G_ldiv hc K dX5_be_43 ?_
      refine G_putL (ci := 5) (k := 1) (ty := .long) K rfl in_X5 tyX5 tyX5_ok nmX5 wd_384 rfl rfl rfl rfl rfl dX5_be_44 hb.1 (hb.2 _ _) (hb.2 _ _) (Nat.le_of_ble_eq_true rfl) (Nat.le_of_ble_eq_true rfl) (put_5_1 g _ _ _) ?_
      cases hPHI _ (wpO_some h)
      exact G_vret K hr dX5_be_47 (Nat.le_of_ble_eq_true rfl) (Nat.le_of_ble_eq_true rfl) ⟨rfl, rfl⟩
    · have h := wpO_t h hc
      exact G_lv (lv' := [(0, .ref (g.2.1 b))]) [1] rfl (J20 M h)
def on_X5_part : Nat := 0xad0700b42a0700a70d00b42a0a00991b
theorem ob_X5_part : OKB cX5_part on_X5_part 16 := ⟨by decide +kernel, by decide +kernel⟩
theorem dX5_part_0 : dc cX5_part 0 1 (.iload_n 1) 1 := o_27 ob_X5_part rfl rfl rfl
theorem dX5_part_1 : dc cX5_part 1 4 (.ifCond .eq 10) 3 := o_153 ob_X5_part rfl rfl rfl rfl
theorem dX5_part_4 : dc cX5_part 4 5 (.aload_n 0) 1 := o_42 ob_X5_part rfl rfl rfl
theorem dX5_part_5 : dc cX5_part 5 8 (.getfield 13) 3 := o_180 ob_X5_part rfl rfl rfl rfl
theorem dX5_part_8 : dc cX5_part 8 11 (.goto 7) 3 := o_167 ob_X5_part rfl rfl rfl rfl
theorem dX5_part_11 : dc cX5_part 11 12 (.aload_n 0) 1 := o_42 ob_X5_part rfl rfl rfl
theorem dX5_part_12 : dc cX5_part 12 15 (.getfield 7) 3 := o_180 ob_X5_part rfl rfl rfl rfl
theorem dX5_part_15 : dc cX5_part 15 16 .lreturn 1 := o_173 ob_X5_part rfl rfl rfl
def F_Fraction_part (b : Nat) (x1 : Int32) (M : Mem) : Option (Int64) :=
  if x1 = 0 then some (M.2 b 0) else some (M.2 b 1)
set_option maxRecDepth 100000 in
set_option maxHeartbeats 4000000 in
theorem K_Fraction_part (l : Launch) (g : GB) (htr : l.stackTraces = false) (b : Nat) (hb : isFrac b) (x1 : Int32) (M : Mem) (rr : Int64) (h : F_Fraction_part b x1 M = some rr) : CT l g yX5_part (.code yX5_part cX5_part 2 (some .long) :: wAll) { frames := 0, cells := 0, slots := 0, locals := 0 } [.ref (g.2.1 b), .int x1] M (.inl (some (.long rr))) M := by
  refine CT.of [(0, .ref (g.2.1 b)), (1, .int x1)] (by decide +kernel) (Nat.le_of_ble_eq_true rfl) rfl htr ?_
  intro p e s m args below meth c K hr ht
  skip
  obtain ⟨PHI, hPHI, h⟩ : ∃ PHI : Int64 → Prop, (∀ a, PHI a → a = rr) ∧ wpO (F_Fraction_part b x1 M) PHI := ⟨fun a => a = rr, fun _ h => h, _, h, rfl⟩
  unfold F_Fraction_part at h
  refine G_iload_n rfl 1 rfl K dX5_part_0 ?_
  refine G_if_eq (tgt := 11) K dX5_part_1 (by decide) (fun hc => ?_) (fun hc => ?_)
  · have h := wpO_t h hc
    refine G_aload_n rfl 0 rfl K dX5_part_11 ?_
    refine G_get (ci := 5) (k := 0) K rfl in_X5 wd_380 rfl dX5_part_12 hb.1 (hb.2 _ _) (Nat.le_of_ble_eq_true rfl) rfl ?_
    cases hPHI _ (wpO_some h)
    exact G_lret K hr dX5_part_15 (Nat.le_of_ble_eq_true rfl) (Nat.le_of_ble_eq_true rfl) ⟨rfl, rfl⟩
  · have h := wpO_f h hc
    refine G_aload_n rfl 0 rfl K dX5_part_4 ?_
    refine G_get (ci := 5) (k := 1) K rfl in_X5 wd_384 rfl dX5_part_5 hb.1 (hb.2 _ _) (Nat.le_of_ble_eq_true rfl) rfl ?_
    refine G_goto (tgt := 15) K dX5_part_8 (by decide) ?_
    cases hPHI _ (wpO_some h)
    exact G_lret K hr dX5_part_15 (Nat.le_of_ble_eq_true rfl) (Nat.le_of_ble_eq_true rfl) ⟨rfl, rfl⟩
def on_J9_floorDiv_f86c9 : Nat := 0xad0416ad650a0416080099941e6920041611009c940983201e04376d201e
theorem ob_J9_floorDiv_f86c9 : OKB cJ9_floorDiv_f86c9 on_J9_floorDiv_f86c9 30 := ⟨by decide +kernel, by decide +kernel⟩
theorem dJ9_floorDiv_f86c9_0 : dc cJ9_floorDiv_f86c9 0 1 (.lload_n 0) 1 := o_30 ob_J9_floorDiv_f86c9 rfl rfl rfl
theorem dJ9_floorDiv_f86c9_1 : dc cJ9_floorDiv_f86c9 1 2 (.lload_n 2) 1 := o_32 ob_J9_floorDiv_f86c9 rfl rfl rfl
theorem dJ9_floorDiv_f86c9_2 : dc cJ9_floorDiv_f86c9 2 3 .ldiv 1 := o_109 ob_J9_floorDiv_f86c9 rfl rfl rfl
theorem dJ9_floorDiv_f86c9_3 : dc cJ9_floorDiv_f86c9 3 5 (.lstore 4) 2 := o_55 ob_J9_floorDiv_f86c9 rfl rfl rfl rfl
theorem dJ9_floorDiv_f86c9_5 : dc cJ9_floorDiv_f86c9 5 6 (.lload_n 0) 1 := o_30 ob_J9_floorDiv_f86c9 rfl rfl rfl
theorem dJ9_floorDiv_f86c9_6 : dc cJ9_floorDiv_f86c9 6 7 (.lload_n 2) 1 := o_32 ob_J9_floorDiv_f86c9 rfl rfl rfl
theorem dJ9_floorDiv_f86c9_7 : dc cJ9_floorDiv_f86c9 7 8 .lxor 1 := o_131 ob_J9_floorDiv_f86c9 rfl rfl rfl
theorem dJ9_floorDiv_f86c9_8 : dc cJ9_floorDiv_f86c9 8 9 (.lconst 0) 1 := o_9 ob_J9_floorDiv_f86c9 rfl rfl rfl
theorem dJ9_floorDiv_f86c9_9 : dc cJ9_floorDiv_f86c9 9 10 .lcmp 1 := o_148 ob_J9_floorDiv_f86c9 rfl rfl rfl
theorem dJ9_floorDiv_f86c9_10 : dc cJ9_floorDiv_f86c9 10 13 (.ifCond .ge 17) 3 := o_156 ob_J9_floorDiv_f86c9 rfl rfl rfl rfl
theorem dJ9_floorDiv_f86c9_13 : dc cJ9_floorDiv_f86c9 13 15 (.lload 4) 2 := o_22 ob_J9_floorDiv_f86c9 rfl rfl rfl rfl
theorem dJ9_floorDiv_f86c9_15 : dc cJ9_floorDiv_f86c9 15 16 (.lload_n 2) 1 := o_32 ob_J9_floorDiv_f86c9 rfl rfl rfl
theorem dJ9_floorDiv_f86c9_16 : dc cJ9_floorDiv_f86c9 16 17 .lmul 1 := o_105 ob_J9_floorDiv_f86c9 rfl rfl rfl
theorem dJ9_floorDiv_f86c9_17 : dc cJ9_floorDiv_f86c9 17 18 (.lload_n 0) 1 := o_30 ob_J9_floorDiv_f86c9 rfl rfl rfl
theorem dJ9_floorDiv_f86c9_18 : dc cJ9_floorDiv_f86c9 18 19 .lcmp 1 := o_148 ob_J9_floorDiv_f86c9 rfl rfl rfl
theorem dJ9_floorDiv_f86c9_19 : dc cJ9_floorDiv_f86c9 19 22 (.ifCond .eq 8) 3 := o_153 ob_J9_floorDiv_f86c9 rfl rfl rfl rfl
theorem dJ9_floorDiv_f86c9_22 : dc cJ9_floorDiv_f86c9 22 24 (.lload 4) 2 := o_22 ob_J9_floorDiv_f86c9 rfl rfl rfl rfl
theorem dJ9_floorDiv_f86c9_24 : dc cJ9_floorDiv_f86c9 24 25 (.lconst 1) 1 := o_10 ob_J9_floorDiv_f86c9 rfl rfl rfl
theorem dJ9_floorDiv_f86c9_25 : dc cJ9_floorDiv_f86c9 25 26 .lsub 1 := o_101 ob_J9_floorDiv_f86c9 rfl rfl rfl
theorem dJ9_floorDiv_f86c9_26 : dc cJ9_floorDiv_f86c9 26 27 .lreturn 1 := o_173 ob_J9_floorDiv_f86c9 rfl rfl rfl
theorem dJ9_floorDiv_f86c9_27 : dc cJ9_floorDiv_f86c9 27 29 (.lload 4) 2 := o_22 ob_J9_floorDiv_f86c9 rfl rfl rfl rfl
theorem dJ9_floorDiv_f86c9_29 : dc cJ9_floorDiv_f86c9 29 30 .lreturn 1 := o_173 ob_J9_floorDiv_f86c9 rfl rfl rfl
def F_Math_floorDiv (x0 : Int64) (x2 : Int64) (M : Mem) : Option (Int64) :=
  if ¬ x2 = 0 then if 0 ≤ (x0 ^^^ x2) then some (x0 / x2) else if ((x0 / x2) * x2) = x0 then some (x0 / x2) else some ((x0 / x2) - 1) else none
set_option maxRecDepth 100000 in
set_option maxHeartbeats 4000000 in
theorem K_Math_floorDiv (l : Launch) (g : GB) (htr : l.stackTraces = false) (x0 : Int64) (x2 : Int64) (M : Mem) (rr : Int64) (h : F_Math_floorDiv x0 x2 M = some rr) : CT l g yJ9_floorDiv_f86c9 (.code yJ9_floorDiv_f86c9 cJ9_floorDiv_f86c9 6 (some .long) :: wAll) { frames := 0, cells := 0, slots := 0, locals := 0 } [.long x0, .long x2] M (.inl (some (.long rr))) M := by
  refine CT.of [(0, .long x0), (2, .long x2)] pf_J9_floorDiv_f86c9 (Nat.le_of_ble_eq_true rfl) rfl htr ?_
  intro p e s m args below meth c K hr ht
  skip
  obtain ⟨PHI, hPHI, h⟩ : ∃ PHI : Int64 → Prop, (∀ a, PHI a → a = rr) ∧ wpO (F_Math_floorDiv x0 x2 M) PHI := ⟨fun a => a = rr, fun _ h => h, _, h, rfl⟩
  unfold F_Math_floorDiv at h
  refine G_lload_n rfl 0 rfl K dJ9_floorDiv_f86c9_0 ?_
  refine G_lload_n rfl 1 rfl K dJ9_floorDiv_f86c9_1 ?_
  obtain ⟨hc, h⟩ := wpO_g h
  refine G_ldiv hc K dJ9_floorDiv_f86c9_2 ?_
  refine G_lstore K dJ9_floorDiv_f86c9_3 (Nat.le_of_ble_eq_true rfl) rfl ?_
  refine G_lload_n rfl 1 rfl K dJ9_floorDiv_f86c9_5 ?_
  refine G_lload_n rfl 2 rfl K dJ9_floorDiv_f86c9_6 ?_
  refine G_lxor K dJ9_floorDiv_f86c9_7 ?_
  refine G_lconst (v := 0) rfl K dJ9_floorDiv_f86c9_8 ?_
  refine G_lcmp_ge (tgt := 27) K dJ9_floorDiv_f86c9_9 dJ9_floorDiv_f86c9_10 (by decide) (fun hc => ?_) (fun hc => ?_)
  · have h := wpO_t h hc
    refine G_lload 0 rfl K dJ9_floorDiv_f86c9_27 ?_
    cases hPHI _ (wpO_some h)
    exact G_lret K hr dJ9_floorDiv_f86c9_29 (Nat.le_of_ble_eq_true rfl) (Nat.le_of_ble_eq_true rfl) ⟨rfl, rfl⟩
  · have h := wpO_f h hc
    refine G_lload 0 rfl K dJ9_floorDiv_f86c9_13 ?_
    refine G_lload_n rfl 2 rfl K dJ9_floorDiv_f86c9_15 ?_
    refine G_lmul K dJ9_floorDiv_f86c9_16 ?_
    refine G_lload_n rfl 1 rfl K dJ9_floorDiv_f86c9_17 ?_
    refine G_lcmp_eq (tgt := 27) K dJ9_floorDiv_f86c9_18 dJ9_floorDiv_f86c9_19 (by decide) (fun hc => ?_) (fun hc => ?_)
    · have h := wpO_t h hc
      refine G_lload 0 rfl K dJ9_floorDiv_f86c9_27 ?_
      cases hPHI _ (wpO_some h)
      exact G_lret K hr dJ9_floorDiv_f86c9_29 (Nat.le_of_ble_eq_true rfl) (Nat.le_of_ble_eq_true rfl) ⟨rfl, rfl⟩
    · have h := wpO_f h hc
      refine G_lload 0 rfl K dJ9_floorDiv_f86c9_22 ?_
      refine G_lconst (v := 1) rfl K dJ9_floorDiv_f86c9_24 ?_
      refine G_lsub K dJ9_floorDiv_f86c9_25 ?_
      cases hPHI _ (wpO_some h)
      exact G_lret K hr dJ9_floorDiv_f86c9_26 (Nat.le_of_ble_eq_true rfl) (Nat.le_of_ble_eq_true rfl) ⟨rfl, rfl⟩
theorem yd_J9_floorDiv_f86c9 : ydN yJ9_floorDiv_f86c9 2 := ⟨by decide, by decide, by decide +kernel⟩
theorem wv_559 : wdS "KeptWell$Fraction" 26 yJ9_floorDiv_f86c9 cJ9_floorDiv_f86c9 6 (some .long) := ⟨wd_559, wd_560, wd_4, wd_561⟩
def on_X5_order : Nat := 0xac0367ffa701118410367410150e3718160a3716160c370e1608370a16ac10150500a774101509009a940916161200a70307009a94181616161f009a940918160a009994091616ac10150500a774101509009c94141612161400999414161216183765690e1614160c16163765690a161216081614371a00b80e160c1612371a00b80a160816ac0305009d94090e160a009e94090a169700a2c8001111151136031036040e3706160c3704160a372008371e
theorem ob_X5_order : OKB cX5_order on_X5_order 178 := ⟨by decide +kernel, by decide +kernel⟩
theorem dX5_order_0 : dc cX5_order 0 1 (.lload_n 0) 1 := o_30 ob_X5_order rfl rfl rfl
theorem dX5_order_1 : dc cX5_order 1 3 (.lstore 8) 2 := o_55 ob_X5_order rfl rfl rfl rfl
theorem dX5_order_3 : dc cX5_order 3 4 (.lload_n 2) 1 := o_32 ob_X5_order rfl rfl rfl
theorem dX5_order_4 : dc cX5_order 4 6 (.lstore 10) 2 := o_55 ob_X5_order rfl rfl rfl rfl
theorem dX5_order_6 : dc cX5_order 6 8 (.lload 4) 2 := o_22 ob_X5_order rfl rfl rfl rfl
theorem dX5_order_8 : dc cX5_order 8 10 (.lstore 12) 2 := o_55 ob_X5_order rfl rfl rfl rfl
theorem dX5_order_10 : dc cX5_order 10 12 (.lload 6) 2 := o_22 ob_X5_order rfl rfl rfl rfl
theorem dX5_order_12 : dc cX5_order 12 14 (.lstore 14) 2 := o_55 ob_X5_order rfl rfl rfl rfl
theorem dX5_order_14 : dc cX5_order 14 15 (.iconst 1) 1 := o_4 ob_X5_order rfl rfl rfl
theorem dX5_order_15 : dc cX5_order 15 17 (.istore 16) 2 := o_54 ob_X5_order rfl rfl rfl rfl
theorem dX5_order_17 : dc cX5_order 17 18 (.iconst 0) 1 := o_3 ob_X5_order rfl rfl rfl
theorem dX5_order_18 : dc cX5_order 18 20 (.istore 17) 2 := o_54 ob_X5_order rfl rfl rfl rfl
theorem dX5_order_20 : dc cX5_order 20 22 (.iload 17) 2 := o_21 ob_X5_order rfl rfl rfl rfl
theorem dX5_order_22 : dc cX5_order 22 25 (.sipush 200) 3 := o_17 ob_X5_order rfl rfl rfl rfl
theorem dX5_order_25 : dc cX5_order 25 28 (.if_icmp .ge 151) 3 := o_162 ob_X5_order rfl rfl rfl rfl
theorem dX5_order_28 : dc cX5_order 28 30 (.lload 10) 2 := o_22 ob_X5_order rfl rfl rfl rfl
theorem dX5_order_30 : dc cX5_order 30 31 (.lconst 0) 1 := o_9 ob_X5_order rfl rfl rfl
theorem dX5_order_31 : dc cX5_order 31 32 .lcmp 1 := o_148 ob_X5_order rfl rfl rfl
theorem dX5_order_32 : dc cX5_order 32 35 (.ifCond .le 10) 3 := o_158 ob_X5_order rfl rfl rfl rfl
theorem dX5_order_35 : dc cX5_order 35 37 (.lload 14) 2 := o_22 ob_X5_order rfl rfl rfl rfl
theorem dX5_order_37 : dc cX5_order 37 38 (.lconst 0) 1 := o_9 ob_X5_order rfl rfl rfl
theorem dX5_order_38 : dc cX5_order 38 39 .lcmp 1 := o_148 ob_X5_order rfl rfl rfl
theorem dX5_order_39 : dc cX5_order 39 42 (.ifCond .gt 5) 3 := o_157 ob_X5_order rfl rfl rfl rfl
theorem dX5_order_42 : dc cX5_order 42 43 (.iconst 0) 1 := o_3 ob_X5_order rfl rfl rfl
theorem dX5_order_43 : dc cX5_order 43 44 .ireturn 1 := o_172 ob_X5_order rfl rfl rfl
theorem dX5_order_44 : dc cX5_order 44 46 (.lload 8) 2 := o_22 ob_X5_order rfl rfl rfl rfl
theorem dX5_order_46 : dc cX5_order 46 48 (.lload 10) 2 := o_22 ob_X5_order rfl rfl rfl rfl
theorem dX5_order_48 : dc cX5_order 48 51 (.invokestatic 26) 3 := o_184 ob_X5_order rfl rfl rfl rfl
theorem dX5_order_51 : dc cX5_order 51 53 (.lstore 18) 2 := o_55 ob_X5_order rfl rfl rfl rfl
theorem dX5_order_53 : dc cX5_order 53 55 (.lload 12) 2 := o_22 ob_X5_order rfl rfl rfl rfl
theorem dX5_order_55 : dc cX5_order 55 57 (.lload 14) 2 := o_22 ob_X5_order rfl rfl rfl rfl
theorem dX5_order_57 : dc cX5_order 57 60 (.invokestatic 26) 3 := o_184 ob_X5_order rfl rfl rfl rfl
theorem dX5_order_60 : dc cX5_order 60 62 (.lstore 20) 2 := o_55 ob_X5_order rfl rfl rfl rfl
theorem dX5_order_62 : dc cX5_order 62 64 (.lload 8) 2 := o_22 ob_X5_order rfl rfl rfl rfl
theorem dX5_order_64 : dc cX5_order 64 66 (.lload 18) 2 := o_22 ob_X5_order rfl rfl rfl rfl
theorem dX5_order_66 : dc cX5_order 66 68 (.lload 10) 2 := o_22 ob_X5_order rfl rfl rfl rfl
theorem dX5_order_68 : dc cX5_order 68 69 .lmul 1 := o_105 ob_X5_order rfl rfl rfl
theorem dX5_order_69 : dc cX5_order 69 70 .lsub 1 := o_101 ob_X5_order rfl rfl rfl
theorem dX5_order_70 : dc cX5_order 70 72 (.lstore 22) 2 := o_55 ob_X5_order rfl rfl rfl rfl
theorem dX5_order_72 : dc cX5_order 72 74 (.lload 12) 2 := o_22 ob_X5_order rfl rfl rfl rfl
theorem dX5_order_74 : dc cX5_order 74 76 (.lload 20) 2 := o_22 ob_X5_order rfl rfl rfl rfl
theorem dX5_order_76 : dc cX5_order 76 78 (.lload 14) 2 := o_22 ob_X5_order rfl rfl rfl rfl
theorem dX5_order_78 : dc cX5_order 78 79 .lmul 1 := o_105 ob_X5_order rfl rfl rfl
theorem dX5_order_79 : dc cX5_order 79 80 .lsub 1 := o_101 ob_X5_order rfl rfl rfl
theorem dX5_order_80 : dc cX5_order 80 82 (.lstore 24) 2 := o_55 ob_X5_order rfl rfl rfl rfl
theorem dX5_order_82 : dc cX5_order 82 84 (.lload 18) 2 := o_22 ob_X5_order rfl rfl rfl rfl
theorem dX5_order_84 : dc cX5_order 84 86 (.lload 20) 2 := o_22 ob_X5_order rfl rfl rfl rfl
theorem dX5_order_86 : dc cX5_order 86 87 .lcmp 1 := o_148 ob_X5_order rfl rfl rfl
theorem dX5_order_87 : dc cX5_order 87 90 (.ifCond .eq 20) 3 := o_153 ob_X5_order rfl rfl rfl rfl
theorem dX5_order_90 : dc cX5_order 90 92 (.lload 18) 2 := o_22 ob_X5_order rfl rfl rfl rfl
theorem dX5_order_92 : dc cX5_order 92 94 (.lload 20) 2 := o_22 ob_X5_order rfl rfl rfl rfl
theorem dX5_order_94 : dc cX5_order 94 95 .lcmp 1 := o_148 ob_X5_order rfl rfl rfl
theorem dX5_order_95 : dc cX5_order 95 98 (.ifCond .ge 9) 3 := o_156 ob_X5_order rfl rfl rfl rfl
theorem dX5_order_98 : dc cX5_order 98 100 (.iload 16) 2 := o_21 ob_X5_order rfl rfl rfl rfl
theorem dX5_order_100 : dc cX5_order 100 101 .ineg 1 := o_116 ob_X5_order rfl rfl rfl
theorem dX5_order_101 : dc cX5_order 101 104 (.goto 5) 3 := o_167 ob_X5_order rfl rfl rfl rfl
theorem dX5_order_104 : dc cX5_order 104 106 (.iload 16) 2 := o_21 ob_X5_order rfl rfl rfl rfl
theorem dX5_order_106 : dc cX5_order 106 107 .ireturn 1 := o_172 ob_X5_order rfl rfl rfl
theorem dX5_order_107 : dc cX5_order 107 109 (.lload 22) 2 := o_22 ob_X5_order rfl rfl rfl rfl
theorem dX5_order_109 : dc cX5_order 109 110 (.lconst 0) 1 := o_9 ob_X5_order rfl rfl rfl
theorem dX5_order_110 : dc cX5_order 110 111 .lcmp 1 := o_148 ob_X5_order rfl rfl rfl
theorem dX5_order_111 : dc cX5_order 111 114 (.ifCond .eq 10) 3 := o_153 ob_X5_order rfl rfl rfl rfl
theorem dX5_order_114 : dc cX5_order 114 116 (.lload 24) 2 := o_22 ob_X5_order rfl rfl rfl rfl
theorem dX5_order_116 : dc cX5_order 116 117 (.lconst 0) 1 := o_9 ob_X5_order rfl rfl rfl
theorem dX5_order_117 : dc cX5_order 117 118 .lcmp 1 := o_148 ob_X5_order rfl rfl rfl
theorem dX5_order_118 : dc cX5_order 118 121 (.ifCond .ne 31) 3 := o_154 ob_X5_order rfl rfl rfl rfl
theorem dX5_order_121 : dc cX5_order 121 123 (.lload 22) 2 := o_22 ob_X5_order rfl rfl rfl rfl
theorem dX5_order_123 : dc cX5_order 123 125 (.lload 24) 2 := o_22 ob_X5_order rfl rfl rfl rfl
theorem dX5_order_125 : dc cX5_order 125 126 .lcmp 1 := o_148 ob_X5_order rfl rfl rfl
theorem dX5_order_126 : dc cX5_order 126 129 (.ifCond .ne 7) 3 := o_154 ob_X5_order rfl rfl rfl rfl
theorem dX5_order_129 : dc cX5_order 129 130 (.iconst 0) 1 := o_3 ob_X5_order rfl rfl rfl
theorem dX5_order_130 : dc cX5_order 130 133 (.goto 18) 3 := o_167 ob_X5_order rfl rfl rfl rfl
theorem dX5_order_133 : dc cX5_order 133 135 (.lload 22) 2 := o_22 ob_X5_order rfl rfl rfl rfl
theorem dX5_order_135 : dc cX5_order 135 136 (.lconst 0) 1 := o_9 ob_X5_order rfl rfl rfl
theorem dX5_order_136 : dc cX5_order 136 137 .lcmp 1 := o_148 ob_X5_order rfl rfl rfl
theorem dX5_order_137 : dc cX5_order 137 140 (.ifCond .ne 9) 3 := o_154 ob_X5_order rfl rfl rfl rfl
theorem dX5_order_140 : dc cX5_order 140 142 (.iload 16) 2 := o_21 ob_X5_order rfl rfl rfl rfl
theorem dX5_order_142 : dc cX5_order 142 143 .ineg 1 := o_116 ob_X5_order rfl rfl rfl
theorem dX5_order_143 : dc cX5_order 143 146 (.goto 5) 3 := o_167 ob_X5_order rfl rfl rfl rfl
theorem dX5_order_146 : dc cX5_order 146 148 (.iload 16) 2 := o_21 ob_X5_order rfl rfl rfl rfl
theorem dX5_order_148 : dc cX5_order 148 149 .ireturn 1 := o_172 ob_X5_order rfl rfl rfl
theorem dX5_order_149 : dc cX5_order 149 151 (.lload 10) 2 := o_22 ob_X5_order rfl rfl rfl rfl
theorem dX5_order_151 : dc cX5_order 151 153 (.lstore 8) 2 := o_55 ob_X5_order rfl rfl rfl rfl
theorem dX5_order_153 : dc cX5_order 153 155 (.lload 14) 2 := o_22 ob_X5_order rfl rfl rfl rfl
theorem dX5_order_155 : dc cX5_order 155 157 (.lstore 12) 2 := o_55 ob_X5_order rfl rfl rfl rfl
theorem dX5_order_157 : dc cX5_order 157 159 (.lload 22) 2 := o_22 ob_X5_order rfl rfl rfl rfl
theorem dX5_order_159 : dc cX5_order 159 161 (.lstore 10) 2 := o_55 ob_X5_order rfl rfl rfl rfl
theorem dX5_order_161 : dc cX5_order 161 163 (.lload 24) 2 := o_22 ob_X5_order rfl rfl rfl rfl
theorem dX5_order_163 : dc cX5_order 163 165 (.lstore 14) 2 := o_55 ob_X5_order rfl rfl rfl rfl
theorem dX5_order_165 : dc cX5_order 165 167 (.iload 16) 2 := o_21 ob_X5_order rfl rfl rfl rfl
theorem dX5_order_167 : dc cX5_order 167 168 .ineg 1 := o_116 ob_X5_order rfl rfl rfl
theorem dX5_order_168 : dc cX5_order 168 170 (.istore 16) 2 := o_54 ob_X5_order rfl rfl rfl rfl
theorem dX5_order_170 : dc cX5_order 170 173 (.iinc 17 1) 3 := o_132 ob_X5_order rfl rfl rfl rfl rfl
theorem dX5_order_173 : dc cX5_order 173 176 (.goto (-153)) 3 := o_167 ob_X5_order rfl rfl rfl rfl
theorem dX5_order_176 : dc cX5_order 176 177 (.iconst 0) 1 := o_3 ob_X5_order rfl rfl rfl
theorem dX5_order_177 : dc cX5_order 177 178 .ireturn 1 := o_172 ob_X5_order rfl rfl rfl
def F_Fraction_order_j121 (x16 : Int32) (x22 : Int64) (x24 : Int64) (M : Mem) : Option (Int32) :=
  if x22 = x24 then some 0 else if x22 = 0 then some (-x16) else some x16
def F_Fraction_order_j90 (x16 : Int32) (x18 : Int64) (x20 : Int64) (M : Mem) : Option (Int32) :=
  if x20 ≤ x18 then some x16 else some (-x16)
def F_Fraction_order_b20 (M : Mem) (z : Int64 × Int64 × Int64 × Int64 × Int32 × Int32) : Option ((Int64 × Int64 × Int64 × Int64 × Int32 × Int32) ⊕ ((Unit) ⊕ ((Int32 × Int64 × Int64) ⊕ ((Int32 × Int64 × Int64) ⊕ ((Unit)))))) :=
  if 200 ≤ z.2.2.2.2.2 then some (.inr (.inr (.inr (.inr (()))))) else if z.2.1 ≤ 0 then some (.inr (.inl (()))) else if 0 < z.2.2.2.1 then (F_Math_floorDiv z.1 z.2.1 M).bind fun r1 => (F_Math_floorDiv z.2.2.1 z.2.2.2.1 M).bind fun r2 => if r1 = r2 then if (z.1 - (r1 * z.2.1)) = 0 then some (.inr (.inr (.inr (.inl ((z.2.2.2.2.1, z.1 - (r1 * z.2.1), z.2.2.1 - (r2 * z.2.2.2.1))))))) else if (z.2.2.1 - (r2 * z.2.2.2.1)) = 0 then some (.inr (.inr (.inr (.inl ((z.2.2.2.2.1, z.1 - (r1 * z.2.1), z.2.2.1 - (r2 * z.2.2.2.1))))))) else some (.inl ((z.2.1, z.1 - (r1 * z.2.1), z.2.2.2.1, z.2.2.1 - (r2 * z.2.2.2.1), -z.2.2.2.2.1, z.2.2.2.2.2 + 1))) else some (.inr (.inr (.inl ((z.2.2.2.2.1, r1, r2))))) else some (.inr (.inl (())))
def F_Fraction_order_l20 (x8 : Int64) (x10 : Int64) (x12 : Int64) (x14 : Int64) (x16 : Int32) (x17 : Int32) (M : Mem) : Option (Int32) :=
  (iter (F_Fraction_order_b20 M) FUEL (x8, x10, x12, x14, x16, x17)).bind fun q => match q with
    | .inl r => some 0
    | .inr (.inl r) => F_Fraction_order_j90 r.1 r.2.1 r.2.2 M
    | .inr (.inr (.inl r)) => F_Fraction_order_j121 r.1 r.2.1 r.2.2 M
    | .inr (.inr (.inr r)) => some 0
def F_Fraction_order (x0 : Int64) (x2 : Int64) (x4 : Int64) (x6 : Int64) (M : Mem) : Option (Int32) :=
  F_Fraction_order_l20 x0 x2 x4 x6 1 0 M
set_option maxRecDepth 100000 in
set_option maxHeartbeats 4000000 in
theorem K_Fraction_order (l : Launch) (g : GB) (htr : l.stackTraces = false) (x0 : Int64) (x2 : Int64) (x4 : Int64) (x6 : Int64) (M : Mem) (rr : Int32) (h : F_Fraction_order x0 x2 x4 x6 M = some rr) : CT l g yX5_order (.code yX5_order cX5_order 26 (some .int) :: wAll) { frames := 1, cells := 0, slots := 0, locals := 25 } [.long x0, .long x2, .long x4, .long x6] M (.inl (some (.int rr))) M := by
  refine CT.of [(0, .long x0), (2, .long x2), (4, .long x4), (6, .long x6)] (by decide +kernel) (Nat.le_of_ble_eq_true rfl) rfl htr ?_
  intro p e s m args below meth c K hr ht
  skip
  obtain ⟨PHI, hPHI, h⟩ : ∃ PHI : Int32 → Prop, (∀ a, PHI a → a = rr) ∧ wpO (F_Fraction_order x0 x2 x4 x6 M) PHI := ⟨fun a => a = rr, fun _ h => h, _, h, rfl⟩
  have J121 : ∀ (x16 : Int32) (x22 : Int64) (x24 : Int64), wpO (F_Fraction_order_j121 x16 x22 x24 M) PHI → GG p l e { frames := 1, cells := 0, slots := 0, locals := 25 } s m args below meth c g 26 (vx_MQ below (Qn g s.heap.size (.inl (some (.int rr))) M) (QX g s.heap.size (.inl (some (.int rr))) M) args s 0 0 (AS g s.heap.size)) 0 0 121 [(16, .int x16), (22, .long x22), (24, .long x24)] [] M := by
    intro x16 x22 x24 h
    unfold F_Fraction_order_j121 at h
    refine G_lload 1 rfl K dX5_order_121 ?_
    refine G_lload 2 rfl K dX5_order_123 ?_
    refine G_lcmp_ne (tgt := 133) K dX5_order_125 dX5_order_126 (by decide) (fun hc => ?_) (fun hc => ?_)
    · have h := wpO_f h hc
      refine G_lload 1 rfl K dX5_order_133 ?_
      refine G_lconst (v := 0) rfl K dX5_order_135 ?_
      refine G_lcmp_ne (tgt := 146) K dX5_order_136 dX5_order_137 (by decide) (fun hc => ?_) (fun hc => ?_)
      · have h := wpO_f h hc
        refine G_iload 0 rfl K dX5_order_146 ?_
        cases hPHI _ (wpO_some h)
        exact G_iret K hr rfl dX5_order_148 (Nat.le_of_ble_eq_true rfl) (Nat.le_of_ble_eq_true rfl) ⟨rfl, rfl⟩
      · have h := wpO_t h hc
        refine G_iload 0 rfl K dX5_order_140 ?_
        refine G_ineg K dX5_order_142 ?_
        refine G_goto (tgt := 148) K dX5_order_143 (by decide) ?_
        cases hPHI _ (wpO_some h)
        exact G_iret K hr rfl dX5_order_148 (Nat.le_of_ble_eq_true rfl) (Nat.le_of_ble_eq_true rfl) ⟨rfl, rfl⟩
    · have h := wpO_t h hc
      refine G_iconst (v := 0) rfl K dX5_order_129 ?_
      refine G_goto (tgt := 148) K dX5_order_130 (by decide) ?_
      cases hPHI _ (wpO_some h)
      exact G_iret K hr rfl dX5_order_148 (Nat.le_of_ble_eq_true rfl) (Nat.le_of_ble_eq_true rfl) ⟨rfl, rfl⟩
  have J90 : ∀ (x16 : Int32) (x18 : Int64) (x20 : Int64), wpO (F_Fraction_order_j90 x16 x18 x20 M) PHI → GG p l e { frames := 1, cells := 0, slots := 0, locals := 25 } s m args below meth c g 26 (vx_MQ below (Qn g s.heap.size (.inl (some (.int rr))) M) (QX g s.heap.size (.inl (some (.int rr))) M) args s 0 0 (AS g s.heap.size)) 0 0 90 [(16, .int x16), (18, .long x18), (20, .long x20)] [] M := by
    intro x16 x18 x20 h
    unfold F_Fraction_order_j90 at h
    refine G_lload 1 rfl K dX5_order_90 ?_
    refine G_lload 2 rfl K dX5_order_92 ?_
    refine G_lcmp_ge (tgt := 104) K dX5_order_94 dX5_order_95 (by decide) (fun hc => ?_) (fun hc => ?_)
    · have h := wpO_t h hc
      refine G_iload 0 rfl K dX5_order_104 ?_
      cases hPHI _ (wpO_some h)
      exact G_iret K hr rfl dX5_order_106 (Nat.le_of_ble_eq_true rfl) (Nat.le_of_ble_eq_true rfl) ⟨rfl, rfl⟩
    · have h := wpO_f h hc
      refine G_iload 0 rfl K dX5_order_98 ?_
      refine G_ineg K dX5_order_100 ?_
      refine G_goto (tgt := 106) K dX5_order_101 (by decide) ?_
      cases hPHI _ (wpO_some h)
      exact G_iret K hr rfl dX5_order_106 (Nat.le_of_ble_eq_true rfl) (Nat.le_of_ble_eq_true rfl) ⟨rfl, rfl⟩
  have J20 : ∀ (x8 : Int64) (x10 : Int64) (x12 : Int64) (x14 : Int64) (x16 : Int32) (x17 : Int32), wpO (F_Fraction_order_l20 x8 x10 x12 x14 x16 x17 M) PHI → GG p l e { frames := 1, cells := 0, slots := 0, locals := 25 } s m args below meth c g 26 (vx_MQ below (Qn g s.heap.size (.inl (some (.int rr))) M) (QX g s.heap.size (.inl (some (.int rr))) M) args s 0 0 (AS g s.heap.size)) 0 0 20 [(8, .long x8), (10, .long x10), (12, .long x12), (14, .long x14), (16, .int x16), (17, .int x17)] [] M := by
    intro x8 x10 x12 x14 x16 x17 h
    unfold F_Fraction_order_l20 at h
    refine loop_C6 (G := fun (x8 : Int64) (x10 : Int64) (x12 : Int64) (x14 : Int64) (x16 : Int32) (x17 : Int32) => GG p l e { frames := 1, cells := 0, slots := 0, locals := 25 } s m args below meth c g 26 (vx_MQ below (Qn g s.heap.size (.inl (some (.int rr))) M) (QX g s.heap.size (.inl (some (.int rr))) M) args s 0 0 (AS g s.heap.size)) 0 0 20 [(8, .long x8), (10, .long x10), (12, .long x12), (14, .long x14), (16, .int x16), (17, .int x17)] [] M) (body := F_Fraction_order_b20 M) ?_ FUEL _ _ _ _ _ _ (wpO_bind h)
    intro P20 E20 X20
    intro z h
    unfold F_Fraction_order_b20 at h
    refine G_iload 5 rfl K dX5_order_20 ?_
    refine G_sipush (v := 200) rfl K dX5_order_22 ?_
    refine G_icmp_ge (tgt := 176) K dX5_order_25 (by decide) (fun hc => ?_) (fun hc => ?_)
    · have h := wpO_t h hc
      have h := X20 _ (wpO_some h)
      try dsimp only at h
      refine G_iconst (v := 0) rfl K dX5_order_176 ?_
      cases hPHI _ (wpO_some h)
      exact G_iret K hr rfl dX5_order_177 (Nat.le_of_ble_eq_true rfl) (Nat.le_of_ble_eq_true rfl) ⟨rfl, rfl⟩
    · have h := wpO_f h hc
      refine G_lload 1 rfl K dX5_order_28 ?_
      refine G_lconst (v := 0) rfl K dX5_order_30 ?_
      refine G_lcmp_le (tgt := 42) K dX5_order_31 dX5_order_32 (by decide) (fun hc => ?_) (fun hc => ?_)
      · have h := wpO_t h hc
        have h := X20 _ (wpO_some h)
        try dsimp only at h
        refine G_iconst (v := 0) rfl K dX5_order_42 ?_
        cases hPHI _ (wpO_some h)
        exact G_iret K hr rfl dX5_order_43 (Nat.le_of_ble_eq_true rfl) (Nat.le_of_ble_eq_true rfl) ⟨rfl, rfl⟩
      · have h := wpO_f h hc
        refine G_lload 3 rfl K dX5_order_35 ?_
        refine G_lconst (v := 0) rfl K dX5_order_37 ?_
        refine G_lcmp_gt (tgt := 44) K dX5_order_38 dX5_order_39 (by decide) (fun hc => ?_) (fun hc => ?_)
        · have h := wpO_t h hc
          refine G_lload 0 rfl K dX5_order_44 ?_
          refine G_lload 1 rfl K dX5_order_46 ?_
          obtain ⟨r1, e1, h⟩ := wpO_bind h
          refine G_callSl [.long z.1, .long z.2.1] [] K dX5_order_48 wv_559 yd_J9_floorDiv_f86c9 (by decide) (by decide) rfl rfl (Nat.le_of_ble_eq_true rfl) (K_Math_floorDiv l g htr z.1 z.2.1 M _ e1) ?_
          refine G_lstore K dX5_order_51 (Nat.le_of_ble_eq_true rfl) rfl ?_
          refine G_lload 3 rfl K dX5_order_53 ?_
          refine G_lload 4 rfl K dX5_order_55 ?_
          obtain ⟨r2, e2, h⟩ := wpO_bind h
          refine G_callSl [.long z.2.2.1, .long z.2.2.2.1] [] K dX5_order_57 wv_559 yd_J9_floorDiv_f86c9 (by decide) (by decide) rfl rfl (Nat.le_of_ble_eq_true rfl) (K_Math_floorDiv l g htr z.2.2.1 z.2.2.2.1 M _ e2) ?_
          refine G_lstore K dX5_order_60 (Nat.le_of_ble_eq_true rfl) rfl ?_
          refine G_lload 2 rfl K dX5_order_62 ?_
          refine G_lload 1 rfl K dX5_order_64 ?_
          refine G_lload 3 rfl K dX5_order_66 ?_
          refine G_lmul K dX5_order_68 ?_
          refine G_lsub K dX5_order_69 ?_
          refine G_lstore K dX5_order_70 (Nat.le_of_ble_eq_true rfl) rfl ?_
          refine G_lload 5 rfl K dX5_order_72 ?_
          refine G_lload 1 rfl K dX5_order_74 ?_
          refine G_lload 6 rfl K dX5_order_76 ?_
          refine G_lmul K dX5_order_78 ?_
          refine G_lsub K dX5_order_79 ?_
          refine G_lstore K dX5_order_80 (Nat.le_of_ble_eq_true rfl) rfl ?_
          refine G_lload 3 rfl K dX5_order_82 ?_
          refine G_lload 2 rfl K dX5_order_84 ?_
          refine G_lcmp_eq (tgt := 107) K dX5_order_86 dX5_order_87 (by decide) (fun hc => ?_) (fun hc => ?_)
          · have h := wpO_t h hc
            refine G_lload 1 rfl K dX5_order_107 ?_
            refine G_lconst (v := 0) rfl K dX5_order_109 ?_
            refine G_lcmp_eq (tgt := 121) K dX5_order_110 dX5_order_111 (by decide) (fun hc => ?_) (fun hc => ?_)
            · have h := wpO_t h hc
              have h := X20 _ (wpO_some h)
              try dsimp only at h
              exact G_lv (lv' := [(16, .int z.2.2.2.2.1), (22, .long (z.1 - (r1 * z.2.1))), (24, .long (z.2.2.1 - (r2 * z.2.2.2.1)))]) [8, 1, 0] rfl (J121 z.2.2.2.2.1 (z.1 - (r1 * z.2.1)) (z.2.2.1 - (r2 * z.2.2.2.1)) h)
            · have h := wpO_f h hc
              refine G_lload 0 rfl K dX5_order_114 ?_
              refine G_lconst (v := 0) rfl K dX5_order_116 ?_
              refine G_lcmp_ne (tgt := 149) K dX5_order_117 dX5_order_118 (by decide) (fun hc => ?_) (fun hc => ?_)
              · have h := wpO_f h hc
                refine G_lload 5 rfl K dX5_order_149 ?_
                refine G_lstore K dX5_order_151 (Nat.le_of_ble_eq_true rfl) rfl ?_
                refine G_lload 7 rfl K dX5_order_153 ?_
                refine G_lstore K dX5_order_155 (Nat.le_of_ble_eq_true rfl) rfl ?_
                refine G_lload 3 rfl K dX5_order_157 ?_
                refine G_lstore K dX5_order_159 (Nat.le_of_ble_eq_true rfl) rfl ?_
                refine G_lload 3 rfl K dX5_order_161 ?_
                refine G_lstore K dX5_order_163 (Nat.le_of_ble_eq_true rfl) rfl ?_
                refine G_iload 8 rfl K dX5_order_165 ?_
                refine G_ineg K dX5_order_167 ?_
                refine G_istore K dX5_order_168 (Nat.le_of_ble_eq_true rfl) rfl ?_
                refine G_iinc (v := z.2.2.2.2.2 + 1) 9 rfl K dX5_order_170 rfl (Nat.le_of_ble_eq_true rfl) rfl ?_
                refine G_goto (tgt := 20) K dX5_order_173 (by decide) ?_
                exact G_lv (lv' := [(8, .long z.2.1), (10, .long (z.1 - (r1 * z.2.1))), (12, .long z.2.2.2.1), (14, .long (z.2.2.1 - (r2 * z.2.2.2.1))), (16, .int (-z.2.2.2.2.1)), (17, .int (z.2.2.2.2.2 + 1))]) [5, 3, 4, 2, 1, 0] rfl (E20 z.2.1 (z.1 - (r1 * z.2.1)) z.2.2.2.1 (z.2.2.1 - (r2 * z.2.2.2.1)) (-z.2.2.2.2.1) (z.2.2.2.2.2 + 1) (wpO_some h))
              · have h := wpO_t h hc
                have h := X20 _ (wpO_some h)
                try dsimp only at h
                exact G_lv (lv' := [(16, .int z.2.2.2.2.1), (22, .long (z.1 - (r1 * z.2.1))), (24, .long (z.2.2.1 - (r2 * z.2.2.2.1)))]) [8, 1, 0] rfl (J121 z.2.2.2.2.1 (z.1 - (r1 * z.2.1)) (z.2.2.1 - (r2 * z.2.2.2.1)) h)
          · have h := wpO_f h hc
            have h := X20 _ (wpO_some h)
            try dsimp only at h
            exact G_lv (lv' := [(16, .int z.2.2.2.2.1), (18, .long r1), (20, .long r2)]) [8, 3, 2] rfl (J90 z.2.2.2.2.1 r1 r2 h)
        · have h := wpO_f h hc
          have h := X20 _ (wpO_some h)
          try dsimp only at h
          refine G_iconst (v := 0) rfl K dX5_order_42 ?_
          cases hPHI _ (wpO_some h)
          exact G_iret K hr rfl dX5_order_43 (Nat.le_of_ble_eq_true rfl) (Nat.le_of_ble_eq_true rfl) ⟨rfl, rfl⟩
  unfold F_Fraction_order at h
  refine G_lload_n rfl 0 rfl K dX5_order_0 ?_
  refine G_lstore K dX5_order_1 (Nat.le_of_ble_eq_true rfl) rfl ?_
  refine G_lload_n rfl 2 rfl K dX5_order_3 ?_
  refine G_lstore K dX5_order_4 (Nat.le_of_ble_eq_true rfl) rfl ?_
  refine G_lload 4 rfl K dX5_order_6 ?_
  refine G_lstore K dX5_order_8 (Nat.le_of_ble_eq_true rfl) rfl ?_
  refine G_lload 6 rfl K dX5_order_10 ?_
  refine G_lstore K dX5_order_12 (Nat.le_of_ble_eq_true rfl) rfl ?_
  refine G_iconst (v := 1) rfl K dX5_order_14 ?_
  refine G_istore K dX5_order_15 (Nat.le_of_ble_eq_true rfl) rfl ?_
  refine G_iconst (v := 0) rfl K dX5_order_17 ?_
  refine G_istore K dX5_order_18 (Nat.le_of_ble_eq_true rfl) rfl ?_
  exact G_lv (lv' := [(8, .long x0), (10, .long x2), (12, .long x4), (14, .long x6), (16, .int 1), (17, .int 0)]) [5, 4, 3, 2, 1, 0] rfl (J20 x0 x2 x4 x6 1 0 h)
