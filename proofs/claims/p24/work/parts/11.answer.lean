theorem yd_X10_bringsOwn : ydN yX10_bringsOwn 3 := ⟨by decide, by decide, by decide +kernel⟩
theorem wv_1031 : wdV "KeptWell$Answer" 88 yX10_actOf cX10_actOf 3 (some .int) := ⟨wd_1031, wd_487, wd_488, wd_2, wd_489⟩
theorem wv_1032 : wdV "KeptWell$Answer" 91 yX10_bringsOwn cX10_bringsOwn 4 (some .int) := ⟨wd_1032, wd_578, wd_579, wd_2, wd_580⟩
def on_X0_bringsIn : Nat := 0xac5b00b65800b61b1f00b42a2500b42a1c1b00b42a2500b42a
theorem ob_X0_bringsIn : OKB cX0_bringsIn on_X0_bringsIn 25 := ⟨by decide +kernel, by decide +kernel⟩
theorem dX0_bringsIn_0 : dc cX0_bringsIn 0 1 (.aload_n 0) 1 := o_42 ob_X0_bringsIn rfl rfl rfl
theorem dX0_bringsIn_1 : dc cX0_bringsIn 1 4 (.getfield 37) 3 := o_180 ob_X0_bringsIn rfl rfl rfl rfl
theorem dX0_bringsIn_4 : dc cX0_bringsIn 4 5 (.aload_n 0) 1 := o_42 ob_X0_bringsIn rfl rfl rfl
theorem dX0_bringsIn_5 : dc cX0_bringsIn 5 8 (.getfield 27) 3 := o_180 ob_X0_bringsIn rfl rfl rfl rfl
theorem dX0_bringsIn_8 : dc cX0_bringsIn 8 9 (.iload_n 2) 1 := o_28 ob_X0_bringsIn rfl rfl rfl
theorem dX0_bringsIn_9 : dc cX0_bringsIn 9 10 (.aload_n 0) 1 := o_42 ob_X0_bringsIn rfl rfl rfl
theorem dX0_bringsIn_10 : dc cX0_bringsIn 10 13 (.getfield 37) 3 := o_180 ob_X0_bringsIn rfl rfl rfl rfl
theorem dX0_bringsIn_13 : dc cX0_bringsIn 13 14 (.aload_n 0) 1 := o_42 ob_X0_bringsIn rfl rfl rfl
theorem dX0_bringsIn_14 : dc cX0_bringsIn 14 17 (.getfield 31) 3 := o_180 ob_X0_bringsIn rfl rfl rfl rfl
theorem dX0_bringsIn_17 : dc cX0_bringsIn 17 18 (.iload_n 1) 1 := o_27 ob_X0_bringsIn rfl rfl rfl
theorem dX0_bringsIn_18 : dc cX0_bringsIn 18 21 (.invokevirtual 88) 3 := o_182 ob_X0_bringsIn rfl rfl rfl rfl
theorem dX0_bringsIn_21 : dc cX0_bringsIn 21 24 (.invokevirtual 91) 3 := o_182 ob_X0_bringsIn rfl rfl rfl rfl
theorem dX0_bringsIn_24 : dc cX0_bringsIn 24 25 .ireturn 1 := o_172 ob_X0_bringsIn rfl rfl rfl
def F_Answer_bringsIn (x1 : Int32) (x2 : Int32) (M : Mem) : Option (Int32) :=
  (F_Well_actOf (M.1 52 4) x1 M).bind fun r1 => (F_Well_bringsOwn (M.1 52 3) x2 r1 M).bind fun r2 => some r2
set_option maxRecDepth 100000 in
set_option maxHeartbeats 4000000 in
theorem K_Answer_bringsIn (l : Launch) (g : GB) (htr : l.stackTraces = false) (x1 : Int32) (x2 : Int32) (M : Mem) (rr : Int32) (h : F_Answer_bringsIn x1 x2 M = some rr) : CT l g yX0_bringsIn (.code yX0_bringsIn cX0_bringsIn 3 (some .int) :: wAll) { frames := 2, cells := 0, slots := 0, locals := 44 } [.ref (g.2.1 52), .int x1, .int x2] M (.inl (some (.int rr))) M := by
  refine CT.of [(0, .ref (g.2.1 52)), (1, .int x1), (2, .int x2)] (by decide +kernel) (Nat.le_of_ble_eq_true rfl) rfl htr ?_
  intro p e s m args below meth c K hr ht
  skip
  obtain ⟨PHI, hPHI, h⟩ : ∃ PHI : Int32 → Prop, (∀ a, PHI a → a = rr) ∧ wpO (F_Answer_bringsIn x1 x2 M) PHI := ⟨fun a => a = rr, fun _ h => h, _, h, rfl⟩
  unfold F_Answer_bringsIn at h
  refine G_aload_n rfl 0 rfl K dX0_bringsIn_0 ?_
  refine G_get (ci := 0) (k := 0) K rfl in_X0 wd_255 rfl dX0_bringsIn_1 (Nat.le_of_ble_eq_true rfl) (sh_52 _ _) (Nat.le_of_ble_eq_true rfl) rfl ?_
  refine G_aload_n rfl 0 rfl K dX0_bringsIn_4 ?_
  refine G_get (ci := 0) (k := 3) K rfl in_X0 wd_258 rfl dX0_bringsIn_5 (Nat.le_of_ble_eq_true rfl) (sh_52 _ _) (Nat.le_of_ble_eq_true rfl) rfl ?_
  refine G_iload_n rfl 2 rfl K dX0_bringsIn_8 ?_
  refine G_aload_n rfl 0 rfl K dX0_bringsIn_9 ?_
  refine G_get (ci := 0) (k := 0) K rfl in_X0 wd_255 rfl dX0_bringsIn_10 (Nat.le_of_ble_eq_true rfl) (sh_52 _ _) (Nat.le_of_ble_eq_true rfl) rfl ?_
  refine G_aload_n rfl 0 rfl K dX0_bringsIn_13 ?_
  refine G_get (ci := 0) (k := 4) K rfl in_X0 wd_259 rfl dX0_bringsIn_14 (Nat.le_of_ble_eq_true rfl) (sh_52 _ _) (Nat.le_of_ble_eq_true rfl) rfl ?_
  refine G_iload_n rfl 1 rfl K dX0_bringsIn_17 ?_
  obtain ⟨r1, e1, h⟩ := wpO_bind h
  refine G_callVi (ci := 10) [.int (M.1 52 4), .int x1] [.int x2, .int (M.1 52 3), .ref (g.2.1 1)] K dX0_bringsIn_18 wv_1031 yd_X10_actOf (Nat.le_of_ble_eq_true rfl) (sh_1 _ _) rfl (by decide) (by decide) rfl rfl (Nat.le_of_ble_eq_true rfl) (K_Well_actOf l g htr (M.1 52 4) x1 M _ e1) ?_
  obtain ⟨r2, e2, h⟩ := wpO_bind h
  refine G_callVi (ci := 10) [.int (M.1 52 3), .int x2, .int r1] [] K dX0_bringsIn_21 wv_1032 yd_X10_bringsOwn (Nat.le_of_ble_eq_true rfl) (sh_1 _ _) rfl (by decide) (by decide) rfl rfl (Nat.le_of_ble_eq_true rfl) (K_Well_bringsOwn l g htr (M.1 52 3) x2 r1 M _ e2) ?_
  cases hPHI _ (wpO_some h)
  exact G_iret K hr rfl dX0_bringsIn_24 (Nat.le_of_ble_eq_true rfl) (Nat.le_of_ble_eq_true rfl) ⟨rfl, rfl⟩
theorem yd_X0_bringsIn : ydN yX0_bringsIn 2 := ⟨by decide, by decide, by decide +kernel⟩
theorem wv_1024 : wdV "KeptWell$Answer" 62 yX2_clear cX2_clear 1 none := ⟨wd_1024, wd_497, wd_498, wd_7, wd_499⟩
theorem wv_1034 : wdV "KeptWell$Answer" 85 yX2_reckon cX2_reckon 6 none := ⟨wd_1034, wd_524, wd_525, wd_7, wd_526⟩
theorem wv_1025 : wdV "KeptWell$Answer" 65 yX7_small cX7_small 2 (some .int) := ⟨wd_1025, wd_480, wd_481, wd_3, wd_482⟩
theorem wv_1026 : wdV "KeptWell$Answer" 68 yX10_nextOf cX10_nextOf 4 (some .int) := ⟨wd_1026, wd_511, wd_512, wd_2, wd_513⟩
theorem wv_1027 : wdV "KeptWell$Answer" 72 yX0_bringsIn cX0_bringsIn 3 (some .int) := ⟨wd_1027, wd_1029, ws_X0_bringsIn, wd_8, wd_1030⟩
theorem wv_1033 : wdV "KeptWell$Answer" 75 yX2_put cX2_put 5 none := ⟨wd_1033, wd_519, wd_520, wd_7, wd_521⟩
def on_X0_reckon : Nat := 0xb15500b6855200b42500b42a854f00b42500b42a0a00b42ad0ffa70101844b00b6034800b61c1b2a4400b61c1b1f00b42a2500b42a1b0a00b42a3d4100b61b1700b42a2e00a22200b42a1b3c033e00b60a00b42a
theorem ob_X0_reckon : OKB cX0_reckon on_X0_reckon 84 := ⟨by decide +kernel, by decide +kernel⟩
theorem dX0_reckon_0 : dc cX0_reckon 0 1 (.aload_n 0) 1 := o_42 ob_X0_reckon rfl rfl rfl
theorem dX0_reckon_1 : dc cX0_reckon 1 4 (.getfield 10) 3 := o_180 ob_X0_reckon rfl rfl rfl rfl
theorem dX0_reckon_4 : dc cX0_reckon 4 7 (.invokevirtual 62) 3 := o_182 ob_X0_reckon rfl rfl rfl rfl
theorem dX0_reckon_7 : dc cX0_reckon 7 8 (.iconst 0) 1 := o_3 ob_X0_reckon rfl rfl rfl
theorem dX0_reckon_8 : dc cX0_reckon 8 9 (.istore_n 1) 1 := o_60 ob_X0_reckon rfl rfl rfl
theorem dX0_reckon_9 : dc cX0_reckon 9 10 (.iload_n 1) 1 := o_27 ob_X0_reckon rfl rfl rfl
theorem dX0_reckon_10 : dc cX0_reckon 10 11 (.aload_n 0) 1 := o_42 ob_X0_reckon rfl rfl rfl
theorem dX0_reckon_11 : dc cX0_reckon 11 14 (.getfield 34) 3 := o_180 ob_X0_reckon rfl rfl rfl rfl
theorem dX0_reckon_14 : dc cX0_reckon 14 17 (.if_icmp .ge 46) 3 := o_162 ob_X0_reckon rfl rfl rfl rfl
theorem dX0_reckon_17 : dc cX0_reckon 17 18 (.aload_n 0) 1 := o_42 ob_X0_reckon rfl rfl rfl
theorem dX0_reckon_18 : dc cX0_reckon 18 21 (.getfield 23) 3 := o_180 ob_X0_reckon rfl rfl rfl rfl
theorem dX0_reckon_21 : dc cX0_reckon 21 22 (.iload_n 1) 1 := o_27 ob_X0_reckon rfl rfl rfl
theorem dX0_reckon_22 : dc cX0_reckon 22 25 (.invokevirtual 65) 3 := o_182 ob_X0_reckon rfl rfl rfl rfl
theorem dX0_reckon_25 : dc cX0_reckon 25 26 (.istore_n 2) 1 := o_61 ob_X0_reckon rfl rfl rfl
theorem dX0_reckon_26 : dc cX0_reckon 26 27 (.aload_n 0) 1 := o_42 ob_X0_reckon rfl rfl rfl
theorem dX0_reckon_27 : dc cX0_reckon 27 30 (.getfield 10) 3 := o_180 ob_X0_reckon rfl rfl rfl rfl
theorem dX0_reckon_30 : dc cX0_reckon 30 31 (.iload_n 1) 1 := o_27 ob_X0_reckon rfl rfl rfl
theorem dX0_reckon_31 : dc cX0_reckon 31 32 (.aload_n 0) 1 := o_42 ob_X0_reckon rfl rfl rfl
theorem dX0_reckon_32 : dc cX0_reckon 32 35 (.getfield 37) 3 := o_180 ob_X0_reckon rfl rfl rfl rfl
theorem dX0_reckon_35 : dc cX0_reckon 35 36 (.aload_n 0) 1 := o_42 ob_X0_reckon rfl rfl rfl
theorem dX0_reckon_36 : dc cX0_reckon 36 39 (.getfield 31) 3 := o_180 ob_X0_reckon rfl rfl rfl rfl
theorem dX0_reckon_39 : dc cX0_reckon 39 40 (.iload_n 1) 1 := o_27 ob_X0_reckon rfl rfl rfl
theorem dX0_reckon_40 : dc cX0_reckon 40 41 (.iload_n 2) 1 := o_28 ob_X0_reckon rfl rfl rfl
theorem dX0_reckon_41 : dc cX0_reckon 41 44 (.invokevirtual 68) 3 := o_182 ob_X0_reckon rfl rfl rfl rfl
theorem dX0_reckon_44 : dc cX0_reckon 44 45 (.aload_n 0) 1 := o_42 ob_X0_reckon rfl rfl rfl
theorem dX0_reckon_45 : dc cX0_reckon 45 46 (.iload_n 1) 1 := o_27 ob_X0_reckon rfl rfl rfl
theorem dX0_reckon_46 : dc cX0_reckon 46 47 (.iload_n 2) 1 := o_28 ob_X0_reckon rfl rfl rfl
theorem dX0_reckon_47 : dc cX0_reckon 47 50 (.invokevirtual 72) 3 := o_182 ob_X0_reckon rfl rfl rfl rfl
theorem dX0_reckon_50 : dc cX0_reckon 50 51 (.iconst 0) 1 := o_3 ob_X0_reckon rfl rfl rfl
theorem dX0_reckon_51 : dc cX0_reckon 51 54 (.invokevirtual 75) 3 := o_182 ob_X0_reckon rfl rfl rfl rfl
theorem dX0_reckon_54 : dc cX0_reckon 54 57 (.iinc 1 1) 3 := o_132 ob_X0_reckon rfl rfl rfl rfl rfl
theorem dX0_reckon_57 : dc cX0_reckon 57 60 (.goto (-48)) 3 := o_167 ob_X0_reckon rfl rfl rfl rfl
theorem dX0_reckon_60 : dc cX0_reckon 60 61 (.aload_n 0) 1 := o_42 ob_X0_reckon rfl rfl rfl
theorem dX0_reckon_61 : dc cX0_reckon 61 64 (.getfield 10) 3 := o_180 ob_X0_reckon rfl rfl rfl rfl
theorem dX0_reckon_64 : dc cX0_reckon 64 65 (.aload_n 0) 1 := o_42 ob_X0_reckon rfl rfl rfl
theorem dX0_reckon_65 : dc cX0_reckon 65 68 (.getfield 37) 3 := o_180 ob_X0_reckon rfl rfl rfl rfl
theorem dX0_reckon_68 : dc cX0_reckon 68 71 (.getfield 79) 3 := o_180 ob_X0_reckon rfl rfl rfl rfl
theorem dX0_reckon_71 : dc cX0_reckon 71 72 .i2l 1 := o_133 ob_X0_reckon rfl rfl rfl
theorem dX0_reckon_72 : dc cX0_reckon 72 73 (.aload_n 0) 1 := o_42 ob_X0_reckon rfl rfl rfl
theorem dX0_reckon_73 : dc cX0_reckon 73 76 (.getfield 37) 3 := o_180 ob_X0_reckon rfl rfl rfl rfl
theorem dX0_reckon_76 : dc cX0_reckon 76 79 (.getfield 82) 3 := o_180 ob_X0_reckon rfl rfl rfl rfl
theorem dX0_reckon_79 : dc cX0_reckon 79 80 .i2l 1 := o_133 ob_X0_reckon rfl rfl rfl
theorem dX0_reckon_80 : dc cX0_reckon 80 83 (.invokevirtual 85) 3 := o_182 ob_X0_reckon rfl rfl rfl rfl
theorem dX0_reckon_83 : dc cX0_reckon 83 84 .return_ 1 := o_177 ob_X0_reckon rfl rfl rfl
def F_Answer_reckon_j60 (M : Mem) : Option (Mem) :=
  (F_Chain_reckon 53 ((M.1 1 1).toInt64) ((M.1 1 2).toInt64) M).bind fun r2 => some r2
def F_Answer_reckon_b9 (z : Int32 × Mem) : Option ((Int32 × Mem) ⊕ ((Mem))) :=
  if (z.2.1 52 5) ≤ z.1 then some (.inr z.2) else (F_Row_small 67 3 z.1 z.2).bind fun r3 => (F_Well_nextOf (z.2.1 52 4) z.1 r3 z.2).bind fun r4 => (F_Answer_bringsIn z.1 r3 z.2).bind fun r5 => (F_Chain_put 53 z.1 r4 r5 0 z.2).bind fun r6 => some (.inl ((z.1 + 1, r6)))
def F_Answer_reckon_l9 (x1 : Int32) (M : Mem) : Option (Mem) :=
  (iter (F_Answer_reckon_b9) FUEL (x1, M)).bind fun r => F_Answer_reckon_j60 r
def F_Answer_reckon (M : Mem) : Option (Mem) :=
  (F_Chain_clear 53 M).bind fun r1 => F_Answer_reckon_l9 0 r1
set_option maxRecDepth 100000 in
set_option maxHeartbeats 4000000 in
theorem K_Answer_reckon (l : Launch) (g : GB) (htr : l.stackTraces = false) (M : Mem) (MZ : Mem) (h : F_Answer_reckon M = some MZ) : CT l g yX0_reckon (.code yX0_reckon cX0_reckon 3 none :: wAll) { frames := 4, cells := 0, slots := 0, locals := 110 } [.ref (g.2.1 52)] M (.inl none) MZ := by
  refine CT.of [(0, .ref (g.2.1 52))] (by decide +kernel) (Nat.le_of_ble_eq_true rfl) rfl htr ?_
  intro p e s m args below meth c K hr ht
  skip
  obtain ⟨PHI, hPHI, h⟩ : ∃ PHI : Mem → Prop, (∀ a, PHI a → a = MZ) ∧ wpO (F_Answer_reckon M) PHI := ⟨fun a => a = MZ, fun _ h => h, _, h, rfl⟩
  have J60 : ∀ (M : Mem), wpO (F_Answer_reckon_j60 M) PHI → GG p l e { frames := 4, cells := 0, slots := 0, locals := 110 } s m args below meth c g 3 (vx_MQ below (Qn g s.heap.size (.inl none) MZ) (QX g s.heap.size (.inl none) MZ) args s 0 0 (AS g s.heap.size)) 0 0 60 [(0, .ref (g.2.1 52))] [] M := by
    intro M h
    unfold F_Answer_reckon_j60 at h
    refine G_aload_n rfl 0 rfl K dX0_reckon_60 ?_
    refine G_get (ci := 0) (k := 1) K rfl in_X0 wd_256 rfl dX0_reckon_61 (Nat.le_of_ble_eq_true rfl) (sh_52 _ _) (Nat.le_of_ble_eq_true rfl) rfl ?_
    refine G_aload_n rfl 0 rfl K dX0_reckon_64 ?_
    refine G_get (ci := 0) (k := 0) K rfl in_X0 wd_255 rfl dX0_reckon_65 (Nat.le_of_ble_eq_true rfl) (sh_52 _ _) (Nat.le_of_ble_eq_true rfl) rfl ?_
    refine G_get (ci := 10) (k := 1) K rfl in_X10 wd_62 rfl dX0_reckon_68 (Nat.le_of_ble_eq_true rfl) (sh_1 _ _) (Nat.le_of_ble_eq_true rfl) rfl ?_
    refine G_i2l K dX0_reckon_71 ?_
    refine G_aload_n rfl 0 rfl K dX0_reckon_72 ?_
    refine G_get (ci := 0) (k := 0) K rfl in_X0 wd_255 rfl dX0_reckon_73 (Nat.le_of_ble_eq_true rfl) (sh_52 _ _) (Nat.le_of_ble_eq_true rfl) rfl ?_
    refine G_get (ci := 10) (k := 2) K rfl in_X10 wd_68 rfl dX0_reckon_76 (Nat.le_of_ble_eq_true rfl) (sh_1 _ _) (Nat.le_of_ble_eq_true rfl) rfl ?_
    refine G_i2l K dX0_reckon_79 ?_
    obtain ⟨r2, e2, h⟩ := wpO_bind h
    refine G_callVv (ci := 2) [.long ((M.1 1 1).toInt64), .long ((M.1 1 2).toInt64)] [] K dX0_reckon_80 wv_1034 yd_X2_reckon (Nat.le_of_ble_eq_true rfl) (sh_53 _ _) rfl (by decide) (by decide) rfl rfl (Nat.le_of_ble_eq_true rfl) (K_Chain_reckon l g htr 53 isChain_53 ((M.1 1 1).toInt64) ((M.1 1 2).toInt64) M _ e2) ?_
    cases hPHI _ (wpO_some h)
    exact G_vret K hr dX0_reckon_83 (Nat.le_of_ble_eq_true rfl) (Nat.le_of_ble_eq_true rfl) ⟨rfl, rfl⟩
  have J9 : ∀ (x1 : Int32) (M : Mem), wpO (F_Answer_reckon_l9 x1 M) PHI → GG p l e { frames := 4, cells := 0, slots := 0, locals := 110 } s m args below meth c g 3 (vx_MQ below (Qn g s.heap.size (.inl none) MZ) (QX g s.heap.size (.inl none) MZ) args s 0 0 (AS g s.heap.size)) 0 0 9 [(0, .ref (g.2.1 52)), (1, .int x1)] [] M := by
    intro x1 M h
    unfold F_Answer_reckon_l9 at h
    refine loop_C2 (G := fun (x1 : Int32) (M : Mem) => GG p l e { frames := 4, cells := 0, slots := 0, locals := 110 } s m args below meth c g 3 (vx_MQ below (Qn g s.heap.size (.inl none) MZ) (QX g s.heap.size (.inl none) MZ) args s 0 0 (AS g s.heap.size)) 0 0 9 [(0, .ref (g.2.1 52)), (1, .int x1)] [] M) (body := F_Answer_reckon_b9) ?_ FUEL _ _ (wpO_bind h)
    intro P9 E9 X9
    intro z h
    unfold F_Answer_reckon_b9 at h
    refine G_iload_n rfl 1 rfl K dX0_reckon_9 ?_
    refine G_aload_n rfl 0 rfl K dX0_reckon_10 ?_
    refine G_get (ci := 0) (k := 5) K rfl in_X0 wd_260 rfl dX0_reckon_11 (Nat.le_of_ble_eq_true rfl) (sh_52 _ _) (Nat.le_of_ble_eq_true rfl) rfl ?_
    refine G_icmp_ge (tgt := 60) K dX0_reckon_14 (by decide) (fun hc => ?_) (fun hc => ?_)
    · have h := wpO_t h hc
      have h := X9 _ (wpO_some h)
      try dsimp only at h
      exact G_lv (lv' := [(0, .ref (g.2.1 52))]) [0] rfl (J60 z.2 h)
    · have h := wpO_f h hc
      refine G_aload_n rfl 0 rfl K dX0_reckon_17 ?_
      refine G_get (ci := 0) (k := 2) K rfl in_X0 wd_257 rfl dX0_reckon_18 (Nat.le_of_ble_eq_true rfl) (sh_52 _ _) (Nat.le_of_ble_eq_true rfl) rfl ?_
      refine G_iload_n rfl 1 rfl K dX0_reckon_21 ?_
      obtain ⟨r3, e3, h⟩ := wpO_bind h
      refine G_callVi (ci := 7) [.int z.1] [] K dX0_reckon_22 wv_1025 yd_X7_small (Nat.le_of_ble_eq_true rfl) (sh_66 _ _) rfl (by decide) (by decide) rfl rfl (Nat.le_of_ble_eq_true rfl) (K_Row_small l g htr 66 67 3 isRow_66 z.1 z.2 _ e3) ?_
      refine G_istore_n rfl K dX0_reckon_25 (Nat.le_of_ble_eq_true rfl) rfl ?_
      refine G_aload_n rfl 1 rfl K dX0_reckon_26 ?_
      refine G_get (ci := 0) (k := 1) K rfl in_X0 wd_256 rfl dX0_reckon_27 (Nat.le_of_ble_eq_true rfl) (sh_52 _ _) (Nat.le_of_ble_eq_true rfl) rfl ?_
      refine G_iload_n rfl 2 rfl K dX0_reckon_30 ?_
      refine G_aload_n rfl 1 rfl K dX0_reckon_31 ?_
      refine G_get (ci := 0) (k := 0) K rfl in_X0 wd_255 rfl dX0_reckon_32 (Nat.le_of_ble_eq_true rfl) (sh_52 _ _) (Nat.le_of_ble_eq_true rfl) rfl ?_
      refine G_aload_n rfl 1 rfl K dX0_reckon_35 ?_
      refine G_get (ci := 0) (k := 4) K rfl in_X0 wd_259 rfl dX0_reckon_36 (Nat.le_of_ble_eq_true rfl) (sh_52 _ _) (Nat.le_of_ble_eq_true rfl) rfl ?_
      refine G_iload_n rfl 2 rfl K dX0_reckon_39 ?_
      refine G_iload_n rfl 0 rfl K dX0_reckon_40 ?_
      obtain ⟨r4, e4, h⟩ := wpO_bind h
      refine G_callVi (ci := 10) [.int (z.2.1 52 4), .int z.1, .int r3] [.int z.1, .ref (g.2.1 53)] K dX0_reckon_41 wv_1026 yd_X10_nextOf (Nat.le_of_ble_eq_true rfl) (sh_1 _ _) rfl (by decide) (by decide) rfl rfl (Nat.le_of_ble_eq_true rfl) (K_Well_nextOf l g htr (z.2.1 52 4) z.1 r3 z.2 _ e4) ?_
      refine G_aload_n rfl 1 rfl K dX0_reckon_44 ?_
      refine G_iload_n rfl 2 rfl K dX0_reckon_45 ?_
      refine G_iload_n rfl 0 rfl K dX0_reckon_46 ?_
      obtain ⟨r5, e5, h⟩ := wpO_bind h
      refine G_callVi (ci := 0) [.int z.1, .int r3] [.int r4, .int z.1, .ref (g.2.1 53)] K dX0_reckon_47 wv_1027 yd_X0_bringsIn (Nat.le_of_ble_eq_true rfl) (sh_52 _ _) rfl (by decide) (by decide) rfl rfl (Nat.le_of_ble_eq_true rfl) (K_Answer_bringsIn l g htr z.1 r3 z.2 _ e5) ?_
      refine G_iconst (v := 0) rfl K dX0_reckon_50 ?_
      obtain ⟨r6, e6, h⟩ := wpO_bind h
      refine G_callVv (ci := 2) [.int z.1, .int r4, .int r5, .int 0] [] K dX0_reckon_51 wv_1033 yd_X2_put (Nat.le_of_ble_eq_true rfl) (sh_53 _ _) rfl (by decide) (by decide) rfl rfl (Nat.le_of_ble_eq_true rfl) (K_Chain_put l g htr 53 isChain_53 z.1 r4 r5 0 z.2 _ e6) ?_
      refine G_iinc (v := z.1 + 1) 2 rfl K dX0_reckon_54 rfl (Nat.le_of_ble_eq_true rfl) rfl ?_
      refine G_goto (tgt := 9) K dX0_reckon_57 (by decide) ?_
      exact G_lv (lv' := [(0, .ref (g.2.1 52)), (1, .int (z.1 + 1))]) [2, 0] rfl (E9 (z.1 + 1) r6 (wpO_some h))
  unfold F_Answer_reckon at h
  refine G_aload_n rfl 0 rfl K dX0_reckon_0 ?_
  refine G_get (ci := 0) (k := 1) K rfl in_X0 wd_256 rfl dX0_reckon_1 (Nat.le_of_ble_eq_true rfl) (sh_52 _ _) (Nat.le_of_ble_eq_true rfl) rfl ?_
  obtain ⟨r1, e1, h⟩ := wpO_bind h
  refine G_callVv (ci := 2) [] [] K dX0_reckon_4 wv_1024 yd_X2_clear (Nat.le_of_ble_eq_true rfl) (sh_53 _ _) rfl (by decide) (by decide) rfl rfl (Nat.le_of_ble_eq_true rfl) (K_Chain_clear l g htr 53 isChain_53 M _ e1) ?_
  refine G_iconst (v := 0) rfl K dX0_reckon_7 ?_
  refine G_istore_n rfl K dX0_reckon_8 (Nat.le_of_ble_eq_true rfl) rfl ?_
  exact G_lv (lv' := [(0, .ref (g.2.1 52)), (1, .int 0)]) [1, 0] rfl (J9 0 r1 h)
theorem wv_1043 : wdV "KeptWell$Answer" 94 yX2_orderOf cX2_orderOf 9 (some .int) := ⟨wd_1043, wd_553, wd_554, wd_7, wd_555⟩
def on_X0_orderOf : Nat := 0xac5e00b61b034400b61c1b1f00b42a2500b42a4800b61c1b2a0a00b42a
theorem ob_X0_orderOf : OKB cX0_orderOf on_X0_orderOf 29 := ⟨by decide +kernel, by decide +kernel⟩
theorem dX0_orderOf_0 : dc cX0_orderOf 0 1 (.aload_n 0) 1 := o_42 ob_X0_orderOf rfl rfl rfl
theorem dX0_orderOf_1 : dc cX0_orderOf 1 4 (.getfield 10) 3 := o_180 ob_X0_orderOf rfl rfl rfl rfl
theorem dX0_orderOf_4 : dc cX0_orderOf 4 5 (.aload_n 0) 1 := o_42 ob_X0_orderOf rfl rfl rfl
theorem dX0_orderOf_5 : dc cX0_orderOf 5 6 (.iload_n 1) 1 := o_27 ob_X0_orderOf rfl rfl rfl
theorem dX0_orderOf_6 : dc cX0_orderOf 6 7 (.iload_n 2) 1 := o_28 ob_X0_orderOf rfl rfl rfl
theorem dX0_orderOf_7 : dc cX0_orderOf 7 10 (.invokevirtual 72) 3 := o_182 ob_X0_orderOf rfl rfl rfl rfl
theorem dX0_orderOf_10 : dc cX0_orderOf 10 11 (.aload_n 0) 1 := o_42 ob_X0_orderOf rfl rfl rfl
theorem dX0_orderOf_11 : dc cX0_orderOf 11 14 (.getfield 37) 3 := o_180 ob_X0_orderOf rfl rfl rfl rfl
theorem dX0_orderOf_14 : dc cX0_orderOf 14 15 (.aload_n 0) 1 := o_42 ob_X0_orderOf rfl rfl rfl
theorem dX0_orderOf_15 : dc cX0_orderOf 15 18 (.getfield 31) 3 := o_180 ob_X0_orderOf rfl rfl rfl rfl
theorem dX0_orderOf_18 : dc cX0_orderOf 18 19 (.iload_n 1) 1 := o_27 ob_X0_orderOf rfl rfl rfl
theorem dX0_orderOf_19 : dc cX0_orderOf 19 20 (.iload_n 2) 1 := o_28 ob_X0_orderOf rfl rfl rfl
theorem dX0_orderOf_20 : dc cX0_orderOf 20 23 (.invokevirtual 68) 3 := o_182 ob_X0_orderOf rfl rfl rfl rfl
theorem dX0_orderOf_23 : dc cX0_orderOf 23 24 (.iconst 0) 1 := o_3 ob_X0_orderOf rfl rfl rfl
theorem dX0_orderOf_24 : dc cX0_orderOf 24 25 (.iload_n 1) 1 := o_27 ob_X0_orderOf rfl rfl rfl
theorem dX0_orderOf_25 : dc cX0_orderOf 25 28 (.invokevirtual 94) 3 := o_182 ob_X0_orderOf rfl rfl rfl rfl
theorem dX0_orderOf_28 : dc cX0_orderOf 28 29 .ireturn 1 := o_172 ob_X0_orderOf rfl rfl rfl
def F_Answer_orderOf (x1 : Int32) (x2 : Int32) (M : Mem) : Option (Int32) :=
  (F_Answer_bringsIn x1 x2 M).bind fun r1 => (F_Well_nextOf (M.1 52 4) x1 x2 M).bind fun r2 => (F_Chain_orderOf 53 r1 r2 0 x1 M).bind fun r3 => some r3
set_option maxRecDepth 100000 in
set_option maxHeartbeats 4000000 in
theorem K_Answer_orderOf (l : Launch) (g : GB) (htr : l.stackTraces = false) (x1 : Int32) (x2 : Int32) (M : Mem) (rr : Int32) (h : F_Answer_orderOf x1 x2 M = some rr) : CT l g yX0_orderOf (.code yX0_orderOf cX0_orderOf 3 (some .int) :: wAll) { frames := 3, cells := 0, slots := 0, locals := 98 } [.ref (g.2.1 52), .int x1, .int x2] M (.inl (some (.int rr))) M := by
  refine CT.of [(0, .ref (g.2.1 52)), (1, .int x1), (2, .int x2)] (by decide +kernel) (Nat.le_of_ble_eq_true rfl) rfl htr ?_
  intro p e s m args below meth c K hr ht
  skip
  obtain ⟨PHI, hPHI, h⟩ : ∃ PHI : Int32 → Prop, (∀ a, PHI a → a = rr) ∧ wpO (F_Answer_orderOf x1 x2 M) PHI := ⟨fun a => a = rr, fun _ h => h, _, h, rfl⟩
  unfold F_Answer_orderOf at h
  refine G_aload_n rfl 0 rfl K dX0_orderOf_0 ?_
  refine G_get (ci := 0) (k := 1) K rfl in_X0 wd_256 rfl dX0_orderOf_1 (Nat.le_of_ble_eq_true rfl) (sh_52 _ _) (Nat.le_of_ble_eq_true rfl) rfl ?_
  refine G_aload_n rfl 0 rfl K dX0_orderOf_4 ?_
  refine G_iload_n rfl 1 rfl K dX0_orderOf_5 ?_
  refine G_iload_n rfl 2 rfl K dX0_orderOf_6 ?_
  obtain ⟨r1, e1, h⟩ := wpO_bind h
  refine G_callVi (ci := 0) [.int x1, .int x2] [.ref (g.2.1 53)] K dX0_orderOf_7 wv_1027 yd_X0_bringsIn (Nat.le_of_ble_eq_true rfl) (sh_52 _ _) rfl (by decide) (by decide) rfl rfl (Nat.le_of_ble_eq_true rfl) (K_Answer_bringsIn l g htr x1 x2 M _ e1) ?_
  refine G_aload_n rfl 0 rfl K dX0_orderOf_10 ?_
  refine G_get (ci := 0) (k := 0) K rfl in_X0 wd_255 rfl dX0_orderOf_11 (Nat.le_of_ble_eq_true rfl) (sh_52 _ _) (Nat.le_of_ble_eq_true rfl) rfl ?_
  refine G_aload_n rfl 0 rfl K dX0_orderOf_14 ?_
  refine G_get (ci := 0) (k := 4) K rfl in_X0 wd_259 rfl dX0_orderOf_15 (Nat.le_of_ble_eq_true rfl) (sh_52 _ _) (Nat.le_of_ble_eq_true rfl) rfl ?_
  refine G_iload_n rfl 1 rfl K dX0_orderOf_18 ?_
  refine G_iload_n rfl 2 rfl K dX0_orderOf_19 ?_
  obtain ⟨r2, e2, h⟩ := wpO_bind h
  refine G_callVi (ci := 10) [.int (M.1 52 4), .int x1, .int x2] [.int r1, .ref (g.2.1 53)] K dX0_orderOf_20 wv_1026 yd_X10_nextOf (Nat.le_of_ble_eq_true rfl) (sh_1 _ _) rfl (by decide) (by decide) rfl rfl (Nat.le_of_ble_eq_true rfl) (K_Well_nextOf l g htr (M.1 52 4) x1 x2 M _ e2) ?_
  refine G_iconst (v := 0) rfl K dX0_orderOf_23 ?_
  refine G_iload_n rfl 1 rfl K dX0_orderOf_24 ?_
  obtain ⟨r3, e3, h⟩ := wpO_bind h
  refine G_callVi (ci := 2) [.int r1, .int r2, .int 0, .int x1] [] K dX0_orderOf_25 wv_1043 yd_X2_orderOf (Nat.le_of_ble_eq_true rfl) (sh_53 _ _) rfl (by decide) (by decide) rfl rfl (Nat.le_of_ble_eq_true rfl) (K_Chain_orderOf l g htr 53 isChain_53 r1 r2 0 x1 M _ e3) ?_
  cases hPHI _ (wpO_some h)
  exact G_iret K hr rfl dX0_orderOf_28 (Nat.le_of_ble_eq_true rfl) (Nat.le_of_ble_eq_true rfl) ⟨rfl, rfl⟩
theorem yd_X0_orderOf : ydN yX0_orderOf 2 := ⟨by decide, by decide, by decide +kernel⟩
theorem wv_1039 : wdV "KeptWell$Answer" 101 yX0_orderOf cX0_orderOf 3 (some .int) := ⟨wd_1039, wd_1041, ws_X0_orderOf, wd_8, wd_1042⟩
theorem wv_1044 : wdV "KeptWell$Answer" 103 yX7_put cX7_put 4 none := ⟨wd_1044, wd_452, wd_453, wd_3, wd_454⟩
def on_X0_isBettered : Nat := 0xac1bcdffa7010284ddffa70103843c046700b6851d1c1700b42a0f009e6500b61d1c2a1e00a26200b42500b42a1d3e033100a22200b42a1c3d033c03
theorem ob_X0_isBettered : OKB cX0_isBettered on_X0_isBettered 60 := ⟨by decide +kernel, by decide +kernel⟩
theorem dX0_isBettered_0 : dc cX0_isBettered 0 1 (.iconst 0) 1 := o_3 ob_X0_isBettered rfl rfl rfl
theorem dX0_isBettered_1 : dc cX0_isBettered 1 2 (.istore_n 1) 1 := o_60 ob_X0_isBettered rfl rfl rfl
theorem dX0_isBettered_2 : dc cX0_isBettered 2 3 (.iconst 0) 1 := o_3 ob_X0_isBettered rfl rfl rfl
theorem dX0_isBettered_3 : dc cX0_isBettered 3 4 (.istore_n 2) 1 := o_61 ob_X0_isBettered rfl rfl rfl
theorem dX0_isBettered_4 : dc cX0_isBettered 4 5 (.iload_n 2) 1 := o_28 ob_X0_isBettered rfl rfl rfl
theorem dX0_isBettered_5 : dc cX0_isBettered 5 6 (.aload_n 0) 1 := o_42 ob_X0_isBettered rfl rfl rfl
theorem dX0_isBettered_6 : dc cX0_isBettered 6 9 (.getfield 34) 3 := o_180 ob_X0_isBettered rfl rfl rfl rfl
theorem dX0_isBettered_9 : dc cX0_isBettered 9 12 (.if_icmp .ge 49) 3 := o_162 ob_X0_isBettered rfl rfl rfl rfl
theorem dX0_isBettered_12 : dc cX0_isBettered 12 13 (.iconst 0) 1 := o_3 ob_X0_isBettered rfl rfl rfl
theorem dX0_isBettered_13 : dc cX0_isBettered 13 14 (.istore_n 3) 1 := o_62 ob_X0_isBettered rfl rfl rfl
theorem dX0_isBettered_14 : dc cX0_isBettered 14 15 (.iload_n 3) 1 := o_29 ob_X0_isBettered rfl rfl rfl
theorem dX0_isBettered_15 : dc cX0_isBettered 15 16 (.aload_n 0) 1 := o_42 ob_X0_isBettered rfl rfl rfl
theorem dX0_isBettered_16 : dc cX0_isBettered 16 19 (.getfield 37) 3 := o_180 ob_X0_isBettered rfl rfl rfl rfl
theorem dX0_isBettered_19 : dc cX0_isBettered 19 22 (.getfield 98) 3 := o_180 ob_X0_isBettered rfl rfl rfl rfl
theorem dX0_isBettered_22 : dc cX0_isBettered 22 25 (.if_icmp .ge 30) 3 := o_162 ob_X0_isBettered rfl rfl rfl rfl
theorem dX0_isBettered_25 : dc cX0_isBettered 25 26 (.aload_n 0) 1 := o_42 ob_X0_isBettered rfl rfl rfl
theorem dX0_isBettered_26 : dc cX0_isBettered 26 27 (.iload_n 2) 1 := o_28 ob_X0_isBettered rfl rfl rfl
theorem dX0_isBettered_27 : dc cX0_isBettered 27 28 (.iload_n 3) 1 := o_29 ob_X0_isBettered rfl rfl rfl
theorem dX0_isBettered_28 : dc cX0_isBettered 28 31 (.invokevirtual 101) 3 := o_182 ob_X0_isBettered rfl rfl rfl rfl
theorem dX0_isBettered_31 : dc cX0_isBettered 31 34 (.ifCond .le 15) 3 := o_158 ob_X0_isBettered rfl rfl rfl rfl
theorem dX0_isBettered_34 : dc cX0_isBettered 34 35 (.aload_n 0) 1 := o_42 ob_X0_isBettered rfl rfl rfl
theorem dX0_isBettered_35 : dc cX0_isBettered 35 38 (.getfield 23) 3 := o_180 ob_X0_isBettered rfl rfl rfl rfl
theorem dX0_isBettered_38 : dc cX0_isBettered 38 39 (.iload_n 2) 1 := o_28 ob_X0_isBettered rfl rfl rfl
theorem dX0_isBettered_39 : dc cX0_isBettered 39 40 (.iload_n 3) 1 := o_29 ob_X0_isBettered rfl rfl rfl
theorem dX0_isBettered_40 : dc cX0_isBettered 40 41 .i2l 1 := o_133 ob_X0_isBettered rfl rfl rfl
theorem dX0_isBettered_41 : dc cX0_isBettered 41 44 (.invokevirtual 103) 3 := o_182 ob_X0_isBettered rfl rfl rfl rfl
theorem dX0_isBettered_44 : dc cX0_isBettered 44 45 (.iconst 1) 1 := o_4 ob_X0_isBettered rfl rfl rfl
theorem dX0_isBettered_45 : dc cX0_isBettered 45 46 (.istore_n 1) 1 := o_60 ob_X0_isBettered rfl rfl rfl
theorem dX0_isBettered_46 : dc cX0_isBettered 46 49 (.iinc 3 1) 3 := o_132 ob_X0_isBettered rfl rfl rfl rfl rfl
theorem dX0_isBettered_49 : dc cX0_isBettered 49 52 (.goto (-35)) 3 := o_167 ob_X0_isBettered rfl rfl rfl rfl
theorem dX0_isBettered_52 : dc cX0_isBettered 52 55 (.iinc 2 1) 3 := o_132 ob_X0_isBettered rfl rfl rfl rfl rfl
theorem dX0_isBettered_55 : dc cX0_isBettered 55 58 (.goto (-51)) 3 := o_167 ob_X0_isBettered rfl rfl rfl rfl
theorem dX0_isBettered_58 : dc cX0_isBettered 58 59 (.iload_n 1) 1 := o_27 ob_X0_isBettered rfl rfl rfl
theorem dX0_isBettered_59 : dc cX0_isBettered 59 60 .ireturn 1 := o_172 ob_X0_isBettered rfl rfl rfl
def F_Answer_isBettered_b14 (x2 : Int32) (z : Bool × Int32 × Mem) : Option ((Bool × Int32 × Mem) ⊕ ((Bool × Mem))) :=
  if (z.2.2.1 1 0) ≤ z.2.1 then some (.inr ((z.1, z.2.2))) else (F_Answer_orderOf x2 z.2.1 z.2.2).bind fun r1 => if r1 ≤ 0 then some (.inl ((z.1, z.2.1 + 1, z.2.2))) else (F_Row_put 67 3 x2 z.2.1.toInt64 z.2.2).bind fun r2 => some (.inl ((true, z.2.1 + 1, r2)))
def F_Answer_isBettered_l14 (x1 : Bool) (x2 : Int32) (x3 : Int32) (M : Mem) : Option ((Bool × Int32 × Mem) ⊕ ((Bool × Mem))) :=
  (iter (F_Answer_isBettered_b14 x2) FUEL (x1, x3, M)).bind fun r => some (.inl ((r.1, x2 + 1, r.2)))
def F_Answer_isBettered_b4 (z : Bool × Int32 × Mem) : Option ((Bool × Int32 × Mem) ⊕ ((Bool × Mem))) :=
  if (z.2.2.1 52 5) ≤ z.2.1 then some (.inr ((z.1, z.2.2))) else F_Answer_isBettered_l14 z.1 z.2.1 0 z.2.2
def F_Answer_isBettered_l4 (x1 : Bool) (x2 : Int32) (M : Mem) : Option (Bool × Mem) :=
  (iter (F_Answer_isBettered_b4) FUEL (x1, x2, M)).bind fun r => some ((r.1, r.2))
def F_Answer_isBettered (M : Mem) : Option (Bool × Mem) :=
  F_Answer_isBettered_l4 false 0 M
set_option maxRecDepth 100000 in
set_option maxHeartbeats 4000000 in
theorem K_Answer_isBettered (l : Launch) (g : GB) (htr : l.stackTraces = false) (M : Mem) (rr : Bool) (MZ : Mem) (h : F_Answer_isBettered M = some (rr, MZ)) : CT l g yX0_isBettered (.code yX0_isBettered cX0_isBettered 4 (some .boolean) :: wAll) { frames := 4, cells := 0, slots := 0, locals := 120 } [.ref (g.2.1 52)] M (.inl (some (.int (b2i rr)))) MZ := by
  refine CT.of [(0, .ref (g.2.1 52))] (by decide +kernel) (Nat.le_of_ble_eq_true rfl) rfl htr ?_
  intro p e s m args below meth c K hr ht
  skip
  obtain ⟨PHI, hPHI, h⟩ : ∃ PHI : Bool × Mem → Prop, (∀ a, PHI a → a = (rr, MZ)) ∧ wpO (F_Answer_isBettered M) PHI := ⟨fun a => a = (rr, MZ), fun _ h => h, _, h, rfl⟩
  have J4 : ∀ (x1 : Bool) (x2 : Int32) (M : Mem), wpO (F_Answer_isBettered_l4 x1 x2 M) PHI → GG p l e { frames := 4, cells := 0, slots := 0, locals := 120 } s m args below meth c g 4 (vx_MQ below (Qn g s.heap.size (.inl (some (.int (b2i rr)))) MZ) (QX g s.heap.size (.inl (some (.int (b2i rr)))) MZ) args s 0 0 (AS g s.heap.size)) 0 0 4 [(0, .ref (g.2.1 52)), (1, .int ((b2i x1))), (2, .int x2)] [] M := by
    intro x1 x2 M h
    unfold F_Answer_isBettered_l4 at h
    refine loop_C3 (G := fun (x1 : Bool) (x2 : Int32) (M : Mem) => GG p l e { frames := 4, cells := 0, slots := 0, locals := 120 } s m args below meth c g 4 (vx_MQ below (Qn g s.heap.size (.inl (some (.int (b2i rr)))) MZ) (QX g s.heap.size (.inl (some (.int (b2i rr)))) MZ) args s 0 0 (AS g s.heap.size)) 0 0 4 [(0, .ref (g.2.1 52)), (1, .int ((b2i x1))), (2, .int x2)] [] M) (body := F_Answer_isBettered_b4) ?_ FUEL _ _ _ (wpO_bind h)
    intro P4 E4 X4
    have J14 : ∀ (x1 : Bool) (x2 : Int32) (x3 : Int32) (M : Mem), wpO (F_Answer_isBettered_l14 x1 x2 x3 M) P4 → GG p l e { frames := 4, cells := 0, slots := 0, locals := 120 } s m args below meth c g 4 (vx_MQ below (Qn g s.heap.size (.inl (some (.int (b2i rr)))) MZ) (QX g s.heap.size (.inl (some (.int (b2i rr)))) MZ) args s 0 0 (AS g s.heap.size)) 0 0 14 [(0, .ref (g.2.1 52)), (1, .int ((b2i x1))), (2, .int x2), (3, .int x3)] [] M := by
      intro x1 x2 x3 M h
      unfold F_Answer_isBettered_l14 at h
      refine loop_C3 (G := fun (x1 : Bool) (x3 : Int32) (M : Mem) => GG p l e { frames := 4, cells := 0, slots := 0, locals := 120 } s m args below meth c g 4 (vx_MQ below (Qn g s.heap.size (.inl (some (.int (b2i rr)))) MZ) (QX g s.heap.size (.inl (some (.int (b2i rr)))) MZ) args s 0 0 (AS g s.heap.size)) 0 0 14 [(0, .ref (g.2.1 52)), (1, .int ((b2i x1))), (2, .int x2), (3, .int x3)] [] M) (body := F_Answer_isBettered_b14 x2) ?_ FUEL _ _ _ (wpO_bind h)
      intro P14 E14 X14
      intro z h
      unfold F_Answer_isBettered_b14 at h
      refine G_iload_n rfl 3 rfl K dX0_isBettered_14 ?_
      refine G_aload_n rfl 0 rfl K dX0_isBettered_15 ?_
      refine G_get (ci := 0) (k := 0) K rfl in_X0 wd_255 rfl dX0_isBettered_16 (Nat.le_of_ble_eq_true rfl) (sh_52 _ _) (Nat.le_of_ble_eq_true rfl) rfl ?_
      refine G_get (ci := 10) (k := 0) K rfl in_X10 wd_60 rfl dX0_isBettered_19 (Nat.le_of_ble_eq_true rfl) (sh_1 _ _) (Nat.le_of_ble_eq_true rfl) rfl ?_
      refine G_icmp_ge (tgt := 52) K dX0_isBettered_22 (by decide) (fun hc => ?_) (fun hc => ?_)
      · have h := wpO_t h hc
        have h := X14 _ (wpO_some h)
        try dsimp only at h
        refine G_iinc (v := x2 + 1) 2 rfl K dX0_isBettered_52 rfl (Nat.le_of_ble_eq_true rfl) rfl ?_
        refine G_goto (tgt := 4) K dX0_isBettered_55 (by decide) ?_
        exact G_lv (lv' := [(0, .ref (g.2.1 52)), (1, .int ((b2i z.1))), (2, .int (x2 + 1))]) [1, 2, 0] rfl (E4 z.1 (x2 + 1) z.2.2 (wpO_some h))
      · have h := wpO_f h hc
        refine G_aload_n rfl 0 rfl K dX0_isBettered_25 ?_
        refine G_iload_n rfl 2 rfl K dX0_isBettered_26 ?_
        refine G_iload_n rfl 3 rfl K dX0_isBettered_27 ?_
        obtain ⟨r1, e1, h⟩ := wpO_bind h
        refine G_callVi (ci := 0) [.int x2, .int z.2.1] [] K dX0_isBettered_28 wv_1039 yd_X0_orderOf (Nat.le_of_ble_eq_true rfl) (sh_52 _ _) rfl (by decide) (by decide) rfl rfl (Nat.le_of_ble_eq_true rfl) (K_Answer_orderOf l g htr x2 z.2.1 z.2.2 _ e1) ?_
        refine G_if_le (tgt := 46) K dX0_isBettered_31 (by decide) (fun hc => ?_) (fun hc => ?_)
        · have h := wpO_t h hc
          refine G_iinc (v := z.2.1 + 1) 3 rfl K dX0_isBettered_46 rfl (Nat.le_of_ble_eq_true rfl) rfl ?_
          refine G_goto (tgt := 14) K dX0_isBettered_49 (by decide) ?_
          exact G_lv (lv' := [(0, .ref (g.2.1 52)), (1, .int ((b2i z.1))), (2, .int x2), (3, .int (z.2.1 + 1))]) [1, 2, 3, 0] rfl (E14 z.1 (z.2.1 + 1) z.2.2 (wpO_some h))
        · have h := wpO_f h hc
          refine G_aload_n rfl 0 rfl K dX0_isBettered_34 ?_
          refine G_get (ci := 0) (k := 2) K rfl in_X0 wd_257 rfl dX0_isBettered_35 (Nat.le_of_ble_eq_true rfl) (sh_52 _ _) (Nat.le_of_ble_eq_true rfl) rfl ?_
          refine G_iload_n rfl 2 rfl K dX0_isBettered_38 ?_
          refine G_iload_n rfl 3 rfl K dX0_isBettered_39 ?_
          refine G_i2l K dX0_isBettered_40 ?_
          obtain ⟨r2, e2, h⟩ := wpO_bind h
          refine G_callVv (ci := 7) [.int x2, .long z.2.1.toInt64] [] K dX0_isBettered_41 wv_1044 yd_X7_put (Nat.le_of_ble_eq_true rfl) (sh_66 _ _) rfl (by decide) (by decide) rfl rfl (Nat.le_of_ble_eq_true rfl) (K_Row_put l g htr 66 67 3 isRow_66 x2 z.2.1.toInt64 z.2.2 _ e2) ?_
          refine G_iconst (v := 1) rfl K dX0_isBettered_44 ?_
          refine G_istore_n rfl K dX0_isBettered_45 (Nat.le_of_ble_eq_true rfl) rfl ?_
          refine G_iinc (v := z.2.1 + 1) 3 rfl K dX0_isBettered_46 rfl (Nat.le_of_ble_eq_true rfl) rfl ?_
          refine G_goto (tgt := 14) K dX0_isBettered_49 (by decide) ?_
          exact G_lv (lv' := [(0, .ref (g.2.1 52)), (1, .int 1), (2, .int x2), (3, .int (z.2.1 + 1))]) [2, 1, 3, 0] rfl (E14 true (z.2.1 + 1) r2 (wpO_some h))
    intro z h
    unfold F_Answer_isBettered_b4 at h
    refine G_iload_n rfl 2 rfl K dX0_isBettered_4 ?_
    refine G_aload_n rfl 0 rfl K dX0_isBettered_5 ?_
    refine G_get (ci := 0) (k := 5) K rfl in_X0 wd_260 rfl dX0_isBettered_6 (Nat.le_of_ble_eq_true rfl) (sh_52 _ _) (Nat.le_of_ble_eq_true rfl) rfl ?_
    refine G_icmp_ge (tgt := 58) K dX0_isBettered_9 (by decide) (fun hc => ?_) (fun hc => ?_)
    · have h := wpO_t h hc
      have h := X4 _ (wpO_some h)
      try dsimp only at h
      refine G_iload_n rfl 1 rfl K dX0_isBettered_58 ?_
      cases hPHI _ (wpO_some h)
      exact G_iret K hr nar_b dX0_isBettered_59 (Nat.le_of_ble_eq_true rfl) (Nat.le_of_ble_eq_true rfl) ⟨rfl, rfl⟩
    · have h := wpO_f h hc
      refine G_iconst (v := 0) rfl K dX0_isBettered_12 ?_
      refine G_istore_n rfl K dX0_isBettered_13 (Nat.le_of_ble_eq_true rfl) rfl ?_
      exact G_lv (lv' := [(0, .ref (g.2.1 52)), (1, .int ((b2i z.1))), (2, .int z.2.1), (3, .int 0)]) [1, 2, 3, 0] rfl (J14 z.1 z.2.1 0 z.2.2 h)
  unfold F_Answer_isBettered at h
  refine G_iconst (v := 0) rfl K dX0_isBettered_0 ?_
  refine G_istore_n rfl K dX0_isBettered_1 (Nat.le_of_ble_eq_true rfl) rfl ?_
  refine G_iconst (v := 0) rfl K dX0_isBettered_2 ?_
  refine G_istore_n rfl K dX0_isBettered_3 (Nat.le_of_ble_eq_true rfl) rfl ?_
  exact G_lv (lv' := [(0, .ref (g.2.1 52)), (1, .int 0), (2, .int 0)]) [2, 1, 0] rfl (J4 false 0 M h)
theorem yd_X0_isBettered : ydN yX0_isBettered 0 := ⟨by decide, by decide, by decide +kernel⟩
theorem yd_X0_reckon : ydN yX0_reckon 0 := ⟨by decide, by decide, by decide +kernel⟩
theorem wv_1017 : wdV "KeptWell$Answer" 41 yX10_moodsOf cX10_moodsOf 2 (some .int) := ⟨wd_1017, wd_476, wd_477, wd_2, wd_478⟩
theorem wv_1018 : wdS "KeptWell$Answer" 45 yJ9_min_7cf53 cJ9_min_7cf53 2 (some .int) := ⟨wd_1018, wd_484, wd_4, wd_485⟩
theorem wv_1019 : wdV "KeptWell$Answer" 51 yX7_setAll cX7_setAll 4 none := ⟨wd_1019, wd_502, wd_503, wd_3, wd_504⟩
theorem wv_1020 : wdV "KeptWell$Answer" 55 yX0_reckon cX0_reckon 3 none := ⟨wd_1020, wd_1022, ws_X0_reckon, wd_8, wd_1023⟩
theorem wv_1035 : wdV "KeptWell$Answer" 58 yX0_isBettered cX0_isBettered 4 (some .boolean) := ⟨wd_1035, wd_1037, ws_X0_isBettered, wd_8, wd_1038⟩
def on_X0_look : Nat := 0xb1ecffa70103843700b62a0d00993a00b62a1400a264101d3e033700b62a3300b6091700b42a2200b52d00b8062900b61f00b42a2500b42a2a1f00b51c2a1b00b51b2a
theorem ob_X0_look : OKB cX0_look on_X0_look 67 := ⟨by decide +kernel, by decide +kernel⟩
theorem dX0_look_0 : dc cX0_look 0 1 (.aload_n 0) 1 := o_42 ob_X0_look rfl rfl rfl
theorem dX0_look_1 : dc cX0_look 1 2 (.iload_n 1) 1 := o_27 ob_X0_look rfl rfl rfl
theorem dX0_look_2 : dc cX0_look 2 5 (.putfield 27) 3 := o_181 ob_X0_look rfl rfl rfl rfl
theorem dX0_look_5 : dc cX0_look 5 6 (.aload_n 0) 1 := o_42 ob_X0_look rfl rfl rfl
theorem dX0_look_6 : dc cX0_look 6 7 (.iload_n 2) 1 := o_28 ob_X0_look rfl rfl rfl
theorem dX0_look_7 : dc cX0_look 7 10 (.putfield 31) 3 := o_181 ob_X0_look rfl rfl rfl rfl
theorem dX0_look_10 : dc cX0_look 10 11 (.aload_n 0) 1 := o_42 ob_X0_look rfl rfl rfl
theorem dX0_look_11 : dc cX0_look 11 12 (.aload_n 0) 1 := o_42 ob_X0_look rfl rfl rfl
theorem dX0_look_12 : dc cX0_look 12 15 (.getfield 37) 3 := o_180 ob_X0_look rfl rfl rfl rfl
theorem dX0_look_15 : dc cX0_look 15 16 (.aload_n 0) 1 := o_42 ob_X0_look rfl rfl rfl
theorem dX0_look_16 : dc cX0_look 16 19 (.getfield 31) 3 := o_180 ob_X0_look rfl rfl rfl rfl
theorem dX0_look_19 : dc cX0_look 19 22 (.invokevirtual 41) 3 := o_182 ob_X0_look rfl rfl rfl rfl
theorem dX0_look_22 : dc cX0_look 22 23 (.iconst 3) 1 := o_6 ob_X0_look rfl rfl rfl
theorem dX0_look_23 : dc cX0_look 23 26 (.invokestatic 45) 3 := o_184 ob_X0_look rfl rfl rfl rfl
theorem dX0_look_26 : dc cX0_look 26 29 (.putfield 34) 3 := o_181 ob_X0_look rfl rfl rfl rfl
theorem dX0_look_29 : dc cX0_look 29 30 (.aload_n 0) 1 := o_42 ob_X0_look rfl rfl rfl
theorem dX0_look_30 : dc cX0_look 30 33 (.getfield 23) 3 := o_180 ob_X0_look rfl rfl rfl rfl
theorem dX0_look_33 : dc cX0_look 33 34 (.lconst 0) 1 := o_9 ob_X0_look rfl rfl rfl
theorem dX0_look_34 : dc cX0_look 34 37 (.invokevirtual 51) 3 := o_182 ob_X0_look rfl rfl rfl rfl
theorem dX0_look_37 : dc cX0_look 37 38 (.aload_n 0) 1 := o_42 ob_X0_look rfl rfl rfl
theorem dX0_look_38 : dc cX0_look 38 41 (.invokevirtual 55) 3 := o_182 ob_X0_look rfl rfl rfl rfl
theorem dX0_look_41 : dc cX0_look 41 42 (.iconst 0) 1 := o_3 ob_X0_look rfl rfl rfl
theorem dX0_look_42 : dc cX0_look 42 43 (.istore_n 3) 1 := o_62 ob_X0_look rfl rfl rfl
theorem dX0_look_43 : dc cX0_look 43 44 (.iload_n 3) 1 := o_29 ob_X0_look rfl rfl rfl
theorem dX0_look_44 : dc cX0_look 44 46 (.bipush 100) 2 := o_16 ob_X0_look rfl rfl rfl rfl
theorem dX0_look_46 : dc cX0_look 46 49 (.if_icmp .ge 20) 3 := o_162 ob_X0_look rfl rfl rfl rfl
theorem dX0_look_49 : dc cX0_look 49 50 (.aload_n 0) 1 := o_42 ob_X0_look rfl rfl rfl
theorem dX0_look_50 : dc cX0_look 50 53 (.invokevirtual 58) 3 := o_182 ob_X0_look rfl rfl rfl rfl
theorem dX0_look_53 : dc cX0_look 53 56 (.ifCond .eq 13) 3 := o_153 ob_X0_look rfl rfl rfl rfl
theorem dX0_look_56 : dc cX0_look 56 57 (.aload_n 0) 1 := o_42 ob_X0_look rfl rfl rfl
theorem dX0_look_57 : dc cX0_look 57 60 (.invokevirtual 55) 3 := o_182 ob_X0_look rfl rfl rfl rfl
theorem dX0_look_60 : dc cX0_look 60 63 (.iinc 3 1) 3 := o_132 ob_X0_look rfl rfl rfl rfl rfl
theorem dX0_look_63 : dc cX0_look 63 66 (.goto (-20)) 3 := o_167 ob_X0_look rfl rfl rfl rfl
theorem dX0_look_66 : dc cX0_look 66 67 .return_ 1 := o_177 ob_X0_look rfl rfl rfl
def F_Answer_look_b43 (z : Int32 × Mem) : Option ((Int32 × Mem) ⊕ ((Mem))) :=
  if 100 ≤ z.1 then some (.inr z.2) else (F_Answer_isBettered z.2).bind fun r5 => if r5.1 = true then (F_Answer_reckon r5.2).bind fun r6 => some (.inl ((z.1 + 1, r6))) else some (.inr r5.2)
def F_Answer_look_l43 (x3 : Int32) (M : Mem) : Option (Mem) :=
  (iter (F_Answer_look_b43) FUEL (x3, M)).bind fun r => some r
def F_Answer_look (x1 : Int32) (x2 : Int32) (M : Mem) : Option (Mem) :=
  (F_Well_moodsOf ((mSI (mSI M 52 3 x1) 52 4 x2).1 52 4) (mSI (mSI M 52 3 x1) 52 4 x2)).bind fun r1 => (F_Math_min_III r1 3 (mSI (mSI M 52 3 x1) 52 4 x2)).bind fun r2 => (F_Row_setAll 67 3 0 (mSI (mSI (mSI M 52 3 x1) 52 4 x2) 52 5 r2)).bind fun r3 => (F_Answer_reckon r3).bind fun r4 => F_Answer_look_l43 0 r4
set_option maxRecDepth 100000 in
set_option maxHeartbeats 4000000 in
theorem K_Answer_look (l : Launch) (g : GB) (htr : l.stackTraces = false) (x1 : Int32) (x2 : Int32) (M : Mem) (MZ : Mem) (h : F_Answer_look x1 x2 M = some MZ) : CT l g yX0_look (.code yX0_look cX0_look 4 none :: wAll) { frames := 5, cells := 0, slots := 0, locals := 143 } [.ref (g.2.1 52), .int x1, .int x2] M (.inl none) MZ := by
  refine CT.of [(0, .ref (g.2.1 52)), (1, .int x1), (2, .int x2)] (by decide +kernel) (Nat.le_of_ble_eq_true rfl) rfl htr ?_
  intro p e s m args below meth c K hr ht
  skip
  obtain ⟨PHI, hPHI, h⟩ : ∃ PHI : Mem → Prop, (∀ a, PHI a → a = MZ) ∧ wpO (F_Answer_look x1 x2 M) PHI := ⟨fun a => a = MZ, fun _ h => h, _, h, rfl⟩
  have J43 : ∀ (x3 : Int32) (M : Mem), wpO (F_Answer_look_l43 x3 M) PHI → GG p l e { frames := 5, cells := 0, slots := 0, locals := 143 } s m args below meth c g 4 (vx_MQ below (Qn g s.heap.size (.inl none) MZ) (QX g s.heap.size (.inl none) MZ) args s 0 0 (AS g s.heap.size)) 0 0 43 [(0, .ref (g.2.1 52)), (3, .int x3)] [] M := by
    intro x3 M h
    unfold F_Answer_look_l43 at h
    refine loop_C2 (G := fun (x3 : Int32) (M : Mem) => GG p l e { frames := 5, cells := 0, slots := 0, locals := 143 } s m args below meth c g 4 (vx_MQ below (Qn g s.heap.size (.inl none) MZ) (QX g s.heap.size (.inl none) MZ) args s 0 0 (AS g s.heap.size)) 0 0 43 [(0, .ref (g.2.1 52)), (3, .int x3)] [] M) (body := F_Answer_look_b43) ?_ FUEL _ _ (wpO_bind h)
    intro P43 E43 X43
    intro z h
    unfold F_Answer_look_b43 at h
    refine G_iload_n rfl 1 rfl K dX0_look_43 ?_
    refine G_bipush (v := 100) rfl K dX0_look_44 ?_
    refine G_icmp_ge (tgt := 66) K dX0_look_46 (by decide) (fun hc => ?_) (fun hc => ?_)
    · have h := wpO_t h hc
      have h := X43 _ (wpO_some h)
      try dsimp only at h
      cases hPHI _ (wpO_some h)
      exact G_vret K hr dX0_look_66 (Nat.le_of_ble_eq_true rfl) (Nat.le_of_ble_eq_true rfl) ⟨rfl, rfl⟩
    · have h := wpO_f h hc
      refine G_aload_n rfl 0 rfl K dX0_look_49 ?_
      obtain ⟨r5, e5, h⟩ := wpO_bind h
      refine G_callVi (ci := 0) [] [] K dX0_look_50 wv_1035 yd_X0_isBettered (Nat.le_of_ble_eq_true rfl) (sh_52 _ _) rfl (by decide) (by decide) rfl rfl (Nat.le_of_ble_eq_true rfl) (K_Answer_isBettered l g htr  z.2 _ _ e5) ?_
      refine G_ifb_eq (tgt := 66) K dX0_look_53 (by decide) (fun hc => ?_) (fun hc => ?_)
      · have h := wpO_bf h hc
        have h := X43 _ (wpO_some h)
        try dsimp only at h
        cases hPHI _ (wpO_some h)
        exact G_vret K hr dX0_look_66 (Nat.le_of_ble_eq_true rfl) (Nat.le_of_ble_eq_true rfl) ⟨rfl, rfl⟩
      · have h := wpO_t h hc
        refine G_aload_n rfl 0 rfl K dX0_look_56 ?_
        obtain ⟨r6, e6, h⟩ := wpO_bind h
        refine G_callVv (ci := 0) [] [] K dX0_look_57 wv_1020 yd_X0_reckon (Nat.le_of_ble_eq_true rfl) (sh_52 _ _) rfl (by decide) (by decide) rfl rfl (Nat.le_of_ble_eq_true rfl) (K_Answer_reckon l g htr  r5.2 _ e6) ?_
        refine G_iinc (v := z.1 + 1) 1 rfl K dX0_look_60 rfl (Nat.le_of_ble_eq_true rfl) rfl ?_
        refine G_goto (tgt := 43) K dX0_look_63 (by decide) ?_
        exact G_lv (lv' := [(0, .ref (g.2.1 52)), (3, .int (z.1 + 1))]) [1, 0] rfl (E43 (z.1 + 1) r6 (wpO_some h))
  unfold F_Answer_look at h
  refine G_aload_n rfl 0 rfl K dX0_look_0 ?_
  refine G_iload_n rfl 1 rfl K dX0_look_1 ?_
  refine G_putI (ci := 0) (k := 3) (ty := .int) K rfl in_X0 tyX0 tyX0_ok nmX0 wd_258 rfl rfl rfl rfl rfl dX0_look_2 (Nat.le_of_ble_eq_true rfl) (sh_52 _ _) (sh_52 _ _) (Nat.le_of_ble_eq_true rfl) (Nat.le_of_ble_eq_true rfl) rfl ?_
  refine G_aload_n rfl 0 rfl K dX0_look_5 ?_
  refine G_iload_n rfl 2 rfl K dX0_look_6 ?_
  refine G_putI (ci := 0) (k := 4) (ty := .int) K rfl in_X0 tyX0 tyX0_ok nmX0 wd_259 rfl rfl rfl rfl rfl dX0_look_7 (Nat.le_of_ble_eq_true rfl) (sh_52 _ _) (sh_52 _ _) (Nat.le_of_ble_eq_true rfl) (Nat.le_of_ble_eq_true rfl) rfl ?_
  refine G_aload_n rfl 0 rfl K dX0_look_10 ?_
  refine G_aload_n rfl 0 rfl K dX0_look_11 ?_
  refine G_get (ci := 0) (k := 0) K rfl in_X0 wd_255 rfl dX0_look_12 (Nat.le_of_ble_eq_true rfl) (sh_52 _ _) (Nat.le_of_ble_eq_true rfl) rfl ?_
  refine G_aload_n rfl 0 rfl K dX0_look_15 ?_
  refine G_get (ci := 0) (k := 4) K rfl in_X0 wd_259 rfl dX0_look_16 (Nat.le_of_ble_eq_true rfl) (sh_52 _ _) (Nat.le_of_ble_eq_true rfl) rfl ?_
  obtain ⟨r1, e1, h⟩ := wpO_bind h
  refine G_callVi (ci := 10) [.int ((mSI (mSI M 52 3 x1) 52 4 x2).1 52 4)] [.ref (g.2.1 52)] K dX0_look_19 wv_1017 yd_X10_moodsOf (Nat.le_of_ble_eq_true rfl) (sh_1 _ _) rfl (by decide) (by decide) rfl rfl (Nat.le_of_ble_eq_true rfl) (K_Well_moodsOf l g htr ((mSI (mSI M 52 3 x1) 52 4 x2).1 52 4) (mSI (mSI M 52 3 x1) 52 4 x2) _ e1) ?_
  refine G_iconst (v := 3) rfl K dX0_look_22 ?_
  obtain ⟨r2, e2, h⟩ := wpO_bind h
  refine G_callSi [.int r1, .int 3] [.ref (g.2.1 52)] K dX0_look_23 wv_1018 yd_J9_min_7cf53 (by decide) (by decide) rfl rfl (Nat.le_of_ble_eq_true rfl) (K_Math_min_III l g htr r1 3 (mSI (mSI M 52 3 x1) 52 4 x2) _ e2) ?_
  refine G_putI (ci := 0) (k := 5) (ty := .int) K rfl in_X0 tyX0 tyX0_ok nmX0 wd_260 rfl rfl rfl rfl rfl dX0_look_26 (Nat.le_of_ble_eq_true rfl) (sh_52 _ _) (sh_52 _ _) (Nat.le_of_ble_eq_true rfl) (Nat.le_of_ble_eq_true rfl) rfl ?_
  refine G_aload_n rfl 0 rfl K dX0_look_29 ?_
  refine G_get (ci := 0) (k := 2) K rfl in_X0 wd_257 rfl dX0_look_30 (Nat.le_of_ble_eq_true rfl) (sh_52 _ _) (Nat.le_of_ble_eq_true rfl) rfl ?_
  refine G_lconst (v := 0) rfl K dX0_look_33 ?_
  obtain ⟨r3, e3, h⟩ := wpO_bind h
  refine G_callVv (ci := 7) [.long 0] [] K dX0_look_34 wv_1019 yd_X7_setAll (Nat.le_of_ble_eq_true rfl) (sh_66 _ _) rfl (by decide) (by decide) rfl rfl (Nat.le_of_ble_eq_true rfl) (K_Row_setAll l g htr 66 67 3 isRow_66 0 (mSI (mSI (mSI M 52 3 x1) 52 4 x2) 52 5 r2) _ e3) ?_
  refine G_aload_n rfl 0 rfl K dX0_look_37 ?_
  obtain ⟨r4, e4, h⟩ := wpO_bind h
  refine G_callVv (ci := 0) [] [] K dX0_look_38 wv_1020 yd_X0_reckon (Nat.le_of_ble_eq_true rfl) (sh_52 _ _) rfl (by decide) (by decide) rfl rfl (Nat.le_of_ble_eq_true rfl) (K_Answer_reckon l g htr  r3 _ e4) ?_
  refine G_iconst (v := 0) rfl K dX0_look_41 ?_
  refine G_istore_n rfl K dX0_look_42 (Nat.le_of_ble_eq_true rfl) rfl ?_
  exact G_lv (lv' := [(0, .ref (g.2.1 52)), (3, .int 0)]) [1, 0] rfl (J43 0 r4 h)
def on_X0_actIn : Nat := 0xac4100b61b1700b42ae7ffa7010284ac1c05009a6500b61c1b2a1400a26200b42500b42a1c3d03
theorem ob_X0_actIn : OKB cX0_actIn on_X0_actIn 39 := ⟨by decide +kernel, by decide +kernel⟩
theorem dX0_actIn_0 : dc cX0_actIn 0 1 (.iconst 0) 1 := o_3 ob_X0_actIn rfl rfl rfl
theorem dX0_actIn_1 : dc cX0_actIn 1 2 (.istore_n 2) 1 := o_61 ob_X0_actIn rfl rfl rfl
theorem dX0_actIn_2 : dc cX0_actIn 2 3 (.iload_n 2) 1 := o_28 ob_X0_actIn rfl rfl rfl
theorem dX0_actIn_3 : dc cX0_actIn 3 4 (.aload_n 0) 1 := o_42 ob_X0_actIn rfl rfl rfl
theorem dX0_actIn_4 : dc cX0_actIn 4 7 (.getfield 37) 3 := o_180 ob_X0_actIn rfl rfl rfl rfl
theorem dX0_actIn_7 : dc cX0_actIn 7 10 (.getfield 98) 3 := o_180 ob_X0_actIn rfl rfl rfl rfl
theorem dX0_actIn_10 : dc cX0_actIn 10 13 (.if_icmp .ge 20) 3 := o_162 ob_X0_actIn rfl rfl rfl rfl
theorem dX0_actIn_13 : dc cX0_actIn 13 14 (.aload_n 0) 1 := o_42 ob_X0_actIn rfl rfl rfl
theorem dX0_actIn_14 : dc cX0_actIn 14 15 (.iload_n 1) 1 := o_27 ob_X0_actIn rfl rfl rfl
theorem dX0_actIn_15 : dc cX0_actIn 15 16 (.iload_n 2) 1 := o_28 ob_X0_actIn rfl rfl rfl
theorem dX0_actIn_16 : dc cX0_actIn 16 19 (.invokevirtual 101) 3 := o_182 ob_X0_actIn rfl rfl rfl rfl
theorem dX0_actIn_19 : dc cX0_actIn 19 22 (.ifCond .ne 5) 3 := o_154 ob_X0_actIn rfl rfl rfl rfl
theorem dX0_actIn_22 : dc cX0_actIn 22 23 (.iload_n 2) 1 := o_28 ob_X0_actIn rfl rfl rfl
theorem dX0_actIn_23 : dc cX0_actIn 23 24 .ireturn 1 := o_172 ob_X0_actIn rfl rfl rfl
theorem dX0_actIn_24 : dc cX0_actIn 24 27 (.iinc 2 1) 3 := o_132 ob_X0_actIn rfl rfl rfl rfl rfl
theorem dX0_actIn_27 : dc cX0_actIn 27 30 (.goto (-25)) 3 := o_167 ob_X0_actIn rfl rfl rfl rfl
theorem dX0_actIn_30 : dc cX0_actIn 30 31 (.aload_n 0) 1 := o_42 ob_X0_actIn rfl rfl rfl
theorem dX0_actIn_31 : dc cX0_actIn 31 34 (.getfield 23) 3 := o_180 ob_X0_actIn rfl rfl rfl rfl
theorem dX0_actIn_34 : dc cX0_actIn 34 35 (.iload_n 1) 1 := o_27 ob_X0_actIn rfl rfl rfl
theorem dX0_actIn_35 : dc cX0_actIn 35 38 (.invokevirtual 65) 3 := o_182 ob_X0_actIn rfl rfl rfl rfl
theorem dX0_actIn_38 : dc cX0_actIn 38 39 .ireturn 1 := o_172 ob_X0_actIn rfl rfl rfl
def F_Answer_actIn_j30 (x1 : Int32) (M : Mem) : Option (Int32) :=
  (F_Row_small 67 3 x1 M).bind fun r1 => some r1
def F_Answer_actIn_b2 (x1 : Int32) (M : Mem) (z : Int32) : Option ((Int32) ⊕ ((Int32) ⊕ ((Unit)))) :=
  if (M.1 1 0) ≤ z then some (.inr (.inr (()))) else (F_Answer_orderOf x1 z M).bind fun r2 => if r2 = 0 then some (.inr (.inl z)) else some (.inl (z + 1))
def F_Answer_actIn_l2 (x1 : Int32) (x2 : Int32) (M : Mem) : Option (Int32) :=
  (iter (F_Answer_actIn_b2 x1 M) FUEL x2).bind fun q => match q with
    | .inl r => some r
    | .inr r => F_Answer_actIn_j30 x1 M
def F_Answer_actIn (x1 : Int32) (M : Mem) : Option (Int32) :=
  F_Answer_actIn_l2 x1 0 M
set_option maxRecDepth 100000 in
set_option maxHeartbeats 4000000 in
theorem K_Answer_actIn (l : Launch) (g : GB) (htr : l.stackTraces = false) (x1 : Int32) (M : Mem) (rr : Int32) (h : F_Answer_actIn x1 M = some rr) : CT l g yX0_actIn (.code yX0_actIn cX0_actIn 3 (some .int) :: wAll) { frames := 4, cells := 0, slots := 0, locals := 120 } [.ref (g.2.1 52), .int x1] M (.inl (some (.int rr))) M := by
  refine CT.of [(0, .ref (g.2.1 52)), (1, .int x1)] (by decide +kernel) (Nat.le_of_ble_eq_true rfl) rfl htr ?_
  intro p e s m args below meth c K hr ht
  skip
  obtain ⟨PHI, hPHI, h⟩ : ∃ PHI : Int32 → Prop, (∀ a, PHI a → a = rr) ∧ wpO (F_Answer_actIn x1 M) PHI := ⟨fun a => a = rr, fun _ h => h, _, h, rfl⟩
  have J30 : ∀ (x1 : Int32), wpO (F_Answer_actIn_j30 x1 M) PHI → GG p l e { frames := 4, cells := 0, slots := 0, locals := 120 } s m args below meth c g 3 (vx_MQ below (Qn g s.heap.size (.inl (some (.int rr))) M) (QX g s.heap.size (.inl (some (.int rr))) M) args s 0 0 (AS g s.heap.size)) 0 0 30 [(0, .ref (g.2.1 52)), (1, .int x1)] [] M := by
    intro x1 h
    unfold F_Answer_actIn_j30 at h
    refine G_aload_n rfl 0 rfl K dX0_actIn_30 ?_
    refine G_get (ci := 0) (k := 2) K rfl in_X0 wd_257 rfl dX0_actIn_31 (Nat.le_of_ble_eq_true rfl) (sh_52 _ _) (Nat.le_of_ble_eq_true rfl) rfl ?_
    refine G_iload_n rfl 1 rfl K dX0_actIn_34 ?_
    obtain ⟨r1, e1, h⟩ := wpO_bind h
    refine G_callVi (ci := 7) [.int x1] [] K dX0_actIn_35 wv_1025 yd_X7_small (Nat.le_of_ble_eq_true rfl) (sh_66 _ _) rfl (by decide) (by decide) rfl rfl (Nat.le_of_ble_eq_true rfl) (K_Row_small l g htr 66 67 3 isRow_66 x1 M _ e1) ?_
    cases hPHI _ (wpO_some h)
    exact G_iret K hr rfl dX0_actIn_38 (Nat.le_of_ble_eq_true rfl) (Nat.le_of_ble_eq_true rfl) ⟨rfl, rfl⟩
  have J2 : ∀ (x1 : Int32) (x2 : Int32), wpO (F_Answer_actIn_l2 x1 x2 M) PHI → GG p l e { frames := 4, cells := 0, slots := 0, locals := 120 } s m args below meth c g 3 (vx_MQ below (Qn g s.heap.size (.inl (some (.int rr))) M) (QX g s.heap.size (.inl (some (.int rr))) M) args s 0 0 (AS g s.heap.size)) 0 0 2 [(0, .ref (g.2.1 52)), (1, .int x1), (2, .int x2)] [] M := by
    intro x1 x2 h
    unfold F_Answer_actIn_l2 at h
    refine loop_C1 (G := fun (x2 : Int32) => GG p l e { frames := 4, cells := 0, slots := 0, locals := 120 } s m args below meth c g 3 (vx_MQ below (Qn g s.heap.size (.inl (some (.int rr))) M) (QX g s.heap.size (.inl (some (.int rr))) M) args s 0 0 (AS g s.heap.size)) 0 0 2 [(0, .ref (g.2.1 52)), (1, .int x1), (2, .int x2)] [] M) (body := F_Answer_actIn_b2 x1 M) ?_ FUEL _ (wpO_bind h)
    intro P2 E2 X2
    intro z h
    unfold F_Answer_actIn_b2 at h
    refine G_iload_n rfl 2 rfl K dX0_actIn_2 ?_
    refine G_aload_n rfl 0 rfl K dX0_actIn_3 ?_
    refine G_get (ci := 0) (k := 0) K rfl in_X0 wd_255 rfl dX0_actIn_4 (Nat.le_of_ble_eq_true rfl) (sh_52 _ _) (Nat.le_of_ble_eq_true rfl) rfl ?_
    refine G_get (ci := 10) (k := 0) K rfl in_X10 wd_60 rfl dX0_actIn_7 (Nat.le_of_ble_eq_true rfl) (sh_1 _ _) (Nat.le_of_ble_eq_true rfl) rfl ?_
    refine G_icmp_ge (tgt := 30) K dX0_actIn_10 (by decide) (fun hc => ?_) (fun hc => ?_)
    · have h := wpO_t h hc
      have h := X2 _ (wpO_some h)
      try dsimp only at h
      exact G_lv (lv' := [(0, .ref (g.2.1 52)), (1, .int x1)]) [0, 1] rfl (J30 x1 h)
    · have h := wpO_f h hc
      refine G_aload_n rfl 0 rfl K dX0_actIn_13 ?_
      refine G_iload_n rfl 1 rfl K dX0_actIn_14 ?_
      refine G_iload_n rfl 2 rfl K dX0_actIn_15 ?_
      obtain ⟨r2, e2, h⟩ := wpO_bind h
      refine G_callVi (ci := 0) [.int x1, .int z] [] K dX0_actIn_16 wv_1039 yd_X0_orderOf (Nat.le_of_ble_eq_true rfl) (sh_52 _ _) rfl (by decide) (by decide) rfl rfl (Nat.le_of_ble_eq_true rfl) (K_Answer_orderOf l g htr x1 z M _ e2) ?_
      refine G_if_ne (tgt := 24) K dX0_actIn_19 (by decide) (fun hc => ?_) (fun hc => ?_)
      · have h := wpO_f h hc
        refine G_iinc (v := z + 1) 2 rfl K dX0_actIn_24 rfl (Nat.le_of_ble_eq_true rfl) rfl ?_
        refine G_goto (tgt := 2) K dX0_actIn_27 (by decide) ?_
        exact G_lv (lv' := [(0, .ref (g.2.1 52)), (1, .int x1), (2, .int (z + 1))]) [1, 2, 0] rfl (E2 (z + 1) (wpO_some h))
      · have h := wpO_t h hc
        have h := X2 _ (wpO_some h)
        try dsimp only at h
        refine G_iload_n rfl 2 rfl K dX0_actIn_22 ?_
        cases hPHI _ (wpO_some h)
        exact G_iret K hr rfl dX0_actIn_23 (Nat.le_of_ble_eq_true rfl) (Nat.le_of_ble_eq_true rfl) ⟨rfl, rfl⟩
  unfold F_Answer_actIn at h
  refine G_iconst (v := 0) rfl K dX0_actIn_0 ?_
  refine G_istore_n rfl K dX0_actIn_1 (Nat.le_of_ble_eq_true rfl) rfl ?_
  exact G_lv (lv' := [(0, .ref (g.2.1 52)), (1, .int x1), (2, .int 0)]) [1, 2, 0] rfl (J2 x1 0 h)
theorem wv_1060 : wdV "KeptWell$Answer" 106 yX2_tellWorth cX2_tellWorth 4 none := ⟨wd_1060, wd_966, wd_967, wd_7, wd_968⟩
def on_X0_tellWorth : Nat := 0xb16a00b62c031b0a00b42a
theorem ob_X0_tellWorth : OKB cX0_tellWorth on_X0_tellWorth 11 := ⟨by decide +kernel, by decide +kernel⟩
theorem dX0_tellWorth_0 : dc cX0_tellWorth 0 1 (.aload_n 0) 1 := o_42 ob_X0_tellWorth rfl rfl rfl
theorem dX0_tellWorth_1 : dc cX0_tellWorth 1 4 (.getfield 10) 3 := o_180 ob_X0_tellWorth rfl rfl rfl rfl
theorem dX0_tellWorth_4 : dc cX0_tellWorth 4 5 (.iload_n 1) 1 := o_27 ob_X0_tellWorth rfl rfl rfl
theorem dX0_tellWorth_5 : dc cX0_tellWorth 5 6 (.iconst 0) 1 := o_3 ob_X0_tellWorth rfl rfl rfl
theorem dX0_tellWorth_6 : dc cX0_tellWorth 6 7 (.aload_n 2) 1 := o_44 ob_X0_tellWorth rfl rfl rfl
theorem dX0_tellWorth_7 : dc cX0_tellWorth 7 10 (.invokevirtual 106) 3 := o_182 ob_X0_tellWorth rfl rfl rfl rfl
theorem dX0_tellWorth_10 : dc cX0_tellWorth 10 11 .return_ 1 := o_177 ob_X0_tellWorth rfl rfl rfl
def F_Answer_tellWorth (o2 : Nat) (x1 : Int32) (M : Mem) : Option (Mem) :=
  (F_Chain_tellWorth 53 o2 x1 0 M).bind fun r1 => some r1
set_option maxRecDepth 100000 in
set_option maxHeartbeats 4000000 in
theorem K_Answer_tellWorth (l : Launch) (g : GB) (htr : l.stackTraces = false) (o2 : Nat) (ho2 : isFrac o2) (x1 : Int32) (M : Mem) (MZ : Mem) (h : F_Answer_tellWorth o2 x1 M = some MZ) : CT l g yX0_tellWorth (.code yX0_tellWorth cX0_tellWorth 3 none :: wAll) { frames := 4, cells := 0, slots := 0, locals := 100 } [.ref (g.2.1 52), .int x1, .ref (g.2.1 o2)] M (.inl none) MZ := by
  refine CT.of [(0, .ref (g.2.1 52)), (1, .int x1), (2, .ref (g.2.1 o2))] (by decide +kernel) (Nat.le_of_ble_eq_true rfl) rfl htr ?_
  intro p e s m args below meth c K hr ht
  skip
  obtain ⟨PHI, hPHI, h⟩ : ∃ PHI : Mem → Prop, (∀ a, PHI a → a = MZ) ∧ wpO (F_Answer_tellWorth o2 x1 M) PHI := ⟨fun a => a = MZ, fun _ h => h, _, h, rfl⟩
  unfold F_Answer_tellWorth at h
  refine G_aload_n rfl 0 rfl K dX0_tellWorth_0 ?_
  refine G_get (ci := 0) (k := 1) K rfl in_X0 wd_256 rfl dX0_tellWorth_1 (Nat.le_of_ble_eq_true rfl) (sh_52 _ _) (Nat.le_of_ble_eq_true rfl) rfl ?_
  refine G_iload_n rfl 1 rfl K dX0_tellWorth_4 ?_
  refine G_iconst (v := 0) rfl K dX0_tellWorth_5 ?_
  refine G_aload_n rfl 2 rfl K dX0_tellWorth_6 ?_
  obtain ⟨r1, e1, h⟩ := wpO_bind h
  refine G_callVv (ci := 2) [.int x1, .int 0, .ref (g.2.1 o2)] [] K dX0_tellWorth_7 wv_1060 yd_X2_tellWorth (Nat.le_of_ble_eq_true rfl) (sh_53 _ _) rfl (by decide) (by decide) rfl rfl (Nat.le_of_ble_eq_true rfl) (K_Chain_tellWorth l g htr 53 o2 isChain_53 ho2 x1 0 M _ e1) ?_
  cases hPHI _ (wpO_some h)
  exact G_vret K hr dX0_tellWorth_10 (Nat.le_of_ble_eq_true rfl) (Nat.le_of_ble_eq_true rfl) ⟨rfl, rfl⟩
