theorem wv_1333 : wdV "KeptWell$Crowd" 50 yX7_put cX7_put 4 none := ⟨wd_1333, wd_452, wd_453, wd_3, wd_454⟩
theorem wv_1332 : wdV "KeptWell$Crowd" 46 yX10_isBarred cX10_isBarred 4 (some .boolean) := ⟨wd_1332, wd_472, wd_473, wd_2, wd_474⟩
def on_X3_seeWhoIsThere : Nat := 0xb1d4ffa70101843200b6090400a70a07009a2e00b61b2200b42a1200a22a00b42200b42a1b1b1000b42a2c00a208101b3c03
theorem ob_X3_seeWhoIsThere : OKB cX3_seeWhoIsThere on_X3_seeWhoIsThere 50 := ⟨by decide +kernel, by decide +kernel⟩
theorem dX3_seeWhoIsThere_0 : dc cX3_seeWhoIsThere 0 1 (.iconst 0) 1 := o_3 ob_X3_seeWhoIsThere rfl rfl rfl
theorem dX3_seeWhoIsThere_1 : dc cX3_seeWhoIsThere 1 2 (.istore_n 1) 1 := o_60 ob_X3_seeWhoIsThere rfl rfl rfl
theorem dX3_seeWhoIsThere_2 : dc cX3_seeWhoIsThere 2 3 (.iload_n 1) 1 := o_27 ob_X3_seeWhoIsThere rfl rfl rfl
theorem dX3_seeWhoIsThere_3 : dc cX3_seeWhoIsThere 3 5 (.bipush 8) 2 := o_16 ob_X3_seeWhoIsThere rfl rfl rfl rfl
theorem dX3_seeWhoIsThere_5 : dc cX3_seeWhoIsThere 5 8 (.if_icmp .ge 44) 3 := o_162 ob_X3_seeWhoIsThere rfl rfl rfl rfl
theorem dX3_seeWhoIsThere_8 : dc cX3_seeWhoIsThere 8 9 (.aload_n 0) 1 := o_42 ob_X3_seeWhoIsThere rfl rfl rfl
theorem dX3_seeWhoIsThere_9 : dc cX3_seeWhoIsThere 9 12 (.getfield 16) 3 := o_180 ob_X3_seeWhoIsThere rfl rfl rfl rfl
theorem dX3_seeWhoIsThere_12 : dc cX3_seeWhoIsThere 12 13 (.iload_n 1) 1 := o_27 ob_X3_seeWhoIsThere rfl rfl rfl
theorem dX3_seeWhoIsThere_13 : dc cX3_seeWhoIsThere 13 14 (.iload_n 1) 1 := o_27 ob_X3_seeWhoIsThere rfl rfl rfl
theorem dX3_seeWhoIsThere_14 : dc cX3_seeWhoIsThere 14 15 (.aload_n 0) 1 := o_42 ob_X3_seeWhoIsThere rfl rfl rfl
theorem dX3_seeWhoIsThere_15 : dc cX3_seeWhoIsThere 15 18 (.getfield 34) 3 := o_180 ob_X3_seeWhoIsThere rfl rfl rfl rfl
theorem dX3_seeWhoIsThere_18 : dc cX3_seeWhoIsThere 18 21 (.getfield 42) 3 := o_180 ob_X3_seeWhoIsThere rfl rfl rfl rfl
theorem dX3_seeWhoIsThere_21 : dc cX3_seeWhoIsThere 21 24 (.if_icmp .ge 18) 3 := o_162 ob_X3_seeWhoIsThere rfl rfl rfl rfl
theorem dX3_seeWhoIsThere_24 : dc cX3_seeWhoIsThere 24 25 (.aload_n 0) 1 := o_42 ob_X3_seeWhoIsThere rfl rfl rfl
theorem dX3_seeWhoIsThere_25 : dc cX3_seeWhoIsThere 25 28 (.getfield 34) 3 := o_180 ob_X3_seeWhoIsThere rfl rfl rfl rfl
theorem dX3_seeWhoIsThere_28 : dc cX3_seeWhoIsThere 28 29 (.iload_n 1) 1 := o_27 ob_X3_seeWhoIsThere rfl rfl rfl
theorem dX3_seeWhoIsThere_29 : dc cX3_seeWhoIsThere 29 32 (.invokevirtual 46) 3 := o_182 ob_X3_seeWhoIsThere rfl rfl rfl rfl
theorem dX3_seeWhoIsThere_32 : dc cX3_seeWhoIsThere 32 35 (.ifCond .ne 7) 3 := o_154 ob_X3_seeWhoIsThere rfl rfl rfl rfl
theorem dX3_seeWhoIsThere_35 : dc cX3_seeWhoIsThere 35 36 (.lconst 1) 1 := o_10 ob_X3_seeWhoIsThere rfl rfl rfl
theorem dX3_seeWhoIsThere_36 : dc cX3_seeWhoIsThere 36 39 (.goto 4) 3 := o_167 ob_X3_seeWhoIsThere rfl rfl rfl rfl
theorem dX3_seeWhoIsThere_39 : dc cX3_seeWhoIsThere 39 40 (.lconst 0) 1 := o_9 ob_X3_seeWhoIsThere rfl rfl rfl
theorem dX3_seeWhoIsThere_40 : dc cX3_seeWhoIsThere 40 43 (.invokevirtual 50) 3 := o_182 ob_X3_seeWhoIsThere rfl rfl rfl rfl
theorem dX3_seeWhoIsThere_43 : dc cX3_seeWhoIsThere 43 46 (.iinc 1 1) 3 := o_132 ob_X3_seeWhoIsThere rfl rfl rfl rfl rfl
theorem dX3_seeWhoIsThere_46 : dc cX3_seeWhoIsThere 46 49 (.goto (-44)) 3 := o_167 ob_X3_seeWhoIsThere rfl rfl rfl rfl
theorem dX3_seeWhoIsThere_49 : dc cX3_seeWhoIsThere 49 50 .return_ 1 := o_177 ob_X3_seeWhoIsThere rfl rfl rfl
def F_Crowd_seeWhoIsThere_j40 (x1 : Int32) (s1 : Int32) (s2 : Int64) (M : Mem) : Option ((Int32 × Mem) ⊕ ((Mem))) :=
  (F_Row_put 82 8 s1 s2 M).bind fun r1 => some (.inl ((x1 + 1, r1)))
def F_Crowd_seeWhoIsThere_b2 (z : Int32 × Mem) : Option ((Int32 × Mem) ⊕ ((Mem))) :=
  if 8 ≤ z.1 then some (.inr z.2) else if (z.2.1 1 6) ≤ z.1 then F_Crowd_seeWhoIsThere_j40 z.1 z.1 0 z.2 else (F_Well_isBarred z.1 z.2).bind fun r2 => if r2 = true then F_Crowd_seeWhoIsThere_j40 z.1 z.1 0 z.2 else F_Crowd_seeWhoIsThere_j40 z.1 z.1 1 z.2
def F_Crowd_seeWhoIsThere_l2 (x1 : Int32) (M : Mem) : Option (Mem) :=
  (iter (F_Crowd_seeWhoIsThere_b2) FUEL (x1, M)).bind fun r => some r
def F_Crowd_seeWhoIsThere (M : Mem) : Option (Mem) :=
  F_Crowd_seeWhoIsThere_l2 0 M
set_option maxRecDepth 100000 in
set_option maxHeartbeats 4000000 in
theorem K_Crowd_seeWhoIsThere (l : Launch) (g : GB) (htr : l.stackTraces = false) (M : Mem) (MZ : Mem) (h : F_Crowd_seeWhoIsThere M = some MZ) : CT l g yX3_seeWhoIsThere (.code yX3_seeWhoIsThere cX3_seeWhoIsThere 2 none :: wAll) { frames := 3, cells := 0, slots := 0, locals := 66 } [.ref (g.2.1 80)] M (.inl none) MZ := by
  refine CT.of [(0, .ref (g.2.1 80))] (by decide +kernel) (Nat.le_of_ble_eq_true rfl) rfl htr ?_
  intro p e s m args below meth c K hr ht
  skip
  obtain ⟨PHI, hPHI, h⟩ : ∃ PHI : Mem → Prop, (∀ a, PHI a → a = MZ) ∧ wpO (F_Crowd_seeWhoIsThere M) PHI := ⟨fun a => a = MZ, fun _ h => h, _, h, rfl⟩
  have J2 : ∀ (x1 : Int32) (M : Mem), wpO (F_Crowd_seeWhoIsThere_l2 x1 M) PHI → GG p l e { frames := 3, cells := 0, slots := 0, locals := 66 } s m args below meth c g 2 (vx_MQ below (Qn g s.heap.size (.inl none) MZ) (QX g s.heap.size (.inl none) MZ) args s 0 0 (AS g s.heap.size)) 0 0 2 [(0, .ref (g.2.1 80)), (1, .int x1)] [] M := by
    intro x1 M h
    unfold F_Crowd_seeWhoIsThere_l2 at h
    refine loop_C2 (G := fun (x1 : Int32) (M : Mem) => GG p l e { frames := 3, cells := 0, slots := 0, locals := 66 } s m args below meth c g 2 (vx_MQ below (Qn g s.heap.size (.inl none) MZ) (QX g s.heap.size (.inl none) MZ) args s 0 0 (AS g s.heap.size)) 0 0 2 [(0, .ref (g.2.1 80)), (1, .int x1)] [] M) (body := F_Crowd_seeWhoIsThere_b2) ?_ FUEL _ _ (wpO_bind h)
    intro P2 E2 X2
    have J40 : ∀ (x1 : Int32) (s1 : Int32) (s2 : Int64) (M : Mem), wpO (F_Crowd_seeWhoIsThere_j40 x1 s1 s2 M) P2 → GG p l e { frames := 3, cells := 0, slots := 0, locals := 66 } s m args below meth c g 2 (vx_MQ below (Qn g s.heap.size (.inl none) MZ) (QX g s.heap.size (.inl none) MZ) args s 0 0 (AS g s.heap.size)) 0 0 40 [(0, .ref (g.2.1 80)), (1, .int x1)] [.long s2, .int s1, .ref (g.2.1 81)] M := by
      intro x1 s1 s2 M h
      unfold F_Crowd_seeWhoIsThere_j40 at h
      obtain ⟨r1, e1, h⟩ := wpO_bind h
      refine G_callVv (ci := 7) [.int s1, .long s2] [] K dX3_seeWhoIsThere_40 wv_1333 yd_X7_put (Nat.le_of_ble_eq_true rfl) (sh_81 _ _) rfl (by decide) (by decide) rfl rfl (Nat.le_of_ble_eq_true rfl) (K_Row_put l g htr 81 82 8 isRow_81 s1 s2 M _ e1) ?_
      refine G_iinc (v := x1 + 1) 1 rfl K dX3_seeWhoIsThere_43 rfl (Nat.le_of_ble_eq_true rfl) rfl ?_
      refine G_goto (tgt := 2) K dX3_seeWhoIsThere_46 (by decide) ?_
      exact G_lv (lv' := [(0, .ref (g.2.1 80)), (1, .int (x1 + 1))]) [1, 0] rfl (E2 (x1 + 1) r1 (wpO_some h))
    intro z h
    unfold F_Crowd_seeWhoIsThere_b2 at h
    refine G_iload_n rfl 1 rfl K dX3_seeWhoIsThere_2 ?_
    refine G_bipush (v := 8) rfl K dX3_seeWhoIsThere_3 ?_
    refine G_icmp_ge (tgt := 49) K dX3_seeWhoIsThere_5 (by decide) (fun hc => ?_) (fun hc => ?_)
    · have h := wpO_t h hc
      have h := X2 _ (wpO_some h)
      try dsimp only at h
      cases hPHI _ (wpO_some h)
      exact G_vret K hr dX3_seeWhoIsThere_49 (Nat.le_of_ble_eq_true rfl) (Nat.le_of_ble_eq_true rfl) ⟨rfl, rfl⟩
    · have h := wpO_f h hc
      refine G_aload_n rfl 0 rfl K dX3_seeWhoIsThere_8 ?_
      refine G_get (ci := 3) (k := 2) K rfl in_X3 wd_348 rfl dX3_seeWhoIsThere_9 (Nat.le_of_ble_eq_true rfl) (sh_80 _ _) (Nat.le_of_ble_eq_true rfl) rfl ?_
      refine G_iload_n rfl 1 rfl K dX3_seeWhoIsThere_12 ?_
      refine G_iload_n rfl 1 rfl K dX3_seeWhoIsThere_13 ?_
      refine G_aload_n rfl 0 rfl K dX3_seeWhoIsThere_14 ?_
      refine G_get (ci := 3) (k := 0) K rfl in_X3 wd_346 rfl dX3_seeWhoIsThere_15 (Nat.le_of_ble_eq_true rfl) (sh_80 _ _) (Nat.le_of_ble_eq_true rfl) rfl ?_
      refine G_get (ci := 10) (k := 6) K rfl in_X10 wd_85 rfl dX3_seeWhoIsThere_18 (Nat.le_of_ble_eq_true rfl) (sh_1 _ _) (Nat.le_of_ble_eq_true rfl) rfl ?_
      refine G_icmp_ge (tgt := 39) K dX3_seeWhoIsThere_21 (by decide) (fun hc => ?_) (fun hc => ?_)
      · have h := wpO_t h hc
        refine G_lconst (v := 0) rfl K dX3_seeWhoIsThere_39 ?_
        exact J40 z.1 z.1 0 z.2 h
      · have h := wpO_f h hc
        refine G_aload_n rfl 0 rfl K dX3_seeWhoIsThere_24 ?_
        refine G_get (ci := 3) (k := 0) K rfl in_X3 wd_346 rfl dX3_seeWhoIsThere_25 (Nat.le_of_ble_eq_true rfl) (sh_80 _ _) (Nat.le_of_ble_eq_true rfl) rfl ?_
        refine G_iload_n rfl 1 rfl K dX3_seeWhoIsThere_28 ?_
        obtain ⟨r2, e2, h⟩ := wpO_bind h
        refine G_callVi (ci := 10) [.int z.1] [.int z.1, .ref (g.2.1 81)] K dX3_seeWhoIsThere_29 wv_1332 yd_X10_isBarred (Nat.le_of_ble_eq_true rfl) (sh_1 _ _) rfl (by decide) (by decide) rfl rfl (Nat.le_of_ble_eq_true rfl) (K_Well_isBarred l g htr z.1 z.2 _ e2) ?_
        refine G_ifb_ne (tgt := 39) K dX3_seeWhoIsThere_32 (by decide) (fun hc => ?_) (fun hc => ?_)
        · have h := wpO_t h hc
          refine G_lconst (v := 0) rfl K dX3_seeWhoIsThere_39 ?_
          exact J40 z.1 z.1 0 z.2 h
        · have h := wpO_bf h hc
          refine G_lconst (v := 1) rfl K dX3_seeWhoIsThere_35 ?_
          refine G_goto (tgt := 40) K dX3_seeWhoIsThere_36 (by decide) ?_
          exact J40 z.1 z.1 1 z.2 h
  unfold F_Crowd_seeWhoIsThere at h
  refine G_iconst (v := 0) rfl K dX3_seeWhoIsThere_0 ?_
  refine G_istore_n rfl K dX3_seeWhoIsThere_1 (Nat.le_of_ble_eq_true rfl) rfl ?_
  exact G_lv (lv' := [(0, .ref (g.2.1 80)), (1, .int 0)]) [1, 0] rfl (J2 0 M h)
theorem wv_1342 : wdV "KeptWell$Crowd" 54 yX7_at cX7_at 2 (some .long) := ⟨wd_1342, wd_528, wd_529, wd_3, wd_530⟩
def on_X3_isThere : Nat := 0xac030400a70407009a940a3600b61b1000b42a
theorem ob_X3_isThere : OKB cX3_isThere on_X3_isThere 19 := ⟨by decide +kernel, by decide +kernel⟩
theorem dX3_isThere_0 : dc cX3_isThere 0 1 (.aload_n 0) 1 := o_42 ob_X3_isThere rfl rfl rfl
theorem dX3_isThere_1 : dc cX3_isThere 1 4 (.getfield 16) 3 := o_180 ob_X3_isThere rfl rfl rfl rfl
theorem dX3_isThere_4 : dc cX3_isThere 4 5 (.iload_n 1) 1 := o_27 ob_X3_isThere rfl rfl rfl
theorem dX3_isThere_5 : dc cX3_isThere 5 8 (.invokevirtual 54) 3 := o_182 ob_X3_isThere rfl rfl rfl rfl
theorem dX3_isThere_8 : dc cX3_isThere 8 9 (.lconst 1) 1 := o_10 ob_X3_isThere rfl rfl rfl
theorem dX3_isThere_9 : dc cX3_isThere 9 10 .lcmp 1 := o_148 ob_X3_isThere rfl rfl rfl
theorem dX3_isThere_10 : dc cX3_isThere 10 13 (.ifCond .ne 7) 3 := o_154 ob_X3_isThere rfl rfl rfl rfl
theorem dX3_isThere_13 : dc cX3_isThere 13 14 (.iconst 1) 1 := o_4 ob_X3_isThere rfl rfl rfl
theorem dX3_isThere_14 : dc cX3_isThere 14 17 (.goto 4) 3 := o_167 ob_X3_isThere rfl rfl rfl rfl
theorem dX3_isThere_17 : dc cX3_isThere 17 18 (.iconst 0) 1 := o_3 ob_X3_isThere rfl rfl rfl
theorem dX3_isThere_18 : dc cX3_isThere 18 19 .ireturn 1 := o_172 ob_X3_isThere rfl rfl rfl
def F_Crowd_isThere (x1 : Int32) (M : Mem) : Option (Bool) :=
  (F_Row_at 82 8 x1 M).bind fun r1 => if r1 = 1 then some true else some false
set_option maxRecDepth 100000 in
set_option maxHeartbeats 4000000 in
theorem K_Crowd_isThere (l : Launch) (g : GB) (htr : l.stackTraces = false) (x1 : Int32) (M : Mem) (rr : Bool) (h : F_Crowd_isThere x1 M = some rr) : CT l g yX3_isThere (.code yX3_isThere cX3_isThere 2 (some .boolean) :: wAll) { frames := 1, cells := 0, slots := 0, locals := 21 } [.ref (g.2.1 80), .int x1] M (.inl (some (.int (b2i rr)))) M := by
  refine CT.of [(0, .ref (g.2.1 80)), (1, .int x1)] (by decide +kernel) (Nat.le_of_ble_eq_true rfl) rfl htr ?_
  intro p e s m args below meth c K hr ht
  skip
  obtain ⟨PHI, hPHI, h⟩ : ∃ PHI : Bool → Prop, (∀ a, PHI a → a = rr) ∧ wpO (F_Crowd_isThere x1 M) PHI := ⟨fun a => a = rr, fun _ h => h, _, h, rfl⟩
  unfold F_Crowd_isThere at h
  refine G_aload_n rfl 0 rfl K dX3_isThere_0 ?_
  refine G_get (ci := 3) (k := 2) K rfl in_X3 wd_348 rfl dX3_isThere_1 (Nat.le_of_ble_eq_true rfl) (sh_80 _ _) (Nat.le_of_ble_eq_true rfl) rfl ?_
  refine G_iload_n rfl 1 rfl K dX3_isThere_4 ?_
  obtain ⟨r1, e1, h⟩ := wpO_bind h
  refine G_callVl (ci := 7) [.int x1] [] K dX3_isThere_5 wv_1342 yd_X7_at (Nat.le_of_ble_eq_true rfl) (sh_81 _ _) rfl (by decide) (by decide) rfl rfl (Nat.le_of_ble_eq_true rfl) (K_Row_at l g htr 81 82 8 isRow_81 x1 M _ e1) ?_
  refine G_lconst (v := 1) rfl K dX3_isThere_8 ?_
  refine G_lcmp_ne (tgt := 17) K dX3_isThere_9 dX3_isThere_10 (by decide) (fun hc => ?_) (fun hc => ?_)
  · have h := wpO_f h hc
    refine G_iconst (v := 0) rfl K dX3_isThere_17 ?_
    cases hPHI _ (wpO_some h)
    exact G_iret K hr rfl dX3_isThere_18 (Nat.le_of_ble_eq_true rfl) (Nat.le_of_ble_eq_true rfl) ⟨rfl, rfl⟩
  · have h := wpO_t h hc
    refine G_iconst (v := 1) rfl K dX3_isThere_13 ?_
    refine G_goto (tgt := 18) K dX3_isThere_14 (by decide) ?_
    cases hPHI _ (wpO_some h)
    exact G_iret K hr rfl dX3_isThere_18 (Nat.le_of_ble_eq_true rfl) (Nat.le_of_ble_eq_true rfl) ⟨rfl, rfl⟩
def on_X9_start : Nat := 0xb11500b5032a1200b5032a0f00b51c2a0900b51b2a
theorem ob_X9_start : OKB cX9_start on_X9_start 21 := ⟨by decide +kernel, by decide +kernel⟩
theorem dX9_start_0 : dc cX9_start 0 1 (.aload_n 0) 1 := o_42 ob_X9_start rfl rfl rfl
theorem dX9_start_1 : dc cX9_start 1 2 (.iload_n 1) 1 := o_27 ob_X9_start rfl rfl rfl
theorem dX9_start_2 : dc cX9_start 2 5 (.putfield 9) 3 := o_181 ob_X9_start rfl rfl rfl rfl
theorem dX9_start_5 : dc cX9_start 5 6 (.aload_n 0) 1 := o_42 ob_X9_start rfl rfl rfl
theorem dX9_start_6 : dc cX9_start 6 7 (.iload_n 2) 1 := o_28 ob_X9_start rfl rfl rfl
theorem dX9_start_7 : dc cX9_start 7 10 (.putfield 15) 3 := o_181 ob_X9_start rfl rfl rfl rfl
theorem dX9_start_10 : dc cX9_start 10 11 (.aload_n 0) 1 := o_42 ob_X9_start rfl rfl rfl
theorem dX9_start_11 : dc cX9_start 11 12 (.iconst 0) 1 := o_3 ob_X9_start rfl rfl rfl
theorem dX9_start_12 : dc cX9_start 12 15 (.putfield 18) 3 := o_181 ob_X9_start rfl rfl rfl rfl
theorem dX9_start_15 : dc cX9_start 15 16 (.aload_n 0) 1 := o_42 ob_X9_start rfl rfl rfl
theorem dX9_start_16 : dc cX9_start 16 17 (.iconst 0) 1 := o_3 ob_X9_start rfl rfl rfl
theorem dX9_start_17 : dc cX9_start 17 20 (.putfield 21) 3 := o_181 ob_X9_start rfl rfl rfl rfl
theorem dX9_start_20 : dc cX9_start 20 21 .return_ 1 := o_177 ob_X9_start rfl rfl rfl
def F_Walk_start (x1 : Int32) (x2 : Int32) (M : Mem) : Option (Mem) :=
  some (mSI (mSI (mSI (mSI M 79 1 x1) 79 2 x2) 79 3 0) 79 4 0)
set_option maxRecDepth 100000 in
set_option maxHeartbeats 4000000 in
theorem K_Walk_start (l : Launch) (g : GB) (htr : l.stackTraces = false) (x1 : Int32) (x2 : Int32) (M : Mem) (MZ : Mem) (h : F_Walk_start x1 x2 M = some MZ) : CT l g yX9_start (.code yX9_start cX9_start 3 none :: wAll) { frames := 0, cells := 0, slots := 0, locals := 0 } [.ref (g.2.1 79), .int x1, .int x2] M (.inl none) MZ := by
  refine CT.of [(0, .ref (g.2.1 79)), (1, .int x1), (2, .int x2)] (by decide +kernel) (Nat.le_of_ble_eq_true rfl) rfl htr ?_
  intro p e s m args below meth c K hr ht
  skip
  obtain ⟨PHI, hPHI, h⟩ : ∃ PHI : Mem → Prop, (∀ a, PHI a → a = MZ) ∧ wpO (F_Walk_start x1 x2 M) PHI := ⟨fun a => a = MZ, fun _ h => h, _, h, rfl⟩
  unfold F_Walk_start at h
  refine G_aload_n rfl 0 rfl K dX9_start_0 ?_
  refine G_iload_n rfl 1 rfl K dX9_start_1 ?_
  refine G_putI (ci := 9) (k := 1) (ty := .int) K rfl in_X9 tyX9 tyX9_ok nmX9 wd_320 rfl rfl rfl rfl rfl dX9_start_2 (Nat.le_of_ble_eq_true rfl) (sh_79 _ _) (sh_79 _ _) (Nat.le_of_ble_eq_true rfl) (Nat.le_of_ble_eq_true rfl) rfl ?_
  refine G_aload_n rfl 0 rfl K dX9_start_5 ?_
  refine G_iload_n rfl 2 rfl K dX9_start_6 ?_
  refine G_putI (ci := 9) (k := 2) (ty := .int) K rfl in_X9 tyX9 tyX9_ok nmX9 wd_321 rfl rfl rfl rfl rfl dX9_start_7 (Nat.le_of_ble_eq_true rfl) (sh_79 _ _) (sh_79 _ _) (Nat.le_of_ble_eq_true rfl) (Nat.le_of_ble_eq_true rfl) rfl ?_
  refine G_aload_n rfl 0 rfl K dX9_start_10 ?_
  refine G_iconst (v := 0) rfl K dX9_start_11 ?_
  refine G_putI (ci := 9) (k := 3) (ty := .int) K rfl in_X9 tyX9 tyX9_ok nmX9 wd_322 rfl rfl rfl rfl rfl dX9_start_12 (Nat.le_of_ble_eq_true rfl) (sh_79 _ _) (sh_79 _ _) (Nat.le_of_ble_eq_true rfl) (Nat.le_of_ble_eq_true rfl) rfl ?_
  refine G_aload_n rfl 0 rfl K dX9_start_15 ?_
  refine G_iconst (v := 0) rfl K dX9_start_16 ?_
  refine G_putI (ci := 9) (k := 4) (ty := .int) K rfl in_X9 tyX9 tyX9_ok nmX9 wd_323 rfl rfl rfl rfl rfl dX9_start_17 (Nat.le_of_ble_eq_true rfl) (sh_79 _ _) (sh_79 _ _) (Nat.le_of_ble_eq_true rfl) (Nat.le_of_ble_eq_true rfl) rfl ?_
  cases hPHI _ (wpO_some h)
  exact G_vret K hr dX9_start_20 (Nat.le_of_ble_eq_true rfl) (Nat.le_of_ble_eq_true rfl) ⟨rfl, rfl⟩
theorem wv_1262 : wdV "KeptWell$Walk" 31 yX10_nextOf cX10_nextOf 4 (some .int) := ⟨wd_1262, wd_511, wd_512, wd_2, wd_513⟩
def on_X9_goOn : Nat := 0xb11500b51f00b61c1500b42a0f00b42a1b00b42a2a1200b51f00b61b1200b42a0900b42a1b00b42a2a
theorem ob_X9_goOn : OKB cX9_goOn on_X9_goOn 41 := ⟨by decide +kernel, by decide +kernel⟩
theorem dX9_goOn_0 : dc cX9_goOn 0 1 (.aload_n 0) 1 := o_42 ob_X9_goOn rfl rfl rfl
theorem dX9_goOn_1 : dc cX9_goOn 1 2 (.aload_n 0) 1 := o_42 ob_X9_goOn rfl rfl rfl
theorem dX9_goOn_2 : dc cX9_goOn 2 5 (.getfield 27) 3 := o_180 ob_X9_goOn rfl rfl rfl rfl
theorem dX9_goOn_5 : dc cX9_goOn 5 6 (.aload_n 0) 1 := o_42 ob_X9_goOn rfl rfl rfl
theorem dX9_goOn_6 : dc cX9_goOn 6 9 (.getfield 9) 3 := o_180 ob_X9_goOn rfl rfl rfl rfl
theorem dX9_goOn_9 : dc cX9_goOn 9 10 (.aload_n 0) 1 := o_42 ob_X9_goOn rfl rfl rfl
theorem dX9_goOn_10 : dc cX9_goOn 10 13 (.getfield 18) 3 := o_180 ob_X9_goOn rfl rfl rfl rfl
theorem dX9_goOn_13 : dc cX9_goOn 13 14 (.iload_n 1) 1 := o_27 ob_X9_goOn rfl rfl rfl
theorem dX9_goOn_14 : dc cX9_goOn 14 17 (.invokevirtual 31) 3 := o_182 ob_X9_goOn rfl rfl rfl rfl
theorem dX9_goOn_17 : dc cX9_goOn 17 20 (.putfield 18) 3 := o_181 ob_X9_goOn rfl rfl rfl rfl
theorem dX9_goOn_20 : dc cX9_goOn 20 21 (.aload_n 0) 1 := o_42 ob_X9_goOn rfl rfl rfl
theorem dX9_goOn_21 : dc cX9_goOn 21 22 (.aload_n 0) 1 := o_42 ob_X9_goOn rfl rfl rfl
theorem dX9_goOn_22 : dc cX9_goOn 22 25 (.getfield 27) 3 := o_180 ob_X9_goOn rfl rfl rfl rfl
theorem dX9_goOn_25 : dc cX9_goOn 25 26 (.aload_n 0) 1 := o_42 ob_X9_goOn rfl rfl rfl
theorem dX9_goOn_26 : dc cX9_goOn 26 29 (.getfield 15) 3 := o_180 ob_X9_goOn rfl rfl rfl rfl
theorem dX9_goOn_29 : dc cX9_goOn 29 30 (.aload_n 0) 1 := o_42 ob_X9_goOn rfl rfl rfl
theorem dX9_goOn_30 : dc cX9_goOn 30 33 (.getfield 21) 3 := o_180 ob_X9_goOn rfl rfl rfl rfl
theorem dX9_goOn_33 : dc cX9_goOn 33 34 (.iload_n 2) 1 := o_28 ob_X9_goOn rfl rfl rfl
theorem dX9_goOn_34 : dc cX9_goOn 34 37 (.invokevirtual 31) 3 := o_182 ob_X9_goOn rfl rfl rfl rfl
theorem dX9_goOn_37 : dc cX9_goOn 37 40 (.putfield 21) 3 := o_181 ob_X9_goOn rfl rfl rfl rfl
theorem dX9_goOn_40 : dc cX9_goOn 40 41 .return_ 1 := o_177 ob_X9_goOn rfl rfl rfl
def F_Walk_goOn (x1 : Int32) (x2 : Int32) (M : Mem) : Option (Mem) :=
  (F_Well_nextOf (M.1 79 1) (M.1 79 3) x1 M).bind fun r1 => (F_Well_nextOf ((mSI M 79 3 r1).1 79 2) ((mSI M 79 3 r1).1 79 4) x2 (mSI M 79 3 r1)).bind fun r2 => some (mSI (mSI M 79 3 r1) 79 4 r2)
set_option maxRecDepth 100000 in
set_option maxHeartbeats 4000000 in
theorem K_Walk_goOn (l : Launch) (g : GB) (htr : l.stackTraces = false) (x1 : Int32) (x2 : Int32) (M : Mem) (MZ : Mem) (h : F_Walk_goOn x1 x2 M = some MZ) : CT l g yX9_goOn (.code yX9_goOn cX9_goOn 3 none :: wAll) { frames := 2, cells := 0, slots := 0, locals := 44 } [.ref (g.2.1 79), .int x1, .int x2] M (.inl none) MZ := by
  refine CT.of [(0, .ref (g.2.1 79)), (1, .int x1), (2, .int x2)] (by decide +kernel) (Nat.le_of_ble_eq_true rfl) rfl htr ?_
  intro p e s m args below meth c K hr ht
  skip
  obtain ⟨PHI, hPHI, h⟩ : ∃ PHI : Mem → Prop, (∀ a, PHI a → a = MZ) ∧ wpO (F_Walk_goOn x1 x2 M) PHI := ⟨fun a => a = MZ, fun _ h => h, _, h, rfl⟩
  unfold F_Walk_goOn at h
  refine G_aload_n rfl 0 rfl K dX9_goOn_0 ?_
  refine G_aload_n rfl 0 rfl K dX9_goOn_1 ?_
  refine G_get (ci := 9) (k := 0) K rfl in_X9 wd_319 rfl dX9_goOn_2 (Nat.le_of_ble_eq_true rfl) (sh_79 _ _) (Nat.le_of_ble_eq_true rfl) rfl ?_
  refine G_aload_n rfl 0 rfl K dX9_goOn_5 ?_
  refine G_get (ci := 9) (k := 1) K rfl in_X9 wd_320 rfl dX9_goOn_6 (Nat.le_of_ble_eq_true rfl) (sh_79 _ _) (Nat.le_of_ble_eq_true rfl) rfl ?_
  refine G_aload_n rfl 0 rfl K dX9_goOn_9 ?_
  refine G_get (ci := 9) (k := 3) K rfl in_X9 wd_322 rfl dX9_goOn_10 (Nat.le_of_ble_eq_true rfl) (sh_79 _ _) (Nat.le_of_ble_eq_true rfl) rfl ?_
  refine G_iload_n rfl 1 rfl K dX9_goOn_13 ?_
  obtain ⟨r1, e1, h⟩ := wpO_bind h
  refine G_callVi (ci := 10) [.int (M.1 79 1), .int (M.1 79 3), .int x1] [.ref (g.2.1 79)] K dX9_goOn_14 wv_1262 yd_X10_nextOf (Nat.le_of_ble_eq_true rfl) (sh_1 _ _) rfl (by decide) (by decide) rfl rfl (Nat.le_of_ble_eq_true rfl) (K_Well_nextOf l g htr (M.1 79 1) (M.1 79 3) x1 M _ e1) ?_
  refine G_putI (ci := 9) (k := 3) (ty := .int) K rfl in_X9 tyX9 tyX9_ok nmX9 wd_322 rfl rfl rfl rfl rfl dX9_goOn_17 (Nat.le_of_ble_eq_true rfl) (sh_79 _ _) (sh_79 _ _) (Nat.le_of_ble_eq_true rfl) (Nat.le_of_ble_eq_true rfl) rfl ?_
  refine G_aload_n rfl 0 rfl K dX9_goOn_20 ?_
  refine G_aload_n rfl 0 rfl K dX9_goOn_21 ?_
  refine G_get (ci := 9) (k := 0) K rfl in_X9 wd_319 rfl dX9_goOn_22 (Nat.le_of_ble_eq_true rfl) (sh_79 _ _) (Nat.le_of_ble_eq_true rfl) rfl ?_
  refine G_aload_n rfl 0 rfl K dX9_goOn_25 ?_
  refine G_get (ci := 9) (k := 2) K rfl in_X9 wd_321 rfl dX9_goOn_26 (Nat.le_of_ble_eq_true rfl) (sh_79 _ _) (Nat.le_of_ble_eq_true rfl) rfl ?_
  refine G_aload_n rfl 0 rfl K dX9_goOn_29 ?_
  refine G_get (ci := 9) (k := 4) K rfl in_X9 wd_323 rfl dX9_goOn_30 (Nat.le_of_ble_eq_true rfl) (sh_79 _ _) (Nat.le_of_ble_eq_true rfl) rfl ?_
  refine G_iload_n rfl 2 rfl K dX9_goOn_33 ?_
  obtain ⟨r2, e2, h⟩ := wpO_bind h
  refine G_callVi (ci := 10) [.int ((mSI M 79 3 r1).1 79 2), .int ((mSI M 79 3 r1).1 79 4), .int x2] [.ref (g.2.1 79)] K dX9_goOn_34 wv_1262 yd_X10_nextOf (Nat.le_of_ble_eq_true rfl) (sh_1 _ _) rfl (by decide) (by decide) rfl rfl (Nat.le_of_ble_eq_true rfl) (K_Well_nextOf l g htr ((mSI M 79 3 r1).1 79 2) ((mSI M 79 3 r1).1 79 4) x2 (mSI M 79 3 r1) _ e2) ?_
  refine G_putI (ci := 9) (k := 4) (ty := .int) K rfl in_X9 tyX9 tyX9_ok nmX9 wd_323 rfl rfl rfl rfl rfl dX9_goOn_37 (Nat.le_of_ble_eq_true rfl) (sh_79 _ _) (sh_79 _ _) (Nat.le_of_ble_eq_true rfl) (Nat.le_of_ble_eq_true rfl) rfl ?_
  cases hPHI _ (wpO_some h)
  exact G_vret K hr dX9_goOn_40 (Nat.le_of_ble_eq_true rfl) (Nat.le_of_ble_eq_true rfl) ⟨rfl, rfl⟩
theorem yd_X9_start : ydN yX9_start 2 := ⟨by decide, by decide, by decide +kernel⟩
theorem yd_X9_goOn : ydN yX9_goOn 2 := ⟨by decide, by decide, by decide +kernel⟩
theorem wv_1252 : wdV "KeptWell$Walk" 37 yX9_start cX9_start 3 none := ⟨wd_1252, wd_1254, ws_X9_start, wd_10, wd_1255⟩
theorem wv_1257 : wdV "KeptWell$Walk" 54 yX10_actOf cX10_actOf 3 (some .int) := ⟨wd_1257, wd_487, wd_488, wd_2, wd_489⟩
theorem wv_1274 : wdV "KeptWell$Walk" 61 yX10_bringsTo cX10_bringsTo 4 (some .int) := ⟨wd_1274, wd_515, wd_516, wd_2, wd_517⟩
theorem wv_1258 : wdV "KeptWell$Walk" 58 yX9_goOn cX9_goOn 3 none := ⟨wd_1258, wd_1260, ws_X9_goOn, wd_10, wd_1261⟩
def on_X9_gotInRounds : Nat := 0xac1db5ffa70104843a00b6051506152a3e606063103d00b606150515031b00b42a1d06363600b61500b42a0f00b42a1b00b42a05363600b61200b42a0900b42a1b00b42a4500a24a00b41b00b42a04150436033e032500b61c1b2a
theorem ob_X9_gotInRounds : OKB cX9_gotInRounds on_X9_gotInRounds 91 := ⟨by decide +kernel, by decide +kernel⟩
theorem dX9_gotInRounds_0 : dc cX9_gotInRounds 0 1 (.aload_n 0) 1 := o_42 ob_X9_gotInRounds rfl rfl rfl
theorem dX9_gotInRounds_1 : dc cX9_gotInRounds 1 2 (.iload_n 1) 1 := o_27 ob_X9_gotInRounds rfl rfl rfl
theorem dX9_gotInRounds_2 : dc cX9_gotInRounds 2 3 (.iload_n 2) 1 := o_28 ob_X9_gotInRounds rfl rfl rfl
theorem dX9_gotInRounds_3 : dc cX9_gotInRounds 3 6 (.invokevirtual 37) 3 := o_182 ob_X9_gotInRounds rfl rfl rfl rfl
theorem dX9_gotInRounds_6 : dc cX9_gotInRounds 6 7 (.iconst 0) 1 := o_3 ob_X9_gotInRounds rfl rfl rfl
theorem dX9_gotInRounds_7 : dc cX9_gotInRounds 7 8 (.istore_n 3) 1 := o_62 ob_X9_gotInRounds rfl rfl rfl
theorem dX9_gotInRounds_8 : dc cX9_gotInRounds 8 9 (.iconst 0) 1 := o_3 ob_X9_gotInRounds rfl rfl rfl
theorem dX9_gotInRounds_9 : dc cX9_gotInRounds 9 11 (.istore 4) 2 := o_54 ob_X9_gotInRounds rfl rfl rfl rfl
theorem dX9_gotInRounds_11 : dc cX9_gotInRounds 11 13 (.iload 4) 2 := o_21 ob_X9_gotInRounds rfl rfl rfl rfl
theorem dX9_gotInRounds_13 : dc cX9_gotInRounds 13 14 (.aload_n 0) 1 := o_42 ob_X9_gotInRounds rfl rfl rfl
theorem dX9_gotInRounds_14 : dc cX9_gotInRounds 14 17 (.getfield 27) 3 := o_180 ob_X9_gotInRounds rfl rfl rfl rfl
theorem dX9_gotInRounds_17 : dc cX9_gotInRounds 17 20 (.getfield 74) 3 := o_180 ob_X9_gotInRounds rfl rfl rfl rfl
theorem dX9_gotInRounds_20 : dc cX9_gotInRounds 20 23 (.if_icmp .ge 69) 3 := o_162 ob_X9_gotInRounds rfl rfl rfl rfl
theorem dX9_gotInRounds_23 : dc cX9_gotInRounds 23 24 (.aload_n 0) 1 := o_42 ob_X9_gotInRounds rfl rfl rfl
theorem dX9_gotInRounds_24 : dc cX9_gotInRounds 24 27 (.getfield 27) 3 := o_180 ob_X9_gotInRounds rfl rfl rfl rfl
theorem dX9_gotInRounds_27 : dc cX9_gotInRounds 27 28 (.aload_n 0) 1 := o_42 ob_X9_gotInRounds rfl rfl rfl
theorem dX9_gotInRounds_28 : dc cX9_gotInRounds 28 31 (.getfield 9) 3 := o_180 ob_X9_gotInRounds rfl rfl rfl rfl
theorem dX9_gotInRounds_31 : dc cX9_gotInRounds 31 32 (.aload_n 0) 1 := o_42 ob_X9_gotInRounds rfl rfl rfl
theorem dX9_gotInRounds_32 : dc cX9_gotInRounds 32 35 (.getfield 18) 3 := o_180 ob_X9_gotInRounds rfl rfl rfl rfl
theorem dX9_gotInRounds_35 : dc cX9_gotInRounds 35 38 (.invokevirtual 54) 3 := o_182 ob_X9_gotInRounds rfl rfl rfl rfl
theorem dX9_gotInRounds_38 : dc cX9_gotInRounds 38 40 (.istore 5) 2 := o_54 ob_X9_gotInRounds rfl rfl rfl rfl
theorem dX9_gotInRounds_40 : dc cX9_gotInRounds 40 41 (.aload_n 0) 1 := o_42 ob_X9_gotInRounds rfl rfl rfl
theorem dX9_gotInRounds_41 : dc cX9_gotInRounds 41 44 (.getfield 27) 3 := o_180 ob_X9_gotInRounds rfl rfl rfl rfl
theorem dX9_gotInRounds_44 : dc cX9_gotInRounds 44 45 (.aload_n 0) 1 := o_42 ob_X9_gotInRounds rfl rfl rfl
theorem dX9_gotInRounds_45 : dc cX9_gotInRounds 45 48 (.getfield 15) 3 := o_180 ob_X9_gotInRounds rfl rfl rfl rfl
theorem dX9_gotInRounds_48 : dc cX9_gotInRounds 48 49 (.aload_n 0) 1 := o_42 ob_X9_gotInRounds rfl rfl rfl
theorem dX9_gotInRounds_49 : dc cX9_gotInRounds 49 52 (.getfield 21) 3 := o_180 ob_X9_gotInRounds rfl rfl rfl rfl
theorem dX9_gotInRounds_52 : dc cX9_gotInRounds 52 55 (.invokevirtual 54) 3 := o_182 ob_X9_gotInRounds rfl rfl rfl rfl
theorem dX9_gotInRounds_55 : dc cX9_gotInRounds 55 57 (.istore 6) 2 := o_54 ob_X9_gotInRounds rfl rfl rfl rfl
theorem dX9_gotInRounds_57 : dc cX9_gotInRounds 57 58 (.iload_n 3) 1 := o_29 ob_X9_gotInRounds rfl rfl rfl
theorem dX9_gotInRounds_58 : dc cX9_gotInRounds 58 59 (.aload_n 0) 1 := o_42 ob_X9_gotInRounds rfl rfl rfl
theorem dX9_gotInRounds_59 : dc cX9_gotInRounds 59 62 (.getfield 27) 3 := o_180 ob_X9_gotInRounds rfl rfl rfl rfl
theorem dX9_gotInRounds_62 : dc cX9_gotInRounds 62 63 (.iconst 0) 1 := o_3 ob_X9_gotInRounds rfl rfl rfl
theorem dX9_gotInRounds_63 : dc cX9_gotInRounds 63 65 (.iload 5) 2 := o_21 ob_X9_gotInRounds rfl rfl rfl rfl
theorem dX9_gotInRounds_65 : dc cX9_gotInRounds 65 67 (.iload 6) 2 := o_21 ob_X9_gotInRounds rfl rfl rfl rfl
theorem dX9_gotInRounds_67 : dc cX9_gotInRounds 67 70 (.invokevirtual 61) 3 := o_182 ob_X9_gotInRounds rfl rfl rfl rfl
theorem dX9_gotInRounds_70 : dc cX9_gotInRounds 70 72 (.bipush 99) 2 := o_16 ob_X9_gotInRounds rfl rfl rfl rfl
theorem dX9_gotInRounds_72 : dc cX9_gotInRounds 72 73 .iadd 1 := o_96 ob_X9_gotInRounds rfl rfl rfl
theorem dX9_gotInRounds_73 : dc cX9_gotInRounds 73 74 .iadd 1 := o_96 ob_X9_gotInRounds rfl rfl rfl
theorem dX9_gotInRounds_74 : dc cX9_gotInRounds 74 75 (.istore_n 3) 1 := o_62 ob_X9_gotInRounds rfl rfl rfl
theorem dX9_gotInRounds_75 : dc cX9_gotInRounds 75 76 (.aload_n 0) 1 := o_42 ob_X9_gotInRounds rfl rfl rfl
theorem dX9_gotInRounds_76 : dc cX9_gotInRounds 76 78 (.iload 6) 2 := o_21 ob_X9_gotInRounds rfl rfl rfl rfl
theorem dX9_gotInRounds_78 : dc cX9_gotInRounds 78 80 (.iload 5) 2 := o_21 ob_X9_gotInRounds rfl rfl rfl rfl
theorem dX9_gotInRounds_80 : dc cX9_gotInRounds 80 83 (.invokevirtual 58) 3 := o_182 ob_X9_gotInRounds rfl rfl rfl rfl
theorem dX9_gotInRounds_83 : dc cX9_gotInRounds 83 86 (.iinc 4 1) 3 := o_132 ob_X9_gotInRounds rfl rfl rfl rfl rfl
theorem dX9_gotInRounds_86 : dc cX9_gotInRounds 86 89 (.goto (-75)) 3 := o_167 ob_X9_gotInRounds rfl rfl rfl rfl
theorem dX9_gotInRounds_89 : dc cX9_gotInRounds 89 90 (.iload_n 3) 1 := o_29 ob_X9_gotInRounds rfl rfl rfl
theorem dX9_gotInRounds_90 : dc cX9_gotInRounds 90 91 .ireturn 1 := o_172 ob_X9_gotInRounds rfl rfl rfl
def F_Walk_gotInRounds_b11 (z : Int32 × Int32 × Mem) : Option ((Int32 × Int32 × Mem) ⊕ ((Int32 × Mem))) :=
  if (z.2.2.1 1 5) ≤ z.2.1 then some (.inr ((z.1, z.2.2))) else (F_Well_actOf (z.2.2.1 79 1) (z.2.2.1 79 3) z.2.2).bind fun r2 => (F_Well_actOf (z.2.2.1 79 2) (z.2.2.1 79 4) z.2.2).bind fun r3 => (F_Well_bringsTo 0 r2 r3 z.2.2).bind fun r4 => (F_Walk_goOn r3 r2 z.2.2).bind fun r5 => some (.inl ((z.1 + (r4 + 99), z.2.1 + 1, r5)))
def F_Walk_gotInRounds_l11 (x3 : Int32) (x4 : Int32) (M : Mem) : Option (Int32 × Mem) :=
  (iter (F_Walk_gotInRounds_b11) FUEL (x3, x4, M)).bind fun r => some ((r.1, r.2))
def F_Walk_gotInRounds (x1 : Int32) (x2 : Int32) (M : Mem) : Option (Int32 × Mem) :=
  (F_Walk_start x1 x2 M).bind fun r1 => F_Walk_gotInRounds_l11 0 0 r1
set_option maxRecDepth 100000 in
set_option maxHeartbeats 4000000 in
theorem K_Walk_gotInRounds (l : Launch) (g : GB) (htr : l.stackTraces = false) (x1 : Int32) (x2 : Int32) (M : Mem) (rr : Int32) (MZ : Mem) (h : F_Walk_gotInRounds x1 x2 M = some (rr, MZ)) : CT l g yX9_gotInRounds (.code yX9_gotInRounds cX9_gotInRounds 7 (some .int) :: wAll) { frames := 3, cells := 0, slots := 0, locals := 66 } [.ref (g.2.1 79), .int x1, .int x2] M (.inl (some (.int rr))) MZ := by
  refine CT.of [(0, .ref (g.2.1 79)), (1, .int x1), (2, .int x2)] (by decide +kernel) (Nat.le_of_ble_eq_true rfl) rfl htr ?_
  intro p e s m args below meth c K hr ht
  skip
  obtain ⟨PHI, hPHI, h⟩ : ∃ PHI : Int32 × Mem → Prop, (∀ a, PHI a → a = (rr, MZ)) ∧ wpO (F_Walk_gotInRounds x1 x2 M) PHI := ⟨fun a => a = (rr, MZ), fun _ h => h, _, h, rfl⟩
  have J11 : ∀ (x3 : Int32) (x4 : Int32) (M : Mem), wpO (F_Walk_gotInRounds_l11 x3 x4 M) PHI → GG p l e { frames := 3, cells := 0, slots := 0, locals := 66 } s m args below meth c g 7 (vx_MQ below (Qn g s.heap.size (.inl (some (.int rr))) MZ) (QX g s.heap.size (.inl (some (.int rr))) MZ) args s 0 0 (AS g s.heap.size)) 0 0 11 [(0, .ref (g.2.1 79)), (3, .int x3), (4, .int x4)] [] M := by
    intro x3 x4 M h
    unfold F_Walk_gotInRounds_l11 at h
    refine loop_C3 (G := fun (x3 : Int32) (x4 : Int32) (M : Mem) => GG p l e { frames := 3, cells := 0, slots := 0, locals := 66 } s m args below meth c g 7 (vx_MQ below (Qn g s.heap.size (.inl (some (.int rr))) MZ) (QX g s.heap.size (.inl (some (.int rr))) MZ) args s 0 0 (AS g s.heap.size)) 0 0 11 [(0, .ref (g.2.1 79)), (3, .int x3), (4, .int x4)] [] M) (body := F_Walk_gotInRounds_b11) ?_ FUEL _ _ _ (wpO_bind h)
    intro P11 E11 X11
    intro z h
    unfold F_Walk_gotInRounds_b11 at h
    refine G_iload 2 rfl K dX9_gotInRounds_11 ?_
    refine G_aload_n rfl 0 rfl K dX9_gotInRounds_13 ?_
    refine G_get (ci := 9) (k := 0) K rfl in_X9 wd_319 rfl dX9_gotInRounds_14 (Nat.le_of_ble_eq_true rfl) (sh_79 _ _) (Nat.le_of_ble_eq_true rfl) rfl ?_
    refine G_get (ci := 10) (k := 5) K rfl in_X10 wd_82 rfl dX9_gotInRounds_17 (Nat.le_of_ble_eq_true rfl) (sh_1 _ _) (Nat.le_of_ble_eq_true rfl) rfl ?_
    refine G_icmp_ge (tgt := 89) K dX9_gotInRounds_20 (by decide) (fun hc => ?_) (fun hc => ?_)
    · have h := wpO_t h hc
      have h := X11 _ (wpO_some h)
      try dsimp only at h
      refine G_iload_n rfl 1 rfl K dX9_gotInRounds_89 ?_
      cases hPHI _ (wpO_some h)
      exact G_iret K hr rfl dX9_gotInRounds_90 (Nat.le_of_ble_eq_true rfl) (Nat.le_of_ble_eq_true rfl) ⟨rfl, rfl⟩
    · have h := wpO_f h hc
      refine G_aload_n rfl 0 rfl K dX9_gotInRounds_23 ?_
      refine G_get (ci := 9) (k := 0) K rfl in_X9 wd_319 rfl dX9_gotInRounds_24 (Nat.le_of_ble_eq_true rfl) (sh_79 _ _) (Nat.le_of_ble_eq_true rfl) rfl ?_
      refine G_aload_n rfl 0 rfl K dX9_gotInRounds_27 ?_
      refine G_get (ci := 9) (k := 1) K rfl in_X9 wd_320 rfl dX9_gotInRounds_28 (Nat.le_of_ble_eq_true rfl) (sh_79 _ _) (Nat.le_of_ble_eq_true rfl) rfl ?_
      refine G_aload_n rfl 0 rfl K dX9_gotInRounds_31 ?_
      refine G_get (ci := 9) (k := 3) K rfl in_X9 wd_322 rfl dX9_gotInRounds_32 (Nat.le_of_ble_eq_true rfl) (sh_79 _ _) (Nat.le_of_ble_eq_true rfl) rfl ?_
      obtain ⟨r2, e2, h⟩ := wpO_bind h
      refine G_callVi (ci := 10) [.int (z.2.2.1 79 1), .int (z.2.2.1 79 3)] [] K dX9_gotInRounds_35 wv_1257 yd_X10_actOf (Nat.le_of_ble_eq_true rfl) (sh_1 _ _) rfl (by decide) (by decide) rfl rfl (Nat.le_of_ble_eq_true rfl) (K_Well_actOf l g htr (z.2.2.1 79 1) (z.2.2.1 79 3) z.2.2 _ e2) ?_
      refine G_istore K dX9_gotInRounds_38 (Nat.le_of_ble_eq_true rfl) rfl ?_
      refine G_aload_n rfl 1 rfl K dX9_gotInRounds_40 ?_
      refine G_get (ci := 9) (k := 0) K rfl in_X9 wd_319 rfl dX9_gotInRounds_41 (Nat.le_of_ble_eq_true rfl) (sh_79 _ _) (Nat.le_of_ble_eq_true rfl) rfl ?_
      refine G_aload_n rfl 1 rfl K dX9_gotInRounds_44 ?_
      refine G_get (ci := 9) (k := 2) K rfl in_X9 wd_321 rfl dX9_gotInRounds_45 (Nat.le_of_ble_eq_true rfl) (sh_79 _ _) (Nat.le_of_ble_eq_true rfl) rfl ?_
      refine G_aload_n rfl 1 rfl K dX9_gotInRounds_48 ?_
      refine G_get (ci := 9) (k := 4) K rfl in_X9 wd_323 rfl dX9_gotInRounds_49 (Nat.le_of_ble_eq_true rfl) (sh_79 _ _) (Nat.le_of_ble_eq_true rfl) rfl ?_
      obtain ⟨r3, e3, h⟩ := wpO_bind h
      refine G_callVi (ci := 10) [.int (z.2.2.1 79 2), .int (z.2.2.1 79 4)] [] K dX9_gotInRounds_52 wv_1257 yd_X10_actOf (Nat.le_of_ble_eq_true rfl) (sh_1 _ _) rfl (by decide) (by decide) rfl rfl (Nat.le_of_ble_eq_true rfl) (K_Well_actOf l g htr (z.2.2.1 79 2) (z.2.2.1 79 4) z.2.2 _ e3) ?_
      refine G_istore K dX9_gotInRounds_55 (Nat.le_of_ble_eq_true rfl) rfl ?_
      refine G_iload_n rfl 3 rfl K dX9_gotInRounds_57 ?_
      refine G_aload_n rfl 2 rfl K dX9_gotInRounds_58 ?_
      refine G_get (ci := 9) (k := 0) K rfl in_X9 wd_319 rfl dX9_gotInRounds_59 (Nat.le_of_ble_eq_true rfl) (sh_79 _ _) (Nat.le_of_ble_eq_true rfl) rfl ?_
      refine G_iconst (v := 0) rfl K dX9_gotInRounds_62 ?_
      refine G_iload 1 rfl K dX9_gotInRounds_63 ?_
      refine G_iload 0 rfl K dX9_gotInRounds_65 ?_
      obtain ⟨r4, e4, h⟩ := wpO_bind h
      refine G_callVi (ci := 10) [.int 0, .int r2, .int r3] [.int z.1] K dX9_gotInRounds_67 wv_1274 yd_X10_bringsTo (Nat.le_of_ble_eq_true rfl) (sh_1 _ _) rfl (by decide) (by decide) rfl rfl (Nat.le_of_ble_eq_true rfl) (K_Well_bringsTo l g htr 0 r2 r3 z.2.2 _ e4) ?_
      refine G_bipush (v := 99) rfl K dX9_gotInRounds_70 ?_
      refine G_iadd K dX9_gotInRounds_72 ?_
      refine G_iadd K dX9_gotInRounds_73 ?_
      refine G_istore_n rfl K dX9_gotInRounds_74 (Nat.le_of_ble_eq_true rfl) rfl ?_
      refine G_aload_n rfl 3 rfl K dX9_gotInRounds_75 ?_
      refine G_iload 1 rfl K dX9_gotInRounds_76 ?_
      refine G_iload 2 rfl K dX9_gotInRounds_78 ?_
      obtain ⟨r5, e5, h⟩ := wpO_bind h
      refine G_callVv (ci := 9) [.int r3, .int r2] [] K dX9_gotInRounds_80 wv_1258 yd_X9_goOn (Nat.le_of_ble_eq_true rfl) (sh_79 _ _) rfl (by decide) (by decide) rfl rfl (Nat.le_of_ble_eq_true rfl) (K_Walk_goOn l g htr r3 r2 z.2.2 _ e5) ?_
      refine G_iinc (v := z.2.1 + 1) 4 rfl K dX9_gotInRounds_83 rfl (Nat.le_of_ble_eq_true rfl) rfl ?_
      refine G_goto (tgt := 11) K dX9_gotInRounds_86 (by decide) ?_
      exact G_lv (lv' := [(0, .ref (g.2.1 79)), (3, .int (z.1 + (r4 + 99))), (4, .int (z.2.1 + 1))]) [4, 1, 0] rfl (E11 (z.1 + (r4 + 99)) (z.2.1 + 1) r5 (wpO_some h))
  unfold F_Walk_gotInRounds at h
  refine G_aload_n rfl 0 rfl K dX9_gotInRounds_0 ?_
  refine G_iload_n rfl 1 rfl K dX9_gotInRounds_1 ?_
  refine G_iload_n rfl 2 rfl K dX9_gotInRounds_2 ?_
  obtain ⟨r1, e1, h⟩ := wpO_bind h
  refine G_callVv (ci := 9) [.int x1, .int x2] [] K dX9_gotInRounds_3 wv_1252 yd_X9_start (Nat.le_of_ble_eq_true rfl) (sh_79 _ _) rfl (by decide) (by decide) rfl rfl (Nat.le_of_ble_eq_true rfl) (K_Walk_start l g htr x1 x2 M _ e1) ?_
  refine G_iconst (v := 0) rfl K dX9_gotInRounds_6 ?_
  refine G_istore_n rfl K dX9_gotInRounds_7 (Nat.le_of_ble_eq_true rfl) rfl ?_
  refine G_iconst (v := 0) rfl K dX9_gotInRounds_8 ?_
  refine G_istore K dX9_gotInRounds_9 (Nat.le_of_ble_eq_true rfl) rfl ?_
  exact G_lv (lv' := [(0, .ref (g.2.1 79)), (3, .int 0), (4, .int 0)]) [2, 1, 0] rfl (J11 0 0 r1 h)
theorem yd_X3_isThere : ydN yX3_isThere 1 := ⟨by decide, by decide, by decide +kernel⟩
theorem yd_X9_gotInRounds : ydN yX9_gotInRounds 2 := ⟨by decide, by decide, by decide +kernel⟩
theorem wv_1338 : wdV "KeptWell$Crowd" 58 yX3_isThere cX3_isThere 2 (some .boolean) := ⟨wd_1338, wd_1340, ws_X3_isThere, wd_11, wd_1341⟩
theorem wv_1343 : wdV "KeptWell$Crowd" 61 yX9_gotInRounds cX9_gotInRounds 7 (some .int) := ⟨wd_1343, wd_1314, wd_1315, wd_10, wd_1316⟩
def on_X3_meetAll : Nat := 0xb1b4ffa7010184c2ffa70102843200b6090400a7853d00b61c1b2600b42a1000991d601c681b08101600b42a3e030400a7040700993a00b61c2a0f00993a00b61b2a3e00a208101c3d034c00a208101b3c03
theorem ob_X3_meetAll : OKB cX3_meetAll on_X3_meetAll 82 := ⟨by decide +kernel, by decide +kernel⟩
theorem dX3_meetAll_0 : dc cX3_meetAll 0 1 (.iconst 0) 1 := o_3 ob_X3_meetAll rfl rfl rfl
theorem dX3_meetAll_1 : dc cX3_meetAll 1 2 (.istore_n 1) 1 := o_60 ob_X3_meetAll rfl rfl rfl
theorem dX3_meetAll_2 : dc cX3_meetAll 2 3 (.iload_n 1) 1 := o_27 ob_X3_meetAll rfl rfl rfl
theorem dX3_meetAll_3 : dc cX3_meetAll 3 5 (.bipush 8) 2 := o_16 ob_X3_meetAll rfl rfl rfl rfl
theorem dX3_meetAll_5 : dc cX3_meetAll 5 8 (.if_icmp .ge 76) 3 := o_162 ob_X3_meetAll rfl rfl rfl rfl
theorem dX3_meetAll_8 : dc cX3_meetAll 8 9 (.iconst 0) 1 := o_3 ob_X3_meetAll rfl rfl rfl
theorem dX3_meetAll_9 : dc cX3_meetAll 9 10 (.istore_n 2) 1 := o_61 ob_X3_meetAll rfl rfl rfl
theorem dX3_meetAll_10 : dc cX3_meetAll 10 11 (.iload_n 2) 1 := o_28 ob_X3_meetAll rfl rfl rfl
theorem dX3_meetAll_11 : dc cX3_meetAll 11 13 (.bipush 8) 2 := o_16 ob_X3_meetAll rfl rfl rfl rfl
theorem dX3_meetAll_13 : dc cX3_meetAll 13 16 (.if_icmp .ge 62) 3 := o_162 ob_X3_meetAll rfl rfl rfl rfl
theorem dX3_meetAll_16 : dc cX3_meetAll 16 17 (.aload_n 0) 1 := o_42 ob_X3_meetAll rfl rfl rfl
theorem dX3_meetAll_17 : dc cX3_meetAll 17 18 (.iload_n 1) 1 := o_27 ob_X3_meetAll rfl rfl rfl
theorem dX3_meetAll_18 : dc cX3_meetAll 18 21 (.invokevirtual 58) 3 := o_182 ob_X3_meetAll rfl rfl rfl rfl
theorem dX3_meetAll_21 : dc cX3_meetAll 21 24 (.ifCond .eq 15) 3 := o_153 ob_X3_meetAll rfl rfl rfl rfl
theorem dX3_meetAll_24 : dc cX3_meetAll 24 25 (.aload_n 0) 1 := o_42 ob_X3_meetAll rfl rfl rfl
theorem dX3_meetAll_25 : dc cX3_meetAll 25 26 (.iload_n 2) 1 := o_28 ob_X3_meetAll rfl rfl rfl
theorem dX3_meetAll_26 : dc cX3_meetAll 26 29 (.invokevirtual 58) 3 := o_182 ob_X3_meetAll rfl rfl rfl rfl
theorem dX3_meetAll_29 : dc cX3_meetAll 29 32 (.ifCond .eq 7) 3 := o_153 ob_X3_meetAll rfl rfl rfl rfl
theorem dX3_meetAll_32 : dc cX3_meetAll 32 33 (.iconst 1) 1 := o_4 ob_X3_meetAll rfl rfl rfl
theorem dX3_meetAll_33 : dc cX3_meetAll 33 36 (.goto 4) 3 := o_167 ob_X3_meetAll rfl rfl rfl rfl
theorem dX3_meetAll_36 : dc cX3_meetAll 36 37 (.iconst 0) 1 := o_3 ob_X3_meetAll rfl rfl rfl
theorem dX3_meetAll_37 : dc cX3_meetAll 37 38 (.istore_n 3) 1 := o_62 ob_X3_meetAll rfl rfl rfl
theorem dX3_meetAll_38 : dc cX3_meetAll 38 39 (.aload_n 0) 1 := o_42 ob_X3_meetAll rfl rfl rfl
theorem dX3_meetAll_39 : dc cX3_meetAll 39 42 (.getfield 22) 3 := o_180 ob_X3_meetAll rfl rfl rfl rfl
theorem dX3_meetAll_42 : dc cX3_meetAll 42 44 (.bipush 8) 2 := o_16 ob_X3_meetAll rfl rfl rfl rfl
theorem dX3_meetAll_44 : dc cX3_meetAll 44 45 (.iload_n 1) 1 := o_27 ob_X3_meetAll rfl rfl rfl
theorem dX3_meetAll_45 : dc cX3_meetAll 45 46 .imul 1 := o_104 ob_X3_meetAll rfl rfl rfl
theorem dX3_meetAll_46 : dc cX3_meetAll 46 47 (.iload_n 2) 1 := o_28 ob_X3_meetAll rfl rfl rfl
theorem dX3_meetAll_47 : dc cX3_meetAll 47 48 .iadd 1 := o_96 ob_X3_meetAll rfl rfl rfl
theorem dX3_meetAll_48 : dc cX3_meetAll 48 49 (.iload_n 3) 1 := o_29 ob_X3_meetAll rfl rfl rfl
theorem dX3_meetAll_49 : dc cX3_meetAll 49 52 (.ifCond .eq 16) 3 := o_153 ob_X3_meetAll rfl rfl rfl rfl
theorem dX3_meetAll_52 : dc cX3_meetAll 52 53 (.aload_n 0) 1 := o_42 ob_X3_meetAll rfl rfl rfl
theorem dX3_meetAll_53 : dc cX3_meetAll 53 56 (.getfield 38) 3 := o_180 ob_X3_meetAll rfl rfl rfl rfl
theorem dX3_meetAll_56 : dc cX3_meetAll 56 57 (.iload_n 1) 1 := o_27 ob_X3_meetAll rfl rfl rfl
theorem dX3_meetAll_57 : dc cX3_meetAll 57 58 (.iload_n 2) 1 := o_28 ob_X3_meetAll rfl rfl rfl
theorem dX3_meetAll_58 : dc cX3_meetAll 58 61 (.invokevirtual 61) 3 := o_182 ob_X3_meetAll rfl rfl rfl rfl
theorem dX3_meetAll_61 : dc cX3_meetAll 61 62 .i2l 1 := o_133 ob_X3_meetAll rfl rfl rfl
theorem dX3_meetAll_62 : dc cX3_meetAll 62 65 (.goto 4) 3 := o_167 ob_X3_meetAll rfl rfl rfl rfl
theorem dX3_meetAll_65 : dc cX3_meetAll 65 66 (.lconst 0) 1 := o_9 ob_X3_meetAll rfl rfl rfl
theorem dX3_meetAll_66 : dc cX3_meetAll 66 69 (.invokevirtual 50) 3 := o_182 ob_X3_meetAll rfl rfl rfl rfl
theorem dX3_meetAll_69 : dc cX3_meetAll 69 72 (.iinc 2 1) 3 := o_132 ob_X3_meetAll rfl rfl rfl rfl rfl
theorem dX3_meetAll_72 : dc cX3_meetAll 72 75 (.goto (-62)) 3 := o_167 ob_X3_meetAll rfl rfl rfl rfl
theorem dX3_meetAll_75 : dc cX3_meetAll 75 78 (.iinc 1 1) 3 := o_132 ob_X3_meetAll rfl rfl rfl rfl rfl
theorem dX3_meetAll_78 : dc cX3_meetAll 78 81 (.goto (-76)) 3 := o_167 ob_X3_meetAll rfl rfl rfl rfl
theorem dX3_meetAll_81 : dc cX3_meetAll 81 82 .return_ 1 := o_177 ob_X3_meetAll rfl rfl rfl
def F_Crowd_meetAll_j66 (x1 : Int32) (x2 : Int32) (s1 : Int32) (s2 : Int64) (M : Mem) : Option ((Int32 × Mem) ⊕ ((Mem))) :=
  (F_Row_put 84 64 s1 s2 M).bind fun r2 => some (.inl ((x2 + 1, r2)))
def F_Crowd_meetAll_j37 (x1 : Int32) (x2 : Int32) (s0 : Bool) (M : Mem) : Option ((Int32 × Mem) ⊕ ((Mem))) :=
  if s0 = true then (F_Walk_gotInRounds x1 x2 M).bind fun r3 => F_Crowd_meetAll_j66 x1 x2 ((8 * x1) + x2) r3.1.toInt64 r3.2 else F_Crowd_meetAll_j66 x1 x2 ((8 * x1) + x2) 0 M
def F_Crowd_meetAll_b10 (x1 : Int32) (z : Int32 × Mem) : Option ((Int32 × Mem) ⊕ ((Mem))) :=
  if 8 ≤ z.1 then some (.inr z.2) else (F_Crowd_isThere x1 z.2).bind fun r1 => if r1 = true then (F_Crowd_isThere z.1 z.2).bind fun r4 => if r4 = true then F_Crowd_meetAll_j37 x1 z.1 true z.2 else F_Crowd_meetAll_j37 x1 z.1 false z.2 else F_Crowd_meetAll_j37 x1 z.1 false z.2
def F_Crowd_meetAll_l10 (x1 : Int32) (x2 : Int32) (M : Mem) : Option ((Int32 × Mem) ⊕ ((Mem))) :=
  (iter (F_Crowd_meetAll_b10 x1) FUEL (x2, M)).bind fun r => some (.inl ((x1 + 1, r)))
def F_Crowd_meetAll_b2 (z : Int32 × Mem) : Option ((Int32 × Mem) ⊕ ((Mem))) :=
  if 8 ≤ z.1 then some (.inr z.2) else F_Crowd_meetAll_l10 z.1 0 z.2
def F_Crowd_meetAll_l2 (x1 : Int32) (M : Mem) : Option (Mem) :=
  (iter (F_Crowd_meetAll_b2) FUEL (x1, M)).bind fun r => some r
def F_Crowd_meetAll (M : Mem) : Option (Mem) :=
  F_Crowd_meetAll_l2 0 M
set_option maxRecDepth 100000 in
set_option maxHeartbeats 4000000 in
theorem K_Crowd_meetAll (l : Launch) (g : GB) (htr : l.stackTraces = false) (M : Mem) (MZ : Mem) (h : F_Crowd_meetAll M = some MZ) : CT l g yX3_meetAll (.code yX3_meetAll cX3_meetAll 4 none :: wAll) { frames := 4, cells := 0, slots := 0, locals := 92 } [.ref (g.2.1 80)] M (.inl none) MZ := by
  refine CT.of [(0, .ref (g.2.1 80))] (by decide +kernel) (Nat.le_of_ble_eq_true rfl) rfl htr ?_
  intro p e s m args below meth c K hr ht
  skip
  obtain ⟨PHI, hPHI, h⟩ : ∃ PHI : Mem → Prop, (∀ a, PHI a → a = MZ) ∧ wpO (F_Crowd_meetAll M) PHI := ⟨fun a => a = MZ, fun _ h => h, _, h, rfl⟩
  have J2 : ∀ (x1 : Int32) (M : Mem), wpO (F_Crowd_meetAll_l2 x1 M) PHI → GG p l e { frames := 4, cells := 0, slots := 0, locals := 92 } s m args below meth c g 4 (vx_MQ below (Qn g s.heap.size (.inl none) MZ) (QX g s.heap.size (.inl none) MZ) args s 0 0 (AS g s.heap.size)) 0 0 2 [(0, .ref (g.2.1 80)), (1, .int x1)] [] M := by
    intro x1 M h
    unfold F_Crowd_meetAll_l2 at h
    refine loop_C2 (G := fun (x1 : Int32) (M : Mem) => GG p l e { frames := 4, cells := 0, slots := 0, locals := 92 } s m args below meth c g 4 (vx_MQ below (Qn g s.heap.size (.inl none) MZ) (QX g s.heap.size (.inl none) MZ) args s 0 0 (AS g s.heap.size)) 0 0 2 [(0, .ref (g.2.1 80)), (1, .int x1)] [] M) (body := F_Crowd_meetAll_b2) ?_ FUEL _ _ (wpO_bind h)
    intro P2 E2 X2
    have J10 : ∀ (x1 : Int32) (x2 : Int32) (M : Mem), wpO (F_Crowd_meetAll_l10 x1 x2 M) P2 → GG p l e { frames := 4, cells := 0, slots := 0, locals := 92 } s m args below meth c g 4 (vx_MQ below (Qn g s.heap.size (.inl none) MZ) (QX g s.heap.size (.inl none) MZ) args s 0 0 (AS g s.heap.size)) 0 0 10 [(0, .ref (g.2.1 80)), (1, .int x1), (2, .int x2)] [] M := by
      intro x1 x2 M h
      unfold F_Crowd_meetAll_l10 at h
      refine loop_C2 (G := fun (x2 : Int32) (M : Mem) => GG p l e { frames := 4, cells := 0, slots := 0, locals := 92 } s m args below meth c g 4 (vx_MQ below (Qn g s.heap.size (.inl none) MZ) (QX g s.heap.size (.inl none) MZ) args s 0 0 (AS g s.heap.size)) 0 0 10 [(0, .ref (g.2.1 80)), (1, .int x1), (2, .int x2)] [] M) (body := F_Crowd_meetAll_b10 x1) ?_ FUEL _ _ (wpO_bind h)
      intro P10 E10 X10
      have J66 : ∀ (x2 : Int32) (s1 : Int32) (s2 : Int64) (M : Mem), wpO (F_Crowd_meetAll_j66 x1 x2 s1 s2 M) P10 → GG p l e { frames := 4, cells := 0, slots := 0, locals := 92 } s m args below meth c g 4 (vx_MQ below (Qn g s.heap.size (.inl none) MZ) (QX g s.heap.size (.inl none) MZ) args s 0 0 (AS g s.heap.size)) 0 0 66 [(0, .ref (g.2.1 80)), (1, .int x1), (2, .int x2)] [.long s2, .int s1, .ref (g.2.1 83)] M := by
        intro x2 s1 s2 M h
        unfold F_Crowd_meetAll_j66 at h
        obtain ⟨r2, e2, h⟩ := wpO_bind h
        refine G_callVv (ci := 7) [.int s1, .long s2] [] K dX3_meetAll_66 wv_1333 yd_X7_put (Nat.le_of_ble_eq_true rfl) (sh_83 _ _) rfl (by decide) (by decide) rfl rfl (Nat.le_of_ble_eq_true rfl) (K_Row_put l g htr 83 84 64 isRow_83 s1 s2 M _ e2) ?_
        refine G_iinc (v := x2 + 1) 2 rfl K dX3_meetAll_69 rfl (Nat.le_of_ble_eq_true rfl) rfl ?_
        refine G_goto (tgt := 10) K dX3_meetAll_72 (by decide) ?_
        exact G_lv (lv' := [(0, .ref (g.2.1 80)), (1, .int x1), (2, .int (x2 + 1))]) [1, 2, 0] rfl (E10 (x2 + 1) r2 (wpO_some h))
      have J37 : ∀ (x2 : Int32) (s0 : Bool) (M : Mem), wpO (F_Crowd_meetAll_j37 x1 x2 s0 M) P10 → GG p l e { frames := 4, cells := 0, slots := 0, locals := 92 } s m args below meth c g 4 (vx_MQ below (Qn g s.heap.size (.inl none) MZ) (QX g s.heap.size (.inl none) MZ) args s 0 0 (AS g s.heap.size)) 0 0 37 [(0, .ref (g.2.1 80)), (1, .int x1), (2, .int x2)] [.int ((b2i s0))] M := by
        intro x2 s0 M h
        unfold F_Crowd_meetAll_j37 at h
        refine G_istore_n rfl K dX3_meetAll_37 (Nat.le_of_ble_eq_true rfl) rfl ?_
        refine G_aload_n rfl 1 rfl K dX3_meetAll_38 ?_
        refine G_get (ci := 3) (k := 3) K rfl in_X3 wd_349 rfl dX3_meetAll_39 (Nat.le_of_ble_eq_true rfl) (sh_80 _ _) (Nat.le_of_ble_eq_true rfl) rfl ?_
        refine G_bipush (v := 8) rfl K dX3_meetAll_42 ?_
        refine G_iload_n rfl 2 rfl K dX3_meetAll_44 ?_
        refine G_imul K dX3_meetAll_45 ?_
        refine G_iload_n rfl 3 rfl K dX3_meetAll_46 ?_
        refine G_iadd K dX3_meetAll_47 ?_
        refine G_iload_n rfl 0 rfl K dX3_meetAll_48 ?_
        refine G_ifb_eq (tgt := 65) K dX3_meetAll_49 (by decide) (fun hc => ?_) (fun hc => ?_)
        · have h := wpO_bf h hc
          refine G_lconst (v := 0) rfl K dX3_meetAll_65 ?_
          exact G_lv (lv' := [(0, .ref (g.2.1 80)), (1, .int x1), (2, .int x2)]) [1, 2, 3] rfl (J66 x2 ((8 * x1) + x2) 0 M h)
        · have h := wpO_t h hc
          refine G_aload_n rfl 1 rfl K dX3_meetAll_52 ?_
          refine G_get (ci := 3) (k := 1) K rfl in_X3 wd_347 rfl dX3_meetAll_53 (Nat.le_of_ble_eq_true rfl) (sh_80 _ _) (Nat.le_of_ble_eq_true rfl) rfl ?_
          refine G_iload_n rfl 2 rfl K dX3_meetAll_56 ?_
          refine G_iload_n rfl 3 rfl K dX3_meetAll_57 ?_
          obtain ⟨r3, e3, h⟩ := wpO_bind h
          refine G_callVi (ci := 9) [.int x1, .int x2] [.int ((8 * x1) + x2), .ref (g.2.1 83)] K dX3_meetAll_58 wv_1343 yd_X9_gotInRounds (Nat.le_of_ble_eq_true rfl) (sh_79 _ _) rfl (by decide) (by decide) rfl rfl (Nat.le_of_ble_eq_true rfl) (K_Walk_gotInRounds l g htr x1 x2 M _ _ e3) ?_
          refine G_i2l K dX3_meetAll_61 ?_
          refine G_goto (tgt := 66) K dX3_meetAll_62 (by decide) ?_
          exact G_lv (lv' := [(0, .ref (g.2.1 80)), (1, .int x1), (2, .int x2)]) [1, 2, 3] rfl (J66 x2 ((8 * x1) + x2) r3.1.toInt64 r3.2 h)
      intro z h
      unfold F_Crowd_meetAll_b10 at h
      refine G_iload_n rfl 2 rfl K dX3_meetAll_10 ?_
      refine G_bipush (v := 8) rfl K dX3_meetAll_11 ?_
      refine G_icmp_ge (tgt := 75) K dX3_meetAll_13 (by decide) (fun hc => ?_) (fun hc => ?_)
      · have h := wpO_t h hc
        have h := X10 _ (wpO_some h)
        try dsimp only at h
        refine G_iinc (v := x1 + 1) 1 rfl K dX3_meetAll_75 rfl (Nat.le_of_ble_eq_true rfl) rfl ?_
        refine G_goto (tgt := 2) K dX3_meetAll_78 (by decide) ?_
        exact G_lv (lv' := [(0, .ref (g.2.1 80)), (1, .int (x1 + 1))]) [1, 0] rfl (E2 (x1 + 1) z.2 (wpO_some h))
      · have h := wpO_f h hc
        refine G_aload_n rfl 0 rfl K dX3_meetAll_16 ?_
        refine G_iload_n rfl 1 rfl K dX3_meetAll_17 ?_
        obtain ⟨r1, e1, h⟩ := wpO_bind h
        refine G_callVi (ci := 3) [.int x1] [] K dX3_meetAll_18 wv_1338 yd_X3_isThere (Nat.le_of_ble_eq_true rfl) (sh_80 _ _) rfl (by decide) (by decide) rfl rfl (Nat.le_of_ble_eq_true rfl) (K_Crowd_isThere l g htr x1 z.2 _ e1) ?_
        refine G_ifb_eq (tgt := 36) K dX3_meetAll_21 (by decide) (fun hc => ?_) (fun hc => ?_)
        · have h := wpO_bf h hc
          refine G_iconst (v := 0) rfl K dX3_meetAll_36 ?_
          exact J37 z.1 false z.2 h
        · have h := wpO_t h hc
          refine G_aload_n rfl 0 rfl K dX3_meetAll_24 ?_
          refine G_iload_n rfl 2 rfl K dX3_meetAll_25 ?_
          obtain ⟨r4, e4, h⟩ := wpO_bind h
          refine G_callVi (ci := 3) [.int z.1] [] K dX3_meetAll_26 wv_1338 yd_X3_isThere (Nat.le_of_ble_eq_true rfl) (sh_80 _ _) rfl (by decide) (by decide) rfl rfl (Nat.le_of_ble_eq_true rfl) (K_Crowd_isThere l g htr z.1 z.2 _ e4) ?_
          refine G_ifb_eq (tgt := 36) K dX3_meetAll_29 (by decide) (fun hc => ?_) (fun hc => ?_)
          · have h := wpO_bf h hc
            refine G_iconst (v := 0) rfl K dX3_meetAll_36 ?_
            exact J37 z.1 false z.2 h
          · have h := wpO_t h hc
            refine G_iconst (v := 1) rfl K dX3_meetAll_32 ?_
            refine G_goto (tgt := 37) K dX3_meetAll_33 (by decide) ?_
            exact J37 z.1 true z.2 h
    intro z h
    unfold F_Crowd_meetAll_b2 at h
    refine G_iload_n rfl 1 rfl K dX3_meetAll_2 ?_
    refine G_bipush (v := 8) rfl K dX3_meetAll_3 ?_
    refine G_icmp_ge (tgt := 81) K dX3_meetAll_5 (by decide) (fun hc => ?_) (fun hc => ?_)
    · have h := wpO_t h hc
      have h := X2 _ (wpO_some h)
      try dsimp only at h
      cases hPHI _ (wpO_some h)
      exact G_vret K hr dX3_meetAll_81 (Nat.le_of_ble_eq_true rfl) (Nat.le_of_ble_eq_true rfl) ⟨rfl, rfl⟩
    · have h := wpO_f h hc
      refine G_iconst (v := 0) rfl K dX3_meetAll_8 ?_
      refine G_istore_n rfl K dX3_meetAll_9 (Nat.le_of_ble_eq_true rfl) rfl ?_
      exact G_lv (lv' := [(0, .ref (g.2.1 80)), (1, .int z.1), (2, .int 0)]) [1, 2, 0] rfl (J10 z.1 0 z.2 h)
  unfold F_Crowd_meetAll at h
  refine G_iconst (v := 0) rfl K dX3_meetAll_0 ?_
  refine G_istore_n rfl K dX3_meetAll_1 (Nat.le_of_ble_eq_true rfl) rfl ?_
  exact G_lv (lv' := [(0, .ref (g.2.1 80)), (1, .int 0)]) [1, 0] rfl (J2 0 M h)
def on_X3_keepsOut : Nat := 0xac030400a7040700a43d00b61c1c2600b42a3d00b61c1b2600b42a1c00a004151d1e00a304151d04363d00b61b1c2600b42a3e3d00b61b1b2600b42a
theorem ob_X3_keepsOut : OKB cX3_keepsOut on_X3_keepsOut 60 := ⟨by decide +kernel, by decide +kernel⟩
theorem dX3_keepsOut_0 : dc cX3_keepsOut 0 1 (.aload_n 0) 1 := o_42 ob_X3_keepsOut rfl rfl rfl
theorem dX3_keepsOut_1 : dc cX3_keepsOut 1 4 (.getfield 38) 3 := o_180 ob_X3_keepsOut rfl rfl rfl rfl
theorem dX3_keepsOut_4 : dc cX3_keepsOut 4 5 (.iload_n 1) 1 := o_27 ob_X3_keepsOut rfl rfl rfl
theorem dX3_keepsOut_5 : dc cX3_keepsOut 5 6 (.iload_n 1) 1 := o_27 ob_X3_keepsOut rfl rfl rfl
theorem dX3_keepsOut_6 : dc cX3_keepsOut 6 9 (.invokevirtual 61) 3 := o_182 ob_X3_keepsOut rfl rfl rfl rfl
theorem dX3_keepsOut_9 : dc cX3_keepsOut 9 10 (.istore_n 3) 1 := o_62 ob_X3_keepsOut rfl rfl rfl
theorem dX3_keepsOut_10 : dc cX3_keepsOut 10 11 (.aload_n 0) 1 := o_42 ob_X3_keepsOut rfl rfl rfl
theorem dX3_keepsOut_11 : dc cX3_keepsOut 11 14 (.getfield 38) 3 := o_180 ob_X3_keepsOut rfl rfl rfl rfl
theorem dX3_keepsOut_14 : dc cX3_keepsOut 14 15 (.iload_n 2) 1 := o_28 ob_X3_keepsOut rfl rfl rfl
theorem dX3_keepsOut_15 : dc cX3_keepsOut 15 16 (.iload_n 1) 1 := o_27 ob_X3_keepsOut rfl rfl rfl
theorem dX3_keepsOut_16 : dc cX3_keepsOut 16 19 (.invokevirtual 61) 3 := o_182 ob_X3_keepsOut rfl rfl rfl rfl
theorem dX3_keepsOut_19 : dc cX3_keepsOut 19 21 (.istore 4) 2 := o_54 ob_X3_keepsOut rfl rfl rfl rfl
theorem dX3_keepsOut_21 : dc cX3_keepsOut 21 22 (.iload_n 3) 1 := o_29 ob_X3_keepsOut rfl rfl rfl
theorem dX3_keepsOut_22 : dc cX3_keepsOut 22 24 (.iload 4) 2 := o_21 ob_X3_keepsOut rfl rfl rfl rfl
theorem dX3_keepsOut_24 : dc cX3_keepsOut 24 27 (.if_icmp .gt 30) 3 := o_163 ob_X3_keepsOut rfl rfl rfl rfl
theorem dX3_keepsOut_27 : dc cX3_keepsOut 27 28 (.iload_n 3) 1 := o_29 ob_X3_keepsOut rfl rfl rfl
theorem dX3_keepsOut_28 : dc cX3_keepsOut 28 30 (.iload 4) 2 := o_21 ob_X3_keepsOut rfl rfl rfl rfl
theorem dX3_keepsOut_30 : dc cX3_keepsOut 30 33 (.if_icmp .ne 28) 3 := o_160 ob_X3_keepsOut rfl rfl rfl rfl
theorem dX3_keepsOut_33 : dc cX3_keepsOut 33 34 (.aload_n 0) 1 := o_42 ob_X3_keepsOut rfl rfl rfl
theorem dX3_keepsOut_34 : dc cX3_keepsOut 34 37 (.getfield 38) 3 := o_180 ob_X3_keepsOut rfl rfl rfl rfl
theorem dX3_keepsOut_37 : dc cX3_keepsOut 37 38 (.iload_n 1) 1 := o_27 ob_X3_keepsOut rfl rfl rfl
theorem dX3_keepsOut_38 : dc cX3_keepsOut 38 39 (.iload_n 2) 1 := o_28 ob_X3_keepsOut rfl rfl rfl
theorem dX3_keepsOut_39 : dc cX3_keepsOut 39 42 (.invokevirtual 61) 3 := o_182 ob_X3_keepsOut rfl rfl rfl rfl
theorem dX3_keepsOut_42 : dc cX3_keepsOut 42 43 (.aload_n 0) 1 := o_42 ob_X3_keepsOut rfl rfl rfl
theorem dX3_keepsOut_43 : dc cX3_keepsOut 43 46 (.getfield 38) 3 := o_180 ob_X3_keepsOut rfl rfl rfl rfl
theorem dX3_keepsOut_46 : dc cX3_keepsOut 46 47 (.iload_n 2) 1 := o_28 ob_X3_keepsOut rfl rfl rfl
theorem dX3_keepsOut_47 : dc cX3_keepsOut 47 48 (.iload_n 2) 1 := o_28 ob_X3_keepsOut rfl rfl rfl
theorem dX3_keepsOut_48 : dc cX3_keepsOut 48 51 (.invokevirtual 61) 3 := o_182 ob_X3_keepsOut rfl rfl rfl rfl
theorem dX3_keepsOut_51 : dc cX3_keepsOut 51 54 (.if_icmp .le 7) 3 := o_164 ob_X3_keepsOut rfl rfl rfl rfl
theorem dX3_keepsOut_54 : dc cX3_keepsOut 54 55 (.iconst 1) 1 := o_4 ob_X3_keepsOut rfl rfl rfl
theorem dX3_keepsOut_55 : dc cX3_keepsOut 55 58 (.goto 4) 3 := o_167 ob_X3_keepsOut rfl rfl rfl rfl
theorem dX3_keepsOut_58 : dc cX3_keepsOut 58 59 (.iconst 0) 1 := o_3 ob_X3_keepsOut rfl rfl rfl
theorem dX3_keepsOut_59 : dc cX3_keepsOut 59 60 .ireturn 1 := o_172 ob_X3_keepsOut rfl rfl rfl
def F_Crowd_keepsOut (x1 : Int32) (x2 : Int32) (M : Mem) : Option (Bool × Mem) :=
  (F_Walk_gotInRounds x1 x1 M).bind fun r1 => (F_Walk_gotInRounds x2 x1 r1.2).bind fun r2 => if r2.1 < r1.1 then some ((true, r2.2)) else if r1.1 = r2.1 then (F_Walk_gotInRounds x1 x2 r2.2).bind fun r3 => (F_Walk_gotInRounds x2 x2 r3.2).bind fun r4 => if r3.1 ≤ r4.1 then some ((false, r4.2)) else some ((true, r4.2)) else some ((false, r2.2))
set_option maxRecDepth 100000 in
set_option maxHeartbeats 4000000 in
theorem K_Crowd_keepsOut (l : Launch) (g : GB) (htr : l.stackTraces = false) (x1 : Int32) (x2 : Int32) (M : Mem) (rr : Bool) (MZ : Mem) (h : F_Crowd_keepsOut x1 x2 M = some (rr, MZ)) : CT l g yX3_keepsOut (.code yX3_keepsOut cX3_keepsOut 5 (some .boolean) :: wAll) { frames := 4, cells := 0, slots := 0, locals := 92 } [.ref (g.2.1 80), .int x1, .int x2] M (.inl (some (.int (b2i rr)))) MZ := by
  refine CT.of [(0, .ref (g.2.1 80)), (1, .int x1), (2, .int x2)] (by decide +kernel) (Nat.le_of_ble_eq_true rfl) rfl htr ?_
  intro p e s m args below meth c K hr ht
  skip
  obtain ⟨PHI, hPHI, h⟩ : ∃ PHI : Bool × Mem → Prop, (∀ a, PHI a → a = (rr, MZ)) ∧ wpO (F_Crowd_keepsOut x1 x2 M) PHI := ⟨fun a => a = (rr, MZ), fun _ h => h, _, h, rfl⟩
  unfold F_Crowd_keepsOut at h
  refine G_aload_n rfl 0 rfl K dX3_keepsOut_0 ?_
  refine G_get (ci := 3) (k := 1) K rfl in_X3 wd_347 rfl dX3_keepsOut_1 (Nat.le_of_ble_eq_true rfl) (sh_80 _ _) (Nat.le_of_ble_eq_true rfl) rfl ?_
  refine G_iload_n rfl 1 rfl K dX3_keepsOut_4 ?_
  refine G_iload_n rfl 1 rfl K dX3_keepsOut_5 ?_
  obtain ⟨r1, e1, h⟩ := wpO_bind h
  refine G_callVi (ci := 9) [.int x1, .int x1] [] K dX3_keepsOut_6 wv_1343 yd_X9_gotInRounds (Nat.le_of_ble_eq_true rfl) (sh_79 _ _) rfl (by decide) (by decide) rfl rfl (Nat.le_of_ble_eq_true rfl) (K_Walk_gotInRounds l g htr x1 x1 M _ _ e1) ?_
  refine G_istore_n rfl K dX3_keepsOut_9 (Nat.le_of_ble_eq_true rfl) rfl ?_
  refine G_aload_n rfl 1 rfl K dX3_keepsOut_10 ?_
  refine G_get (ci := 3) (k := 1) K rfl in_X3 wd_347 rfl dX3_keepsOut_11 (Nat.le_of_ble_eq_true rfl) (sh_80 _ _) (Nat.le_of_ble_eq_true rfl) rfl ?_
  refine G_iload_n rfl 3 rfl K dX3_keepsOut_14 ?_
  refine G_iload_n rfl 2 rfl K dX3_keepsOut_15 ?_
  obtain ⟨r2, e2, h⟩ := wpO_bind h
  refine G_callVi (ci := 9) [.int x2, .int x1] [] K dX3_keepsOut_16 wv_1343 yd_X9_gotInRounds (Nat.le_of_ble_eq_true rfl) (sh_79 _ _) rfl (by decide) (by decide) rfl rfl (Nat.le_of_ble_eq_true rfl) (K_Walk_gotInRounds l g htr x2 x1 r1.2 _ _ e2) ?_
  refine G_istore K dX3_keepsOut_19 (Nat.le_of_ble_eq_true rfl) rfl ?_
  refine G_iload_n rfl 1 rfl K dX3_keepsOut_21 ?_
  refine G_iload 0 rfl K dX3_keepsOut_22 ?_
  refine G_icmp_gt (tgt := 54) K dX3_keepsOut_24 (by decide) (fun hc => ?_) (fun hc => ?_)
  · have h := wpO_t h hc
    refine G_iconst (v := 1) rfl K dX3_keepsOut_54 ?_
    refine G_goto (tgt := 59) K dX3_keepsOut_55 (by decide) ?_
    cases hPHI _ (wpO_some h)
    exact G_iret K hr rfl dX3_keepsOut_59 (Nat.le_of_ble_eq_true rfl) (Nat.le_of_ble_eq_true rfl) ⟨rfl, rfl⟩
  · have h := wpO_f h hc
    refine G_iload_n rfl 1 rfl K dX3_keepsOut_27 ?_
    refine G_iload 0 rfl K dX3_keepsOut_28 ?_
    refine G_icmp_ne (tgt := 58) K dX3_keepsOut_30 (by decide) (fun hc => ?_) (fun hc => ?_)
    · have h := wpO_f h hc
      refine G_iconst (v := 0) rfl K dX3_keepsOut_58 ?_
      cases hPHI _ (wpO_some h)
      exact G_iret K hr rfl dX3_keepsOut_59 (Nat.le_of_ble_eq_true rfl) (Nat.le_of_ble_eq_true rfl) ⟨rfl, rfl⟩
    · have h := wpO_t h hc
      refine G_aload_n rfl 2 rfl K dX3_keepsOut_33 ?_
      refine G_get (ci := 3) (k := 1) K rfl in_X3 wd_347 rfl dX3_keepsOut_34 (Nat.le_of_ble_eq_true rfl) (sh_80 _ _) (Nat.le_of_ble_eq_true rfl) rfl ?_
      refine G_iload_n rfl 3 rfl K dX3_keepsOut_37 ?_
      refine G_iload_n rfl 4 rfl K dX3_keepsOut_38 ?_
      obtain ⟨r3, e3, h⟩ := wpO_bind h
      refine G_callVi (ci := 9) [.int x1, .int x2] [] K dX3_keepsOut_39 wv_1343 yd_X9_gotInRounds (Nat.le_of_ble_eq_true rfl) (sh_79 _ _) rfl (by decide) (by decide) rfl rfl (Nat.le_of_ble_eq_true rfl) (K_Walk_gotInRounds l g htr x1 x2 r2.2 _ _ e3) ?_
      refine G_aload_n rfl 2 rfl K dX3_keepsOut_42 ?_
      refine G_get (ci := 3) (k := 1) K rfl in_X3 wd_347 rfl dX3_keepsOut_43 (Nat.le_of_ble_eq_true rfl) (sh_80 _ _) (Nat.le_of_ble_eq_true rfl) rfl ?_
      refine G_iload_n rfl 4 rfl K dX3_keepsOut_46 ?_
      refine G_iload_n rfl 4 rfl K dX3_keepsOut_47 ?_
      obtain ⟨r4, e4, h⟩ := wpO_bind h
      refine G_callVi (ci := 9) [.int x2, .int x2] [.int r3.1] K dX3_keepsOut_48 wv_1343 yd_X9_gotInRounds (Nat.le_of_ble_eq_true rfl) (sh_79 _ _) rfl (by decide) (by decide) rfl rfl (Nat.le_of_ble_eq_true rfl) (K_Walk_gotInRounds l g htr x2 x2 r3.2 _ _ e4) ?_
      refine G_icmp_le (tgt := 58) K dX3_keepsOut_51 (by decide) (fun hc => ?_) (fun hc => ?_)
      · have h := wpO_t h hc
        refine G_iconst (v := 0) rfl K dX3_keepsOut_58 ?_
        cases hPHI _ (wpO_some h)
        exact G_iret K hr rfl dX3_keepsOut_59 (Nat.le_of_ble_eq_true rfl) (Nat.le_of_ble_eq_true rfl) ⟨rfl, rfl⟩
      · have h := wpO_f h hc
        refine G_iconst (v := 1) rfl K dX3_keepsOut_54 ?_
        refine G_goto (tgt := 59) K dX3_keepsOut_55 (by decide) ?_
        cases hPHI _ (wpO_some h)
        exact G_iret K hr rfl dX3_keepsOut_59 (Nat.le_of_ble_eq_true rfl) (Nat.le_of_ble_eq_true rfl) ⟨rfl, rfl⟩
theorem yd_X3_keepsOut : ydN yX3_keepsOut 2 := ⟨by decide, by decide, by decide +kernel⟩
theorem yd_X3_seeWhoIsThere : ydN yX3_seeWhoIsThere 0 := ⟨by decide, by decide, by decide +kernel⟩
theorem wv_1328 : wdV "KeptWell$Crowd" 67 yX3_seeWhoIsThere cX3_seeWhoIsThere 2 none := ⟨wd_1328, wd_1330, ws_X3_seeWhoIsThere, wd_11, wd_1331⟩
theorem wv_1385 : wdV "KeptWell$Crowd" 70 yX3_keepsOut cX3_keepsOut 5 (some .boolean) := ⟨wd_1385, wd_1387, ws_X3_keepsOut, wd_11, wd_1388⟩
def on_X3_keepsOthersOut : Nat := 0xac04dfffa7010284ac0305009a4600b61c1b2a0e00993a00b61c2a16009f1b1c2100a208101c3d034300b62a
theorem ob_X3_keepsOthersOut : OKB cX3_keepsOthersOut on_X3_keepsOthersOut 44 := ⟨by decide +kernel, by decide +kernel⟩
theorem dX3_keepsOthersOut_0 : dc cX3_keepsOthersOut 0 1 (.aload_n 0) 1 := o_42 ob_X3_keepsOthersOut rfl rfl rfl
theorem dX3_keepsOthersOut_1 : dc cX3_keepsOthersOut 1 4 (.invokevirtual 67) 3 := o_182 ob_X3_keepsOthersOut rfl rfl rfl rfl
theorem dX3_keepsOthersOut_4 : dc cX3_keepsOthersOut 4 5 (.iconst 0) 1 := o_3 ob_X3_keepsOthersOut rfl rfl rfl
theorem dX3_keepsOthersOut_5 : dc cX3_keepsOthersOut 5 6 (.istore_n 2) 1 := o_61 ob_X3_keepsOthersOut rfl rfl rfl
theorem dX3_keepsOthersOut_6 : dc cX3_keepsOthersOut 6 7 (.iload_n 2) 1 := o_28 ob_X3_keepsOthersOut rfl rfl rfl
theorem dX3_keepsOthersOut_7 : dc cX3_keepsOthersOut 7 9 (.bipush 8) 2 := o_16 ob_X3_keepsOthersOut rfl rfl rfl rfl
theorem dX3_keepsOthersOut_9 : dc cX3_keepsOthersOut 9 12 (.if_icmp .ge 33) 3 := o_162 ob_X3_keepsOthersOut rfl rfl rfl rfl
theorem dX3_keepsOthersOut_12 : dc cX3_keepsOthersOut 12 13 (.iload_n 2) 1 := o_28 ob_X3_keepsOthersOut rfl rfl rfl
theorem dX3_keepsOthersOut_13 : dc cX3_keepsOthersOut 13 14 (.iload_n 1) 1 := o_27 ob_X3_keepsOthersOut rfl rfl rfl
theorem dX3_keepsOthersOut_14 : dc cX3_keepsOthersOut 14 17 (.if_icmp .eq 22) 3 := o_159 ob_X3_keepsOthersOut rfl rfl rfl rfl
theorem dX3_keepsOthersOut_17 : dc cX3_keepsOthersOut 17 18 (.aload_n 0) 1 := o_42 ob_X3_keepsOthersOut rfl rfl rfl
theorem dX3_keepsOthersOut_18 : dc cX3_keepsOthersOut 18 19 (.iload_n 2) 1 := o_28 ob_X3_keepsOthersOut rfl rfl rfl
theorem dX3_keepsOthersOut_19 : dc cX3_keepsOthersOut 19 22 (.invokevirtual 58) 3 := o_182 ob_X3_keepsOthersOut rfl rfl rfl rfl
theorem dX3_keepsOthersOut_22 : dc cX3_keepsOthersOut 22 25 (.ifCond .eq 14) 3 := o_153 ob_X3_keepsOthersOut rfl rfl rfl rfl
theorem dX3_keepsOthersOut_25 : dc cX3_keepsOthersOut 25 26 (.aload_n 0) 1 := o_42 ob_X3_keepsOthersOut rfl rfl rfl
theorem dX3_keepsOthersOut_26 : dc cX3_keepsOthersOut 26 27 (.iload_n 1) 1 := o_27 ob_X3_keepsOthersOut rfl rfl rfl
theorem dX3_keepsOthersOut_27 : dc cX3_keepsOthersOut 27 28 (.iload_n 2) 1 := o_28 ob_X3_keepsOthersOut rfl rfl rfl
theorem dX3_keepsOthersOut_28 : dc cX3_keepsOthersOut 28 31 (.invokevirtual 70) 3 := o_182 ob_X3_keepsOthersOut rfl rfl rfl rfl
theorem dX3_keepsOthersOut_31 : dc cX3_keepsOthersOut 31 34 (.ifCond .ne 5) 3 := o_154 ob_X3_keepsOthersOut rfl rfl rfl rfl
theorem dX3_keepsOthersOut_34 : dc cX3_keepsOthersOut 34 35 (.iconst 0) 1 := o_3 ob_X3_keepsOthersOut rfl rfl rfl
theorem dX3_keepsOthersOut_35 : dc cX3_keepsOthersOut 35 36 .ireturn 1 := o_172 ob_X3_keepsOthersOut rfl rfl rfl
theorem dX3_keepsOthersOut_36 : dc cX3_keepsOthersOut 36 39 (.iinc 2 1) 3 := o_132 ob_X3_keepsOthersOut rfl rfl rfl rfl rfl
theorem dX3_keepsOthersOut_39 : dc cX3_keepsOthersOut 39 42 (.goto (-33)) 3 := o_167 ob_X3_keepsOthersOut rfl rfl rfl rfl
theorem dX3_keepsOthersOut_42 : dc cX3_keepsOthersOut 42 43 (.iconst 1) 1 := o_4 ob_X3_keepsOthersOut rfl rfl rfl
theorem dX3_keepsOthersOut_43 : dc cX3_keepsOthersOut 43 44 .ireturn 1 := o_172 ob_X3_keepsOthersOut rfl rfl rfl
def F_Crowd_keepsOthersOut_b6 (x1 : Int32) (z : Int32 × Mem) : Option ((Int32 × Mem) ⊕ ((Mem) ⊕ ((Mem)))) :=
  if 8 ≤ z.1 then some (.inr (.inr z.2)) else if z.1 = x1 then some (.inl ((z.1 + 1, z.2))) else (F_Crowd_isThere z.1 z.2).bind fun r2 => if r2 = true then (F_Crowd_keepsOut x1 z.1 z.2).bind fun r3 => if r3.1 = true then some (.inl ((z.1 + 1, r3.2))) else some (.inr (.inl r3.2)) else some (.inl ((z.1 + 1, z.2)))
def F_Crowd_keepsOthersOut_l6 (x1 : Int32) (x2 : Int32) (M : Mem) : Option (Bool × Mem) :=
  (iter (F_Crowd_keepsOthersOut_b6 x1) FUEL (x2, M)).bind fun q => match q with
    | .inl r => some ((false, r))
    | .inr r => some ((true, r))
def F_Crowd_keepsOthersOut (x1 : Int32) (M : Mem) : Option (Bool × Mem) :=
  (F_Crowd_seeWhoIsThere M).bind fun r1 => F_Crowd_keepsOthersOut_l6 x1 0 r1
set_option maxRecDepth 100000 in
set_option maxHeartbeats 4000000 in
theorem K_Crowd_keepsOthersOut (l : Launch) (g : GB) (htr : l.stackTraces = false) (x1 : Int32) (M : Mem) (rr : Bool) (MZ : Mem) (h : F_Crowd_keepsOthersOut x1 M = some (rr, MZ)) : CT l g yX3_keepsOthersOut (.code yX3_keepsOthersOut cX3_keepsOthersOut 3 (some .boolean) :: wAll) { frames := 5, cells := 0, slots := 0, locals := 116 } [.ref (g.2.1 80), .int x1] M (.inl (some (.int (b2i rr)))) MZ := by
  refine CT.of [(0, .ref (g.2.1 80)), (1, .int x1)] (by decide +kernel) (Nat.le_of_ble_eq_true rfl) rfl htr ?_
  intro p e s m args below meth c K hr ht
  skip
  obtain ⟨PHI, hPHI, h⟩ : ∃ PHI : Bool × Mem → Prop, (∀ a, PHI a → a = (rr, MZ)) ∧ wpO (F_Crowd_keepsOthersOut x1 M) PHI := ⟨fun a => a = (rr, MZ), fun _ h => h, _, h, rfl⟩
  have J6 : ∀ (x1 : Int32) (x2 : Int32) (M : Mem), wpO (F_Crowd_keepsOthersOut_l6 x1 x2 M) PHI → GG p l e { frames := 5, cells := 0, slots := 0, locals := 116 } s m args below meth c g 3 (vx_MQ below (Qn g s.heap.size (.inl (some (.int (b2i rr)))) MZ) (QX g s.heap.size (.inl (some (.int (b2i rr)))) MZ) args s 0 0 (AS g s.heap.size)) 0 0 6 [(0, .ref (g.2.1 80)), (1, .int x1), (2, .int x2)] [] M := by
    intro x1 x2 M h
    unfold F_Crowd_keepsOthersOut_l6 at h
    refine loop_C2 (G := fun (x2 : Int32) (M : Mem) => GG p l e { frames := 5, cells := 0, slots := 0, locals := 116 } s m args below meth c g 3 (vx_MQ below (Qn g s.heap.size (.inl (some (.int (b2i rr)))) MZ) (QX g s.heap.size (.inl (some (.int (b2i rr)))) MZ) args s 0 0 (AS g s.heap.size)) 0 0 6 [(0, .ref (g.2.1 80)), (1, .int x1), (2, .int x2)] [] M) (body := F_Crowd_keepsOthersOut_b6 x1) ?_ FUEL _ _ (wpO_bind h)
    intro P6 E6 X6
    intro z h
    unfold F_Crowd_keepsOthersOut_b6 at h
    refine G_iload_n rfl 2 rfl K dX3_keepsOthersOut_6 ?_
    refine G_bipush (v := 8) rfl K dX3_keepsOthersOut_7 ?_
    refine G_icmp_ge (tgt := 42) K dX3_keepsOthersOut_9 (by decide) (fun hc => ?_) (fun hc => ?_)
    · have h := wpO_t h hc
      have h := X6 _ (wpO_some h)
      try dsimp only at h
      refine G_iconst (v := 1) rfl K dX3_keepsOthersOut_42 ?_
      cases hPHI _ (wpO_some h)
      exact G_iret K hr rfl dX3_keepsOthersOut_43 (Nat.le_of_ble_eq_true rfl) (Nat.le_of_ble_eq_true rfl) ⟨rfl, rfl⟩
    · have h := wpO_f h hc
      refine G_iload_n rfl 2 rfl K dX3_keepsOthersOut_12 ?_
      refine G_iload_n rfl 1 rfl K dX3_keepsOthersOut_13 ?_
      refine G_icmp_eq (tgt := 36) K dX3_keepsOthersOut_14 (by decide) (fun hc => ?_) (fun hc => ?_)
      · have h := wpO_t h hc
        refine G_iinc (v := z.1 + 1) 2 rfl K dX3_keepsOthersOut_36 rfl (Nat.le_of_ble_eq_true rfl) rfl ?_
        refine G_goto (tgt := 6) K dX3_keepsOthersOut_39 (by decide) ?_
        exact G_lv (lv' := [(0, .ref (g.2.1 80)), (1, .int x1), (2, .int (z.1 + 1))]) [1, 2, 0] rfl (E6 (z.1 + 1) z.2 (wpO_some h))
      · have h := wpO_f h hc
        refine G_aload_n rfl 0 rfl K dX3_keepsOthersOut_17 ?_
        refine G_iload_n rfl 2 rfl K dX3_keepsOthersOut_18 ?_
        obtain ⟨r2, e2, h⟩ := wpO_bind h
        refine G_callVi (ci := 3) [.int z.1] [] K dX3_keepsOthersOut_19 wv_1338 yd_X3_isThere (Nat.le_of_ble_eq_true rfl) (sh_80 _ _) rfl (by decide) (by decide) rfl rfl (Nat.le_of_ble_eq_true rfl) (K_Crowd_isThere l g htr z.1 z.2 _ e2) ?_
        refine G_ifb_eq (tgt := 36) K dX3_keepsOthersOut_22 (by decide) (fun hc => ?_) (fun hc => ?_)
        · have h := wpO_bf h hc
          refine G_iinc (v := z.1 + 1) 2 rfl K dX3_keepsOthersOut_36 rfl (Nat.le_of_ble_eq_true rfl) rfl ?_
          refine G_goto (tgt := 6) K dX3_keepsOthersOut_39 (by decide) ?_
          exact G_lv (lv' := [(0, .ref (g.2.1 80)), (1, .int x1), (2, .int (z.1 + 1))]) [1, 2, 0] rfl (E6 (z.1 + 1) z.2 (wpO_some h))
        · have h := wpO_t h hc
          refine G_aload_n rfl 0 rfl K dX3_keepsOthersOut_25 ?_
          refine G_iload_n rfl 1 rfl K dX3_keepsOthersOut_26 ?_
          refine G_iload_n rfl 2 rfl K dX3_keepsOthersOut_27 ?_
          obtain ⟨r3, e3, h⟩ := wpO_bind h
          refine G_callVi (ci := 3) [.int x1, .int z.1] [] K dX3_keepsOthersOut_28 wv_1385 yd_X3_keepsOut (Nat.le_of_ble_eq_true rfl) (sh_80 _ _) rfl (by decide) (by decide) rfl rfl (Nat.le_of_ble_eq_true rfl) (K_Crowd_keepsOut l g htr x1 z.1 z.2 _ _ e3) ?_
          refine G_ifb_ne (tgt := 36) K dX3_keepsOthersOut_31 (by decide) (fun hc => ?_) (fun hc => ?_)
          · have h := wpO_t h hc
            refine G_iinc (v := z.1 + 1) 2 rfl K dX3_keepsOthersOut_36 rfl (Nat.le_of_ble_eq_true rfl) rfl ?_
            refine G_goto (tgt := 6) K dX3_keepsOthersOut_39 (by decide) ?_
            exact G_lv (lv' := [(0, .ref (g.2.1 80)), (1, .int x1), (2, .int (z.1 + 1))]) [1, 2, 0] rfl (E6 (z.1 + 1) r3.2 (wpO_some h))
          · have h := wpO_bf h hc
            have h := X6 _ (wpO_some h)
            try dsimp only at h
            refine G_iconst (v := 0) rfl K dX3_keepsOthersOut_34 ?_
            cases hPHI _ (wpO_some h)
            exact G_iret K hr rfl dX3_keepsOthersOut_35 (Nat.le_of_ble_eq_true rfl) (Nat.le_of_ble_eq_true rfl) ⟨rfl, rfl⟩
  unfold F_Crowd_keepsOthersOut at h
  refine G_aload_n rfl 0 rfl K dX3_keepsOthersOut_0 ?_
  obtain ⟨r1, e1, h⟩ := wpO_bind h
  refine G_callVv (ci := 3) [] [] K dX3_keepsOthersOut_1 wv_1328 yd_X3_seeWhoIsThere (Nat.le_of_ble_eq_true rfl) (sh_80 _ _) rfl (by decide) (by decide) rfl rfl (Nat.le_of_ble_eq_true rfl) (K_Crowd_seeWhoIsThere l g htr  M _ e1) ?_
  refine G_iconst (v := 0) rfl K dX3_keepsOthersOut_4 ?_
  refine G_istore_n rfl K dX3_keepsOthersOut_5 (Nat.le_of_ble_eq_true rfl) rfl ?_
  exact G_lv (lv' := [(0, .ref (g.2.1 80)), (1, .int x1), (2, .int 0)]) [1, 2, 0] rfl (J6 x1 0 r1 h)
def on_X3_fitOf : Nat := 0xad20d8ffa70104844161693600b604155100b42200b42a3600b6600415681b08101600b42a202700a2081004150436034109
theorem ob_X3_fitOf : OKB cX3_fitOf on_X3_fitOf 50 := ⟨by decide +kernel, by decide +kernel⟩
theorem dX3_fitOf_0 : dc cX3_fitOf 0 1 (.lconst 0) 1 := o_9 ob_X3_fitOf rfl rfl rfl
theorem dX3_fitOf_1 : dc cX3_fitOf 1 2 (.lstore_n 2) 1 := o_65 ob_X3_fitOf rfl rfl rfl
theorem dX3_fitOf_2 : dc cX3_fitOf 2 3 (.iconst 0) 1 := o_3 ob_X3_fitOf rfl rfl rfl
theorem dX3_fitOf_3 : dc cX3_fitOf 3 5 (.istore 4) 2 := o_54 ob_X3_fitOf rfl rfl rfl rfl
theorem dX3_fitOf_5 : dc cX3_fitOf 5 7 (.iload 4) 2 := o_21 ob_X3_fitOf rfl rfl rfl rfl
theorem dX3_fitOf_7 : dc cX3_fitOf 7 9 (.bipush 8) 2 := o_16 ob_X3_fitOf rfl rfl rfl rfl
theorem dX3_fitOf_9 : dc cX3_fitOf 9 12 (.if_icmp .ge 39) 3 := o_162 ob_X3_fitOf rfl rfl rfl rfl
theorem dX3_fitOf_12 : dc cX3_fitOf 12 13 (.lload_n 2) 1 := o_32 ob_X3_fitOf rfl rfl rfl
theorem dX3_fitOf_13 : dc cX3_fitOf 13 14 (.aload_n 0) 1 := o_42 ob_X3_fitOf rfl rfl rfl
theorem dX3_fitOf_14 : dc cX3_fitOf 14 17 (.getfield 22) 3 := o_180 ob_X3_fitOf rfl rfl rfl rfl
theorem dX3_fitOf_17 : dc cX3_fitOf 17 19 (.bipush 8) 2 := o_16 ob_X3_fitOf rfl rfl rfl rfl
theorem dX3_fitOf_19 : dc cX3_fitOf 19 20 (.iload_n 1) 1 := o_27 ob_X3_fitOf rfl rfl rfl
theorem dX3_fitOf_20 : dc cX3_fitOf 20 21 .imul 1 := o_104 ob_X3_fitOf rfl rfl rfl
theorem dX3_fitOf_21 : dc cX3_fitOf 21 23 (.iload 4) 2 := o_21 ob_X3_fitOf rfl rfl rfl rfl
theorem dX3_fitOf_23 : dc cX3_fitOf 23 24 .iadd 1 := o_96 ob_X3_fitOf rfl rfl rfl
theorem dX3_fitOf_24 : dc cX3_fitOf 24 27 (.invokevirtual 54) 3 := o_182 ob_X3_fitOf rfl rfl rfl rfl
theorem dX3_fitOf_27 : dc cX3_fitOf 27 28 (.aload_n 0) 1 := o_42 ob_X3_fitOf rfl rfl rfl
theorem dX3_fitOf_28 : dc cX3_fitOf 28 31 (.getfield 34) 3 := o_180 ob_X3_fitOf rfl rfl rfl rfl
theorem dX3_fitOf_31 : dc cX3_fitOf 31 34 (.getfield 81) 3 := o_180 ob_X3_fitOf rfl rfl rfl rfl
theorem dX3_fitOf_34 : dc cX3_fitOf 34 36 (.iload 4) 2 := o_21 ob_X3_fitOf rfl rfl rfl rfl
theorem dX3_fitOf_36 : dc cX3_fitOf 36 39 (.invokevirtual 54) 3 := o_182 ob_X3_fitOf rfl rfl rfl rfl
theorem dX3_fitOf_39 : dc cX3_fitOf 39 40 .lmul 1 := o_105 ob_X3_fitOf rfl rfl rfl
theorem dX3_fitOf_40 : dc cX3_fitOf 40 41 .ladd 1 := o_97 ob_X3_fitOf rfl rfl rfl
theorem dX3_fitOf_41 : dc cX3_fitOf 41 42 (.lstore_n 2) 1 := o_65 ob_X3_fitOf rfl rfl rfl
theorem dX3_fitOf_42 : dc cX3_fitOf 42 45 (.iinc 4 1) 3 := o_132 ob_X3_fitOf rfl rfl rfl rfl rfl
theorem dX3_fitOf_45 : dc cX3_fitOf 45 48 (.goto (-40)) 3 := o_167 ob_X3_fitOf rfl rfl rfl rfl
theorem dX3_fitOf_48 : dc cX3_fitOf 48 49 (.lload_n 2) 1 := o_32 ob_X3_fitOf rfl rfl rfl
theorem dX3_fitOf_49 : dc cX3_fitOf 49 50 .lreturn 1 := o_173 ob_X3_fitOf rfl rfl rfl
def F_Crowd_fitOf_b5 (x1 : Int32) (M : Mem) (z : Int64 × Int32) : Option ((Int64 × Int32) ⊕ ((Int64))) :=
  if 8 ≤ z.2 then some (.inr z.1) else (F_Row_at 84 64 ((8 * x1) + z.2) M).bind fun r1 => (F_Row_at 9 8 z.2 M).bind fun r2 => some (.inl ((z.1 + (r1 * r2), z.2 + 1)))
def F_Crowd_fitOf_l5 (x1 : Int32) (x2 : Int64) (x4 : Int32) (M : Mem) : Option (Int64) :=
  (iter (F_Crowd_fitOf_b5 x1 M) FUEL (x2, x4)).bind fun r => some r
def F_Crowd_fitOf (x1 : Int32) (M : Mem) : Option (Int64) :=
  F_Crowd_fitOf_l5 x1 0 0 M
set_option maxRecDepth 100000 in
set_option maxHeartbeats 4000000 in
theorem K_Crowd_fitOf (l : Launch) (g : GB) (htr : l.stackTraces = false) (x1 : Int32) (M : Mem) (rr : Int64) (h : F_Crowd_fitOf x1 M = some rr) : CT l g yX3_fitOf (.code yX3_fitOf cX3_fitOf 5 (some .long) :: wAll) { frames := 1, cells := 0, slots := 0, locals := 21 } [.ref (g.2.1 80), .int x1] M (.inl (some (.long rr))) M := by
  refine CT.of [(0, .ref (g.2.1 80)), (1, .int x1)] (by decide +kernel) (Nat.le_of_ble_eq_true rfl) rfl htr ?_
  intro p e s m args below meth c K hr ht
  skip
  obtain ⟨PHI, hPHI, h⟩ : ∃ PHI : Int64 → Prop, (∀ a, PHI a → a = rr) ∧ wpO (F_Crowd_fitOf x1 M) PHI := ⟨fun a => a = rr, fun _ h => h, _, h, rfl⟩
  have J5 : ∀ (x1 : Int32) (x2 : Int64) (x4 : Int32), wpO (F_Crowd_fitOf_l5 x1 x2 x4 M) PHI → GG p l e { frames := 1, cells := 0, slots := 0, locals := 21 } s m args below meth c g 5 (vx_MQ below (Qn g s.heap.size (.inl (some (.long rr))) M) (QX g s.heap.size (.inl (some (.long rr))) M) args s 0 0 (AS g s.heap.size)) 0 0 5 [(0, .ref (g.2.1 80)), (1, .int x1), (2, .long x2), (4, .int x4)] [] M := by
    intro x1 x2 x4 h
    unfold F_Crowd_fitOf_l5 at h
    refine loop_C2 (G := fun (x2 : Int64) (x4 : Int32) => GG p l e { frames := 1, cells := 0, slots := 0, locals := 21 } s m args below meth c g 5 (vx_MQ below (Qn g s.heap.size (.inl (some (.long rr))) M) (QX g s.heap.size (.inl (some (.long rr))) M) args s 0 0 (AS g s.heap.size)) 0 0 5 [(0, .ref (g.2.1 80)), (1, .int x1), (2, .long x2), (4, .int x4)] [] M) (body := F_Crowd_fitOf_b5 x1 M) ?_ FUEL _ _ (wpO_bind h)
    intro P5 E5 X5
    intro z h
    unfold F_Crowd_fitOf_b5 at h
    refine G_iload 3 rfl K dX3_fitOf_5 ?_
    refine G_bipush (v := 8) rfl K dX3_fitOf_7 ?_
    refine G_icmp_ge (tgt := 48) K dX3_fitOf_9 (by decide) (fun hc => ?_) (fun hc => ?_)
    · have h := wpO_t h hc
      have h := X5 _ (wpO_some h)
      try dsimp only at h
      refine G_lload_n rfl 2 rfl K dX3_fitOf_48 ?_
      cases hPHI _ (wpO_some h)
      exact G_lret K hr dX3_fitOf_49 (Nat.le_of_ble_eq_true rfl) (Nat.le_of_ble_eq_true rfl) ⟨rfl, rfl⟩
    · have h := wpO_f h hc
      refine G_lload_n rfl 2 rfl K dX3_fitOf_12 ?_
      refine G_aload_n rfl 0 rfl K dX3_fitOf_13 ?_
      refine G_get (ci := 3) (k := 3) K rfl in_X3 wd_349 rfl dX3_fitOf_14 (Nat.le_of_ble_eq_true rfl) (sh_80 _ _) (Nat.le_of_ble_eq_true rfl) rfl ?_
      refine G_bipush (v := 8) rfl K dX3_fitOf_17 ?_
      refine G_iload_n rfl 1 rfl K dX3_fitOf_19 ?_
      refine G_imul K dX3_fitOf_20 ?_
      refine G_iload 3 rfl K dX3_fitOf_21 ?_
      refine G_iadd K dX3_fitOf_23 ?_
      obtain ⟨r1, e1, h⟩ := wpO_bind h
      refine G_callVl (ci := 7) [.int ((8 * x1) + z.2)] [.long z.1] K dX3_fitOf_24 wv_1342 yd_X7_at (Nat.le_of_ble_eq_true rfl) (sh_83 _ _) rfl (by decide) (by decide) rfl rfl (Nat.le_of_ble_eq_true rfl) (K_Row_at l g htr 83 84 64 isRow_83 ((8 * x1) + z.2) M _ e1) ?_
      refine G_aload_n rfl 0 rfl K dX3_fitOf_27 ?_
      refine G_get (ci := 3) (k := 0) K rfl in_X3 wd_346 rfl dX3_fitOf_28 (Nat.le_of_ble_eq_true rfl) (sh_80 _ _) (Nat.le_of_ble_eq_true rfl) rfl ?_
      refine G_get (ci := 10) (k := 12) K rfl in_X10 wd_100 rfl dX3_fitOf_31 (Nat.le_of_ble_eq_true rfl) (sh_1 _ _) (Nat.le_of_ble_eq_true rfl) rfl ?_
      refine G_iload 3 rfl K dX3_fitOf_34 ?_
      obtain ⟨r2, e2, h⟩ := wpO_bind h
      refine G_callVl (ci := 7) [.int z.2] [.long r1, .long z.1] K dX3_fitOf_36 wv_1342 yd_X7_at (Nat.le_of_ble_eq_true rfl) (sh_8 _ _) rfl (by decide) (by decide) rfl rfl (Nat.le_of_ble_eq_true rfl) (K_Row_at l g htr 8 9 8 isRow_8 z.2 M _ e2) ?_
      refine G_lmul K dX3_fitOf_39 ?_
      refine G_ladd K dX3_fitOf_40 ?_
      refine G_lstore_n rfl K dX3_fitOf_41 (Nat.le_of_ble_eq_true rfl) rfl ?_
      refine G_iinc (v := z.2 + 1) 3 rfl K dX3_fitOf_42 rfl (Nat.le_of_ble_eq_true rfl) rfl ?_
      refine G_goto (tgt := 5) K dX3_fitOf_45 (by decide) ?_
      exact G_lv (lv' := [(0, .ref (g.2.1 80)), (1, .int x1), (2, .long (z.1 + (r1 * r2))), (4, .int (z.2 + 1))]) [2, 3, 1, 0] rfl (E5 (z.1 + (r1 * r2)) (z.2 + 1) (wpO_some h))
  unfold F_Crowd_fitOf at h
  refine G_lconst (v := 0) rfl K dX3_fitOf_0 ?_
  refine G_lstore_n rfl K dX3_fitOf_1 (Nat.le_of_ble_eq_true rfl) rfl ?_
  refine G_iconst (v := 0) rfl K dX3_fitOf_2 ?_
  refine G_istore K dX3_fitOf_3 (Nat.le_of_ble_eq_true rfl) rfl ?_
  exact G_lv (lv' := [(0, .ref (g.2.1 80)), (1, .int x1), (2, .long 0), (4, .int 0)]) [2, 3, 1, 0] rfl (J5 x1 0 0 h)
def on_X3_findPart : Nat := 0xb13200b67104160a161b1c00b42a3200b6616d04160a16696100146d041608161b1f00b42a0a3761690616716100142069610014710416081608376906166d6100142006373600b61b1900b42ab104009d94090416
theorem ob_X3_findPart : OKB cX3_findPart on_X3_findPart 85 := ⟨by decide +kernel, by decide +kernel⟩
theorem dX3_findPart_0 : dc cX3_findPart 0 2 (.lload 4) 2 := o_22 ob_X3_findPart rfl rfl rfl rfl
theorem dX3_findPart_2 : dc cX3_findPart 2 3 (.lconst 0) 1 := o_9 ob_X3_findPart rfl rfl rfl
theorem dX3_findPart_3 : dc cX3_findPart 3 4 .lcmp 1 := o_148 ob_X3_findPart rfl rfl rfl
theorem dX3_findPart_4 : dc cX3_findPart 4 7 (.ifCond .gt 4) 3 := o_157 ob_X3_findPart rfl rfl rfl rfl
theorem dX3_findPart_7 : dc cX3_findPart 7 8 .return_ 1 := o_177 ob_X3_findPart rfl rfl rfl
theorem dX3_findPart_8 : dc cX3_findPart 8 9 (.aload_n 0) 1 := o_42 ob_X3_findPart rfl rfl rfl
theorem dX3_findPart_9 : dc cX3_findPart 9 12 (.getfield 25) 3 := o_180 ob_X3_findPart rfl rfl rfl rfl
theorem dX3_findPart_12 : dc cX3_findPart 12 13 (.iload_n 1) 1 := o_27 ob_X3_findPart rfl rfl rfl
theorem dX3_findPart_13 : dc cX3_findPart 13 16 (.invokevirtual 54) 3 := o_182 ob_X3_findPart rfl rfl rfl rfl
theorem dX3_findPart_16 : dc cX3_findPart 16 18 (.lstore 6) 2 := o_55 ob_X3_findPart rfl rfl rfl rfl
theorem dX3_findPart_18 : dc cX3_findPart 18 19 (.lload_n 2) 1 := o_32 ob_X3_findPart rfl rfl rfl
theorem dX3_findPart_19 : dc cX3_findPart 19 22 (.ldc2_w 97) 3 := o_20 ob_X3_findPart rfl rfl rfl rfl
theorem dX3_findPart_22 : dc cX3_findPart 22 23 .ldiv 1 := o_109 ob_X3_findPart rfl rfl rfl
theorem dX3_findPart_23 : dc cX3_findPart 23 25 (.lload 6) 2 := o_22 ob_X3_findPart rfl rfl rfl rfl
theorem dX3_findPart_25 : dc cX3_findPart 25 26 .lmul 1 := o_105 ob_X3_findPart rfl rfl rfl
theorem dX3_findPart_26 : dc cX3_findPart 26 28 (.lstore 8) 2 := o_55 ob_X3_findPart rfl rfl rfl rfl
theorem dX3_findPart_28 : dc cX3_findPart 28 30 (.lload 8) 2 := o_22 ob_X3_findPart rfl rfl rfl rfl
theorem dX3_findPart_30 : dc cX3_findPart 30 32 (.lload 4) 2 := o_22 ob_X3_findPart rfl rfl rfl rfl
theorem dX3_findPart_32 : dc cX3_findPart 32 33 .lrem 1 := o_113 ob_X3_findPart rfl rfl rfl
theorem dX3_findPart_33 : dc cX3_findPart 33 36 (.ldc2_w 97) 3 := o_20 ob_X3_findPart rfl rfl rfl rfl
theorem dX3_findPart_36 : dc cX3_findPart 36 37 .lmul 1 := o_105 ob_X3_findPart rfl rfl rfl
theorem dX3_findPart_37 : dc cX3_findPart 37 38 (.lload_n 2) 1 := o_32 ob_X3_findPart rfl rfl rfl
theorem dX3_findPart_38 : dc cX3_findPart 38 41 (.ldc2_w 97) 3 := o_20 ob_X3_findPart rfl rfl rfl rfl
theorem dX3_findPart_41 : dc cX3_findPart 41 42 .lrem 1 := o_113 ob_X3_findPart rfl rfl rfl
theorem dX3_findPart_42 : dc cX3_findPart 42 44 (.lload 6) 2 := o_22 ob_X3_findPart rfl rfl rfl rfl
theorem dX3_findPart_44 : dc cX3_findPart 44 45 .lmul 1 := o_105 ob_X3_findPart rfl rfl rfl
theorem dX3_findPart_45 : dc cX3_findPart 45 46 .ladd 1 := o_97 ob_X3_findPart rfl rfl rfl
theorem dX3_findPart_46 : dc cX3_findPart 46 48 (.lstore 10) 2 := o_55 ob_X3_findPart rfl rfl rfl rfl
theorem dX3_findPart_48 : dc cX3_findPart 48 49 (.aload_n 0) 1 := o_42 ob_X3_findPart rfl rfl rfl
theorem dX3_findPart_49 : dc cX3_findPart 49 52 (.getfield 31) 3 := o_180 ob_X3_findPart rfl rfl rfl rfl
theorem dX3_findPart_52 : dc cX3_findPart 52 53 (.iload_n 1) 1 := o_27 ob_X3_findPart rfl rfl rfl
theorem dX3_findPart_53 : dc cX3_findPart 53 55 (.lload 8) 2 := o_22 ob_X3_findPart rfl rfl rfl rfl
theorem dX3_findPart_55 : dc cX3_findPart 55 57 (.lload 4) 2 := o_22 ob_X3_findPart rfl rfl rfl rfl
theorem dX3_findPart_57 : dc cX3_findPart 57 58 .ldiv 1 := o_109 ob_X3_findPart rfl rfl rfl
theorem dX3_findPart_58 : dc cX3_findPart 58 61 (.ldc2_w 97) 3 := o_20 ob_X3_findPart rfl rfl rfl rfl
theorem dX3_findPart_61 : dc cX3_findPart 61 62 .lmul 1 := o_105 ob_X3_findPart rfl rfl rfl
theorem dX3_findPart_62 : dc cX3_findPart 62 64 (.lload 10) 2 := o_22 ob_X3_findPart rfl rfl rfl rfl
theorem dX3_findPart_64 : dc cX3_findPart 64 66 (.lload 4) 2 := o_22 ob_X3_findPart rfl rfl rfl rfl
theorem dX3_findPart_66 : dc cX3_findPart 66 67 .ldiv 1 := o_109 ob_X3_findPart rfl rfl rfl
theorem dX3_findPart_67 : dc cX3_findPart 67 68 .ladd 1 := o_97 ob_X3_findPart rfl rfl rfl
theorem dX3_findPart_68 : dc cX3_findPart 68 71 (.invokevirtual 50) 3 := o_182 ob_X3_findPart rfl rfl rfl rfl
theorem dX3_findPart_71 : dc cX3_findPart 71 72 (.aload_n 0) 1 := o_42 ob_X3_findPart rfl rfl rfl
theorem dX3_findPart_72 : dc cX3_findPart 72 75 (.getfield 28) 3 := o_180 ob_X3_findPart rfl rfl rfl rfl
theorem dX3_findPart_75 : dc cX3_findPart 75 76 (.iload_n 1) 1 := o_27 ob_X3_findPart rfl rfl rfl
theorem dX3_findPart_76 : dc cX3_findPart 76 78 (.lload 10) 2 := o_22 ob_X3_findPart rfl rfl rfl rfl
theorem dX3_findPart_78 : dc cX3_findPart 78 80 (.lload 4) 2 := o_22 ob_X3_findPart rfl rfl rfl rfl
theorem dX3_findPart_80 : dc cX3_findPart 80 81 .lrem 1 := o_113 ob_X3_findPart rfl rfl rfl
theorem dX3_findPart_81 : dc cX3_findPart 81 84 (.invokevirtual 50) 3 := o_182 ob_X3_findPart rfl rfl rfl rfl
theorem dX3_findPart_84 : dc cX3_findPart 84 85 .return_ 1 := o_177 ob_X3_findPart rfl rfl rfl
def F_Crowd_findPart (x1 : Int32) (x2 : Int64) (x4 : Int64) (M : Mem) : Option (Mem) :=
  if 0 < x4 then (F_Row_at 86 8 x1 M).bind fun r1 => if ¬ ((1024 : Int64)) = 0 then if ¬ x4 = 0 then if ¬ ((1024 : Int64)) = 0 then if ¬ x4 = 0 then if ¬ x4 = 0 then (F_Row_put 90 8 x1 (((((x2 / 1024) * r1) / x4) * 1024) + ((((lrm ((x2 / 1024) * r1) x4) * 1024) + ((lrm x2 1024) * r1)) / x4)) M).bind fun r2 => if ¬ x4 = 0 then (F_Row_put 88 8 x1 (lrm (((lrm ((x2 / 1024) * r1) x4) * 1024) + ((lrm x2 1024) * r1)) x4) r2).bind fun r3 => some r3 else none else none else none else none else none else none else some M
set_option maxRecDepth 100000 in
set_option maxHeartbeats 4000000 in
theorem K_Crowd_findPart (l : Launch) (g : GB) (htr : l.stackTraces = false) (x1 : Int32) (x2 : Int64) (x4 : Int64) (M : Mem) (MZ : Mem) (h : F_Crowd_findPart x1 x2 x4 M = some MZ) : CT l g yX3_findPart (.code yX3_findPart cX3_findPart 12 none :: wAll) { frames := 1, cells := 0, slots := 0, locals := 23 } [.ref (g.2.1 80), .int x1, .long x2, .long x4] M (.inl none) MZ := by
  refine CT.of [(0, .ref (g.2.1 80)), (1, .int x1), (2, .long x2), (4, .long x4)] (by decide +kernel) (Nat.le_of_ble_eq_true rfl) rfl htr ?_
  intro p e s m args below meth c K hr ht
  skip
  obtain ⟨PHI, hPHI, h⟩ : ∃ PHI : Mem → Prop, (∀ a, PHI a → a = MZ) ∧ wpO (F_Crowd_findPart x1 x2 x4 M) PHI := ⟨fun a => a = MZ, fun _ h => h, _, h, rfl⟩
  unfold F_Crowd_findPart at h
  refine G_lload 3 rfl K dX3_findPart_0 ?_
  refine G_lconst (v := 0) rfl K dX3_findPart_2 ?_
  refine G_lcmp_gt (tgt := 8) K dX3_findPart_3 dX3_findPart_4 (by decide) (fun hc => ?_) (fun hc => ?_)
  · have h := wpO_t h hc
    refine G_aload_n rfl 0 rfl K dX3_findPart_8 ?_
    refine G_get (ci := 3) (k := 4) K rfl in_X3 wd_350 rfl dX3_findPart_9 (Nat.le_of_ble_eq_true rfl) (sh_80 _ _) (Nat.le_of_ble_eq_true rfl) rfl ?_
    refine G_iload_n rfl 1 rfl K dX3_findPart_12 ?_
    obtain ⟨r1, e1, h⟩ := wpO_bind h
    refine G_callVl (ci := 7) [.int x1] [] K dX3_findPart_13 wv_1342 yd_X7_at (Nat.le_of_ble_eq_true rfl) (sh_85 _ _) rfl (by decide) (by decide) rfl rfl (Nat.le_of_ble_eq_true rfl) (K_Row_at l g htr 85 86 8 isRow_85 x1 M _ e1) ?_
    refine G_lstore K dX3_findPart_16 (Nat.le_of_ble_eq_true rfl) rfl ?_
    refine G_lload_n rfl 3 rfl K dX3_findPart_18 ?_
    refine G_ldc2 (v := 1024) K dX3_findPart_19 wd_1356 ?_
    obtain ⟨hc, h⟩ := wpO_g h
    refine G_ldiv hc K dX3_findPart_22 ?_
    refine G_lload 0 rfl K dX3_findPart_23 ?_
    refine G_lmul K dX3_findPart_25 ?_
    refine G_lstore K dX3_findPart_26 (Nat.le_of_ble_eq_true rfl) rfl ?_
    refine G_lload 0 rfl K dX3_findPart_28 ?_
    refine G_lload 5 rfl K dX3_findPart_30 ?_
    obtain ⟨hc, h⟩ := wpO_g h
    refine G_lrem hc K dX3_findPart_32 ?_
    refine G_ldc2 (v := 1024) K dX3_findPart_33 wd_1356 ?_
    refine G_lmul K dX3_findPart_36 ?_
    refine G_lload_n rfl 4 rfl K dX3_findPart_37 ?_
    refine G_ldc2 (v := 1024) K dX3_findPart_38 wd_1356 ?_
    obtain ⟨hc, h⟩ := wpO_g h
    refine G_lrem hc K dX3_findPart_41 ?_
    refine G_lload 1 rfl K dX3_findPart_42 ?_
    refine G_lmul K dX3_findPart_44 ?_
    refine G_ladd K dX3_findPart_45 ?_
    refine G_lstore K dX3_findPart_46 (Nat.le_of_ble_eq_true rfl) rfl ?_
    refine G_aload_n rfl 3 rfl K dX3_findPart_48 ?_
    refine G_get (ci := 3) (k := 6) K rfl in_X3 wd_352 rfl dX3_findPart_49 (Nat.le_of_ble_eq_true rfl) (sh_80 _ _) (Nat.le_of_ble_eq_true rfl) rfl ?_
    refine G_iload_n rfl 4 rfl K dX3_findPart_52 ?_
    refine G_lload 1 rfl K dX3_findPart_53 ?_
    refine G_lload 6 rfl K dX3_findPart_55 ?_
    obtain ⟨hc, h⟩ := wpO_g h
    refine G_ldiv hc K dX3_findPart_57 ?_
    refine G_ldc2 (v := 1024) K dX3_findPart_58 wd_1356 ?_
    refine G_lmul K dX3_findPart_61 ?_
    refine G_lload 0 rfl K dX3_findPart_62 ?_
    refine G_lload 6 rfl K dX3_findPart_64 ?_
    obtain ⟨hc, h⟩ := wpO_g h
    refine G_ldiv hc K dX3_findPart_66 ?_
    refine G_ladd K dX3_findPart_67 ?_
    obtain ⟨r2, e2, h⟩ := wpO_bind h
    refine G_callVv (ci := 7) [.int x1, .long (((((x2 / 1024) * r1) / x4) * 1024) + ((((lrm ((x2 / 1024) * r1) x4) * 1024) + ((lrm x2 1024) * r1)) / x4))] [] K dX3_findPart_68 wv_1333 yd_X7_put (Nat.le_of_ble_eq_true rfl) (sh_89 _ _) rfl (by decide) (by decide) rfl rfl (Nat.le_of_ble_eq_true rfl) (K_Row_put l g htr 89 90 8 isRow_89 x1 (((((x2 / 1024) * r1) / x4) * 1024) + ((((lrm ((x2 / 1024) * r1) x4) * 1024) + ((lrm x2 1024) * r1)) / x4)) M _ e2) ?_
    refine G_aload_n rfl 3 rfl K dX3_findPart_71 ?_
    refine G_get (ci := 3) (k := 5) K rfl in_X3 wd_351 rfl dX3_findPart_72 (Nat.le_of_ble_eq_true rfl) (sh_80 _ _) (Nat.le_of_ble_eq_true rfl) rfl ?_
    refine G_iload_n rfl 4 rfl K dX3_findPart_75 ?_
    refine G_lload 0 rfl K dX3_findPart_76 ?_
    refine G_lload 6 rfl K dX3_findPart_78 ?_
    obtain ⟨hc, h⟩ := wpO_g h
    refine G_lrem hc K dX3_findPart_80 ?_
    obtain ⟨r3, e3, h⟩ := wpO_bind h
    refine G_callVv (ci := 7) [.int x1, .long (lrm (((lrm ((x2 / 1024) * r1) x4) * 1024) + ((lrm x2 1024) * r1)) x4)] [] K dX3_findPart_81 wv_1333 yd_X7_put (Nat.le_of_ble_eq_true rfl) (sh_87 _ _) rfl (by decide) (by decide) rfl rfl (Nat.le_of_ble_eq_true rfl) (K_Row_put l g htr 87 88 8 isRow_87 x1 (lrm (((lrm ((x2 / 1024) * r1) x4) * 1024) + ((lrm x2 1024) * r1)) x4) r2 _ e3) ?_
    cases hPHI _ (wpO_some h)
    exact G_vret K hr dX3_findPart_84 (Nat.le_of_ble_eq_true rfl) (Nat.le_of_ble_eq_true rfl) ⟨rfl, rfl⟩
  · have h := wpO_f h hc
    cases hPHI _ (wpO_some h)
    exact G_vret K hr dX3_findPart_7 (Nat.le_of_ble_eq_true rfl) (Nat.le_of_ble_eq_true rfl) ⟨rfl, rfl⟩
theorem wv_1361 : wdV "KeptWell$Crowd" 99 yX7_add cX7_add 4 none := ⟨wd_1361, wd_1094, wd_1095, wd_3, wd_1096⟩
def on_X3_giveToGreatestRest : Nat := 0xb13200b66600141b1c00b42a6300b60a1b1f00b42ae1ffa70102843c1c05009e943600b61b1c00b42a3600b61c1c00b42a1f00a208101c3d043c03
theorem ob_X3_giveToGreatestRest : OKB cX3_giveToGreatestRest on_X3_giveToGreatestRest 59 := ⟨by decide +kernel, by decide +kernel⟩
theorem dX3_giveToGreatestRest_0 : dc cX3_giveToGreatestRest 0 1 (.iconst 0) 1 := o_3 ob_X3_giveToGreatestRest rfl rfl rfl
theorem dX3_giveToGreatestRest_1 : dc cX3_giveToGreatestRest 1 2 (.istore_n 1) 1 := o_60 ob_X3_giveToGreatestRest rfl rfl rfl
theorem dX3_giveToGreatestRest_2 : dc cX3_giveToGreatestRest 2 3 (.iconst 1) 1 := o_4 ob_X3_giveToGreatestRest rfl rfl rfl
theorem dX3_giveToGreatestRest_3 : dc cX3_giveToGreatestRest 3 4 (.istore_n 2) 1 := o_61 ob_X3_giveToGreatestRest rfl rfl rfl
theorem dX3_giveToGreatestRest_4 : dc cX3_giveToGreatestRest 4 5 (.iload_n 2) 1 := o_28 ob_X3_giveToGreatestRest rfl rfl rfl
theorem dX3_giveToGreatestRest_5 : dc cX3_giveToGreatestRest 5 7 (.bipush 8) 2 := o_16 ob_X3_giveToGreatestRest rfl rfl rfl rfl
theorem dX3_giveToGreatestRest_7 : dc cX3_giveToGreatestRest 7 10 (.if_icmp .ge 31) 3 := o_162 ob_X3_giveToGreatestRest rfl rfl rfl rfl
theorem dX3_giveToGreatestRest_10 : dc cX3_giveToGreatestRest 10 11 (.aload_n 0) 1 := o_42 ob_X3_giveToGreatestRest rfl rfl rfl
theorem dX3_giveToGreatestRest_11 : dc cX3_giveToGreatestRest 11 14 (.getfield 28) 3 := o_180 ob_X3_giveToGreatestRest rfl rfl rfl rfl
theorem dX3_giveToGreatestRest_14 : dc cX3_giveToGreatestRest 14 15 (.iload_n 2) 1 := o_28 ob_X3_giveToGreatestRest rfl rfl rfl
theorem dX3_giveToGreatestRest_15 : dc cX3_giveToGreatestRest 15 18 (.invokevirtual 54) 3 := o_182 ob_X3_giveToGreatestRest rfl rfl rfl rfl
theorem dX3_giveToGreatestRest_18 : dc cX3_giveToGreatestRest 18 19 (.aload_n 0) 1 := o_42 ob_X3_giveToGreatestRest rfl rfl rfl
theorem dX3_giveToGreatestRest_19 : dc cX3_giveToGreatestRest 19 22 (.getfield 28) 3 := o_180 ob_X3_giveToGreatestRest rfl rfl rfl rfl
theorem dX3_giveToGreatestRest_22 : dc cX3_giveToGreatestRest 22 23 (.iload_n 1) 1 := o_27 ob_X3_giveToGreatestRest rfl rfl rfl
theorem dX3_giveToGreatestRest_23 : dc cX3_giveToGreatestRest 23 26 (.invokevirtual 54) 3 := o_182 ob_X3_giveToGreatestRest rfl rfl rfl rfl
theorem dX3_giveToGreatestRest_26 : dc cX3_giveToGreatestRest 26 27 .lcmp 1 := o_148 ob_X3_giveToGreatestRest rfl rfl rfl
theorem dX3_giveToGreatestRest_27 : dc cX3_giveToGreatestRest 27 30 (.ifCond .le 5) 3 := o_158 ob_X3_giveToGreatestRest rfl rfl rfl rfl
theorem dX3_giveToGreatestRest_30 : dc cX3_giveToGreatestRest 30 31 (.iload_n 2) 1 := o_28 ob_X3_giveToGreatestRest rfl rfl rfl
theorem dX3_giveToGreatestRest_31 : dc cX3_giveToGreatestRest 31 32 (.istore_n 1) 1 := o_60 ob_X3_giveToGreatestRest rfl rfl rfl
theorem dX3_giveToGreatestRest_32 : dc cX3_giveToGreatestRest 32 35 (.iinc 2 1) 3 := o_132 ob_X3_giveToGreatestRest rfl rfl rfl rfl rfl
theorem dX3_giveToGreatestRest_35 : dc cX3_giveToGreatestRest 35 38 (.goto (-31)) 3 := o_167 ob_X3_giveToGreatestRest rfl rfl rfl rfl
theorem dX3_giveToGreatestRest_38 : dc cX3_giveToGreatestRest 38 39 (.aload_n 0) 1 := o_42 ob_X3_giveToGreatestRest rfl rfl rfl
theorem dX3_giveToGreatestRest_39 : dc cX3_giveToGreatestRest 39 42 (.getfield 31) 3 := o_180 ob_X3_giveToGreatestRest rfl rfl rfl rfl
theorem dX3_giveToGreatestRest_42 : dc cX3_giveToGreatestRest 42 43 (.iload_n 1) 1 := o_27 ob_X3_giveToGreatestRest rfl rfl rfl
theorem dX3_giveToGreatestRest_43 : dc cX3_giveToGreatestRest 43 44 (.lconst 1) 1 := o_10 ob_X3_giveToGreatestRest rfl rfl rfl
theorem dX3_giveToGreatestRest_44 : dc cX3_giveToGreatestRest 44 47 (.invokevirtual 99) 3 := o_182 ob_X3_giveToGreatestRest rfl rfl rfl rfl
theorem dX3_giveToGreatestRest_47 : dc cX3_giveToGreatestRest 47 48 (.aload_n 0) 1 := o_42 ob_X3_giveToGreatestRest rfl rfl rfl
theorem dX3_giveToGreatestRest_48 : dc cX3_giveToGreatestRest 48 51 (.getfield 28) 3 := o_180 ob_X3_giveToGreatestRest rfl rfl rfl rfl
theorem dX3_giveToGreatestRest_51 : dc cX3_giveToGreatestRest 51 52 (.iload_n 1) 1 := o_27 ob_X3_giveToGreatestRest rfl rfl rfl
theorem dX3_giveToGreatestRest_52 : dc cX3_giveToGreatestRest 52 55 (.ldc2_w 102) 3 := o_20 ob_X3_giveToGreatestRest rfl rfl rfl rfl
theorem dX3_giveToGreatestRest_55 : dc cX3_giveToGreatestRest 55 58 (.invokevirtual 50) 3 := o_182 ob_X3_giveToGreatestRest rfl rfl rfl rfl
theorem dX3_giveToGreatestRest_58 : dc cX3_giveToGreatestRest 58 59 .return_ 1 := o_177 ob_X3_giveToGreatestRest rfl rfl rfl
def F_Crowd_giveToGreatestRest_j38 (x1 : Int32) (M : Mem) : Option (Mem) :=
  (F_Row_add 90 8 x1 1 M).bind fun r1 => (F_Row_put 88 8 x1 ((-1)) r1).bind fun r2 => some r2
def F_Crowd_giveToGreatestRest_b4 (M : Mem) (z : Int32 × Int32) : Option ((Int32 × Int32) ⊕ ((Int32))) :=
  if 8 ≤ z.2 then some (.inr z.1) else (F_Row_at 88 8 z.2 M).bind fun r3 => (F_Row_at 88 8 z.1 M).bind fun r4 => if r3 ≤ r4 then some (.inl ((z.1, z.2 + 1))) else some (.inl ((z.2, z.2 + 1)))
def F_Crowd_giveToGreatestRest_l4 (x1 : Int32) (x2 : Int32) (M : Mem) : Option (Mem) :=
  (iter (F_Crowd_giveToGreatestRest_b4 M) FUEL (x1, x2)).bind fun r => F_Crowd_giveToGreatestRest_j38 r M
def F_Crowd_giveToGreatestRest (M : Mem) : Option (Mem) :=
  F_Crowd_giveToGreatestRest_l4 0 1 M
set_option maxRecDepth 100000 in
set_option maxHeartbeats 4000000 in
theorem K_Crowd_giveToGreatestRest (l : Launch) (g : GB) (htr : l.stackTraces = false) (M : Mem) (MZ : Mem) (h : F_Crowd_giveToGreatestRest M = some MZ) : CT l g yX3_giveToGreatestRest (.code yX3_giveToGreatestRest cX3_giveToGreatestRest 3 none :: wAll) { frames := 2, cells := 0, slots := 0, locals := 46 } [.ref (g.2.1 80)] M (.inl none) MZ := by
  refine CT.of [(0, .ref (g.2.1 80))] (by decide +kernel) (Nat.le_of_ble_eq_true rfl) rfl htr ?_
  intro p e s m args below meth c K hr ht
  skip
  obtain ⟨PHI, hPHI, h⟩ : ∃ PHI : Mem → Prop, (∀ a, PHI a → a = MZ) ∧ wpO (F_Crowd_giveToGreatestRest M) PHI := ⟨fun a => a = MZ, fun _ h => h, _, h, rfl⟩
  have J38 : ∀ (x1 : Int32) (M : Mem), wpO (F_Crowd_giveToGreatestRest_j38 x1 M) PHI → GG p l e { frames := 2, cells := 0, slots := 0, locals := 46 } s m args below meth c g 3 (vx_MQ below (Qn g s.heap.size (.inl none) MZ) (QX g s.heap.size (.inl none) MZ) args s 0 0 (AS g s.heap.size)) 0 0 38 [(0, .ref (g.2.1 80)), (1, .int x1)] [] M := by
    intro x1 M h
    unfold F_Crowd_giveToGreatestRest_j38 at h
    refine G_aload_n rfl 0 rfl K dX3_giveToGreatestRest_38 ?_
    refine G_get (ci := 3) (k := 6) K rfl in_X3 wd_352 rfl dX3_giveToGreatestRest_39 (Nat.le_of_ble_eq_true rfl) (sh_80 _ _) (Nat.le_of_ble_eq_true rfl) rfl ?_
    refine G_iload_n rfl 1 rfl K dX3_giveToGreatestRest_42 ?_
    refine G_lconst (v := 1) rfl K dX3_giveToGreatestRest_43 ?_
    obtain ⟨r1, e1, h⟩ := wpO_bind h
    refine G_callVv (ci := 7) [.int x1, .long 1] [] K dX3_giveToGreatestRest_44 wv_1361 yd_X7_add (Nat.le_of_ble_eq_true rfl) (sh_89 _ _) rfl (by decide) (by decide) rfl rfl (Nat.le_of_ble_eq_true rfl) (K_Row_add l g htr 89 90 8 isRow_89 x1 1 M _ e1) ?_
    refine G_aload_n rfl 0 rfl K dX3_giveToGreatestRest_47 ?_
    refine G_get (ci := 3) (k := 5) K rfl in_X3 wd_351 rfl dX3_giveToGreatestRest_48 (Nat.le_of_ble_eq_true rfl) (sh_80 _ _) (Nat.le_of_ble_eq_true rfl) rfl ?_
    refine G_iload_n rfl 1 rfl K dX3_giveToGreatestRest_51 ?_
    refine G_ldc2 (v := (-1)) K dX3_giveToGreatestRest_52 wd_1362 ?_
    obtain ⟨r2, e2, h⟩ := wpO_bind h
    refine G_callVv (ci := 7) [.int x1, .long ((-1))] [] K dX3_giveToGreatestRest_55 wv_1333 yd_X7_put (Nat.le_of_ble_eq_true rfl) (sh_87 _ _) rfl (by decide) (by decide) rfl rfl (Nat.le_of_ble_eq_true rfl) (K_Row_put l g htr 87 88 8 isRow_87 x1 ((-1)) r1 _ e2) ?_
    cases hPHI _ (wpO_some h)
    exact G_vret K hr dX3_giveToGreatestRest_58 (Nat.le_of_ble_eq_true rfl) (Nat.le_of_ble_eq_true rfl) ⟨rfl, rfl⟩
  have J4 : ∀ (x1 : Int32) (x2 : Int32) (M : Mem), wpO (F_Crowd_giveToGreatestRest_l4 x1 x2 M) PHI → GG p l e { frames := 2, cells := 0, slots := 0, locals := 46 } s m args below meth c g 3 (vx_MQ below (Qn g s.heap.size (.inl none) MZ) (QX g s.heap.size (.inl none) MZ) args s 0 0 (AS g s.heap.size)) 0 0 4 [(0, .ref (g.2.1 80)), (1, .int x1), (2, .int x2)] [] M := by
    intro x1 x2 M h
    unfold F_Crowd_giveToGreatestRest_l4 at h
    refine loop_C2 (G := fun (x1 : Int32) (x2 : Int32) => GG p l e { frames := 2, cells := 0, slots := 0, locals := 46 } s m args below meth c g 3 (vx_MQ below (Qn g s.heap.size (.inl none) MZ) (QX g s.heap.size (.inl none) MZ) args s 0 0 (AS g s.heap.size)) 0 0 4 [(0, .ref (g.2.1 80)), (1, .int x1), (2, .int x2)] [] M) (body := F_Crowd_giveToGreatestRest_b4 M) ?_ FUEL _ _ (wpO_bind h)
    intro P4 E4 X4
    intro z h
    unfold F_Crowd_giveToGreatestRest_b4 at h
    refine G_iload_n rfl 2 rfl K dX3_giveToGreatestRest_4 ?_
    refine G_bipush (v := 8) rfl K dX3_giveToGreatestRest_5 ?_
    refine G_icmp_ge (tgt := 38) K dX3_giveToGreatestRest_7 (by decide) (fun hc => ?_) (fun hc => ?_)
    · have h := wpO_t h hc
      have h := X4 _ (wpO_some h)
      try dsimp only at h
      exact G_lv (lv' := [(0, .ref (g.2.1 80)), (1, .int z.1)]) [0, 1] rfl (J38 z.1 M h)
    · have h := wpO_f h hc
      refine G_aload_n rfl 0 rfl K dX3_giveToGreatestRest_10 ?_
      refine G_get (ci := 3) (k := 5) K rfl in_X3 wd_351 rfl dX3_giveToGreatestRest_11 (Nat.le_of_ble_eq_true rfl) (sh_80 _ _) (Nat.le_of_ble_eq_true rfl) rfl ?_
      refine G_iload_n rfl 2 rfl K dX3_giveToGreatestRest_14 ?_
      obtain ⟨r3, e3, h⟩ := wpO_bind h
      refine G_callVl (ci := 7) [.int z.2] [] K dX3_giveToGreatestRest_15 wv_1342 yd_X7_at (Nat.le_of_ble_eq_true rfl) (sh_87 _ _) rfl (by decide) (by decide) rfl rfl (Nat.le_of_ble_eq_true rfl) (K_Row_at l g htr 87 88 8 isRow_87 z.2 M _ e3) ?_
      refine G_aload_n rfl 0 rfl K dX3_giveToGreatestRest_18 ?_
      refine G_get (ci := 3) (k := 5) K rfl in_X3 wd_351 rfl dX3_giveToGreatestRest_19 (Nat.le_of_ble_eq_true rfl) (sh_80 _ _) (Nat.le_of_ble_eq_true rfl) rfl ?_
      refine G_iload_n rfl 1 rfl K dX3_giveToGreatestRest_22 ?_
      obtain ⟨r4, e4, h⟩ := wpO_bind h
      refine G_callVl (ci := 7) [.int z.1] [.long r3] K dX3_giveToGreatestRest_23 wv_1342 yd_X7_at (Nat.le_of_ble_eq_true rfl) (sh_87 _ _) rfl (by decide) (by decide) rfl rfl (Nat.le_of_ble_eq_true rfl) (K_Row_at l g htr 87 88 8 isRow_87 z.1 M _ e4) ?_
      refine G_lcmp_le (tgt := 32) K dX3_giveToGreatestRest_26 dX3_giveToGreatestRest_27 (by decide) (fun hc => ?_) (fun hc => ?_)
      · have h := wpO_t h hc
        refine G_iinc (v := z.2 + 1) 2 rfl K dX3_giveToGreatestRest_32 rfl (Nat.le_of_ble_eq_true rfl) rfl ?_
        refine G_goto (tgt := 4) K dX3_giveToGreatestRest_35 (by decide) ?_
        exact G_lv (lv' := [(0, .ref (g.2.1 80)), (1, .int z.1), (2, .int (z.2 + 1))]) [1, 2, 0] rfl (E4 z.1 (z.2 + 1) (wpO_some h))
      · have h := wpO_f h hc
        refine G_iload_n rfl 2 rfl K dX3_giveToGreatestRest_30 ?_
        refine G_istore_n rfl K dX3_giveToGreatestRest_31 (Nat.le_of_ble_eq_true rfl) rfl ?_
        refine G_iinc (v := z.2 + 1) 2 rfl K dX3_giveToGreatestRest_32 rfl (Nat.le_of_ble_eq_true rfl) rfl ?_
        refine G_goto (tgt := 4) K dX3_giveToGreatestRest_35 (by decide) ?_
        exact G_lv (lv' := [(0, .ref (g.2.1 80)), (1, .int z.2), (2, .int (z.2 + 1))]) [2, 1, 0] rfl (E4 z.2 (z.2 + 1) (wpO_some h))
  unfold F_Crowd_giveToGreatestRest at h
  refine G_iconst (v := 0) rfl K dX3_giveToGreatestRest_0 ?_
  refine G_istore_n rfl K dX3_giveToGreatestRest_1 (Nat.le_of_ble_eq_true rfl) rfl ?_
  refine G_iconst (v := 1) rfl K dX3_giveToGreatestRest_2 ?_
  refine G_istore_n rfl K dX3_giveToGreatestRest_3 (Nat.le_of_ble_eq_true rfl) rfl ?_
  exact G_lv (lv' := [(0, .ref (g.2.1 80)), (1, .int 0), (2, .int 1)]) [2, 1, 0] rfl (J4 0 1 M h)
def on_X3_takeLater : Nat := 0xac1bbbffa70102843200b63600b61c1f00b42a1c5100b42200b42a3c030400a704070099943600b61c5100b42200b42a3600b61c1f00b42a1a009a1b3700993a00b61c2a4500a208101c3d033c03
theorem ob_X3_takeLater : OKB cX3_takeLater on_X3_takeLater 78 := ⟨by decide +kernel, by decide +kernel⟩
theorem dX3_takeLater_0 : dc cX3_takeLater 0 1 (.iconst 0) 1 := o_3 ob_X3_takeLater rfl rfl rfl
theorem dX3_takeLater_1 : dc cX3_takeLater 1 2 (.istore_n 1) 1 := o_60 ob_X3_takeLater rfl rfl rfl
theorem dX3_takeLater_2 : dc cX3_takeLater 2 3 (.iconst 0) 1 := o_3 ob_X3_takeLater rfl rfl rfl
theorem dX3_takeLater_3 : dc cX3_takeLater 3 4 (.istore_n 2) 1 := o_61 ob_X3_takeLater rfl rfl rfl
theorem dX3_takeLater_4 : dc cX3_takeLater 4 5 (.iload_n 2) 1 := o_28 ob_X3_takeLater rfl rfl rfl
theorem dX3_takeLater_5 : dc cX3_takeLater 5 7 (.bipush 8) 2 := o_16 ob_X3_takeLater rfl rfl rfl rfl
theorem dX3_takeLater_7 : dc cX3_takeLater 7 10 (.if_icmp .ge 69) 3 := o_162 ob_X3_takeLater rfl rfl rfl rfl
theorem dX3_takeLater_10 : dc cX3_takeLater 10 11 (.aload_n 0) 1 := o_42 ob_X3_takeLater rfl rfl rfl
theorem dX3_takeLater_11 : dc cX3_takeLater 11 12 (.iload_n 2) 1 := o_28 ob_X3_takeLater rfl rfl rfl
theorem dX3_takeLater_12 : dc cX3_takeLater 12 15 (.invokevirtual 58) 3 := o_182 ob_X3_takeLater rfl rfl rfl rfl
theorem dX3_takeLater_15 : dc cX3_takeLater 15 18 (.ifCond .eq 55) 3 := o_153 ob_X3_takeLater rfl rfl rfl rfl
theorem dX3_takeLater_18 : dc cX3_takeLater 18 19 (.iload_n 1) 1 := o_27 ob_X3_takeLater rfl rfl rfl
theorem dX3_takeLater_19 : dc cX3_takeLater 19 22 (.ifCond .ne 26) 3 := o_154 ob_X3_takeLater rfl rfl rfl rfl
theorem dX3_takeLater_22 : dc cX3_takeLater 22 23 (.aload_n 0) 1 := o_42 ob_X3_takeLater rfl rfl rfl
theorem dX3_takeLater_23 : dc cX3_takeLater 23 26 (.getfield 31) 3 := o_180 ob_X3_takeLater rfl rfl rfl rfl
theorem dX3_takeLater_26 : dc cX3_takeLater 26 27 (.iload_n 2) 1 := o_28 ob_X3_takeLater rfl rfl rfl
theorem dX3_takeLater_27 : dc cX3_takeLater 27 30 (.invokevirtual 54) 3 := o_182 ob_X3_takeLater rfl rfl rfl rfl
theorem dX3_takeLater_30 : dc cX3_takeLater 30 31 (.aload_n 0) 1 := o_42 ob_X3_takeLater rfl rfl rfl
theorem dX3_takeLater_31 : dc cX3_takeLater 31 34 (.getfield 34) 3 := o_180 ob_X3_takeLater rfl rfl rfl rfl
theorem dX3_takeLater_34 : dc cX3_takeLater 34 37 (.getfield 81) 3 := o_180 ob_X3_takeLater rfl rfl rfl rfl
theorem dX3_takeLater_37 : dc cX3_takeLater 37 38 (.iload_n 2) 1 := o_28 ob_X3_takeLater rfl rfl rfl
theorem dX3_takeLater_38 : dc cX3_takeLater 38 41 (.invokevirtual 54) 3 := o_182 ob_X3_takeLater rfl rfl rfl rfl
theorem dX3_takeLater_41 : dc cX3_takeLater 41 42 .lcmp 1 := o_148 ob_X3_takeLater rfl rfl rfl
theorem dX3_takeLater_42 : dc cX3_takeLater 42 45 (.ifCond .eq 7) 3 := o_153 ob_X3_takeLater rfl rfl rfl rfl
theorem dX3_takeLater_45 : dc cX3_takeLater 45 46 (.iconst 1) 1 := o_4 ob_X3_takeLater rfl rfl rfl
theorem dX3_takeLater_46 : dc cX3_takeLater 46 49 (.goto 4) 3 := o_167 ob_X3_takeLater rfl rfl rfl rfl
theorem dX3_takeLater_49 : dc cX3_takeLater 49 50 (.iconst 0) 1 := o_3 ob_X3_takeLater rfl rfl rfl
theorem dX3_takeLater_50 : dc cX3_takeLater 50 51 (.istore_n 1) 1 := o_60 ob_X3_takeLater rfl rfl rfl
theorem dX3_takeLater_51 : dc cX3_takeLater 51 52 (.aload_n 0) 1 := o_42 ob_X3_takeLater rfl rfl rfl
theorem dX3_takeLater_52 : dc cX3_takeLater 52 55 (.getfield 34) 3 := o_180 ob_X3_takeLater rfl rfl rfl rfl
theorem dX3_takeLater_55 : dc cX3_takeLater 55 58 (.getfield 81) 3 := o_180 ob_X3_takeLater rfl rfl rfl rfl
theorem dX3_takeLater_58 : dc cX3_takeLater 58 59 (.iload_n 2) 1 := o_28 ob_X3_takeLater rfl rfl rfl
theorem dX3_takeLater_59 : dc cX3_takeLater 59 60 (.aload_n 0) 1 := o_42 ob_X3_takeLater rfl rfl rfl
theorem dX3_takeLater_60 : dc cX3_takeLater 60 63 (.getfield 31) 3 := o_180 ob_X3_takeLater rfl rfl rfl rfl
theorem dX3_takeLater_63 : dc cX3_takeLater 63 64 (.iload_n 2) 1 := o_28 ob_X3_takeLater rfl rfl rfl
theorem dX3_takeLater_64 : dc cX3_takeLater 64 67 (.invokevirtual 54) 3 := o_182 ob_X3_takeLater rfl rfl rfl rfl
theorem dX3_takeLater_67 : dc cX3_takeLater 67 70 (.invokevirtual 50) 3 := o_182 ob_X3_takeLater rfl rfl rfl rfl
theorem dX3_takeLater_70 : dc cX3_takeLater 70 73 (.iinc 2 1) 3 := o_132 ob_X3_takeLater rfl rfl rfl rfl rfl
theorem dX3_takeLater_73 : dc cX3_takeLater 73 76 (.goto (-69)) 3 := o_167 ob_X3_takeLater rfl rfl rfl rfl
theorem dX3_takeLater_76 : dc cX3_takeLater 76 77 (.iload_n 1) 1 := o_27 ob_X3_takeLater rfl rfl rfl
theorem dX3_takeLater_77 : dc cX3_takeLater 77 78 .ireturn 1 := o_172 ob_X3_takeLater rfl rfl rfl
def F_Crowd_takeLater_j50 (x2 : Int32) (s0 : Bool) (M : Mem) : Option ((Bool × Int32 × Mem) ⊕ ((Bool × Mem))) :=
  (F_Row_at 90 8 x2 M).bind fun r2 => (F_Row_put 9 8 x2 r2 M).bind fun r3 => some (.inl ((s0, x2 + 1, r3)))
def F_Crowd_takeLater_b4 (z : Bool × Int32 × Mem) : Option ((Bool × Int32 × Mem) ⊕ ((Bool × Mem))) :=
  if 8 ≤ z.2.1 then some (.inr ((z.1, z.2.2))) else (F_Crowd_isThere z.2.1 z.2.2).bind fun r1 => if r1 = true then if z.1 = true then F_Crowd_takeLater_j50 z.2.1 true z.2.2 else (F_Row_at 90 8 z.2.1 z.2.2).bind fun r4 => (F_Row_at 9 8 z.2.1 z.2.2).bind fun r5 => if r4 = r5 then F_Crowd_takeLater_j50 z.2.1 false z.2.2 else F_Crowd_takeLater_j50 z.2.1 true z.2.2 else some (.inl ((z.1, z.2.1 + 1, z.2.2)))
def F_Crowd_takeLater_l4 (x1 : Bool) (x2 : Int32) (M : Mem) : Option (Bool × Mem) :=
  (iter (F_Crowd_takeLater_b4) FUEL (x1, x2, M)).bind fun r => some ((r.1, r.2))
def F_Crowd_takeLater (M : Mem) : Option (Bool × Mem) :=
  F_Crowd_takeLater_l4 false 0 M
set_option maxRecDepth 100000 in
set_option maxHeartbeats 4000000 in
theorem K_Crowd_takeLater (l : Launch) (g : GB) (htr : l.stackTraces = false) (M : Mem) (rr : Bool) (MZ : Mem) (h : F_Crowd_takeLater M = some (rr, MZ)) : CT l g yX3_takeLater (.code yX3_takeLater cX3_takeLater 3 (some .boolean) :: wAll) { frames := 2, cells := 0, slots := 0, locals := 42 } [.ref (g.2.1 80)] M (.inl (some (.int (b2i rr)))) MZ := by
  refine CT.of [(0, .ref (g.2.1 80))] (by decide +kernel) (Nat.le_of_ble_eq_true rfl) rfl htr ?_
  intro p e s m args below meth c K hr ht
  skip
  obtain ⟨PHI, hPHI, h⟩ : ∃ PHI : Bool × Mem → Prop, (∀ a, PHI a → a = (rr, MZ)) ∧ wpO (F_Crowd_takeLater M) PHI := ⟨fun a => a = (rr, MZ), fun _ h => h, _, h, rfl⟩
  have J4 : ∀ (x1 : Bool) (x2 : Int32) (M : Mem), wpO (F_Crowd_takeLater_l4 x1 x2 M) PHI → GG p l e { frames := 2, cells := 0, slots := 0, locals := 42 } s m args below meth c g 3 (vx_MQ below (Qn g s.heap.size (.inl (some (.int (b2i rr)))) MZ) (QX g s.heap.size (.inl (some (.int (b2i rr)))) MZ) args s 0 0 (AS g s.heap.size)) 0 0 4 [(0, .ref (g.2.1 80)), (1, .int ((b2i x1))), (2, .int x2)] [] M := by
    intro x1 x2 M h
    unfold F_Crowd_takeLater_l4 at h
    refine loop_C3 (G := fun (x1 : Bool) (x2 : Int32) (M : Mem) => GG p l e { frames := 2, cells := 0, slots := 0, locals := 42 } s m args below meth c g 3 (vx_MQ below (Qn g s.heap.size (.inl (some (.int (b2i rr)))) MZ) (QX g s.heap.size (.inl (some (.int (b2i rr)))) MZ) args s 0 0 (AS g s.heap.size)) 0 0 4 [(0, .ref (g.2.1 80)), (1, .int ((b2i x1))), (2, .int x2)] [] M) (body := F_Crowd_takeLater_b4) ?_ FUEL _ _ _ (wpO_bind h)
    intro P4 E4 X4
    have J50 : ∀ (x2 : Int32) (s0 : Bool) (M : Mem), wpO (F_Crowd_takeLater_j50 x2 s0 M) P4 → GG p l e { frames := 2, cells := 0, slots := 0, locals := 42 } s m args below meth c g 3 (vx_MQ below (Qn g s.heap.size (.inl (some (.int (b2i rr)))) MZ) (QX g s.heap.size (.inl (some (.int (b2i rr)))) MZ) args s 0 0 (AS g s.heap.size)) 0 0 50 [(0, .ref (g.2.1 80)), (2, .int x2)] [.int ((b2i s0))] M := by
      intro x2 s0 M h
      unfold F_Crowd_takeLater_j50 at h
      refine G_istore_n rfl K dX3_takeLater_50 (Nat.le_of_ble_eq_true rfl) rfl ?_
      refine G_aload_n rfl 1 rfl K dX3_takeLater_51 ?_
      refine G_get (ci := 3) (k := 0) K rfl in_X3 wd_346 rfl dX3_takeLater_52 (Nat.le_of_ble_eq_true rfl) (sh_80 _ _) (Nat.le_of_ble_eq_true rfl) rfl ?_
      refine G_get (ci := 10) (k := 12) K rfl in_X10 wd_100 rfl dX3_takeLater_55 (Nat.le_of_ble_eq_true rfl) (sh_1 _ _) (Nat.le_of_ble_eq_true rfl) rfl ?_
      refine G_iload_n rfl 2 rfl K dX3_takeLater_58 ?_
      refine G_aload_n rfl 1 rfl K dX3_takeLater_59 ?_
      refine G_get (ci := 3) (k := 6) K rfl in_X3 wd_352 rfl dX3_takeLater_60 (Nat.le_of_ble_eq_true rfl) (sh_80 _ _) (Nat.le_of_ble_eq_true rfl) rfl ?_
      refine G_iload_n rfl 2 rfl K dX3_takeLater_63 ?_
      obtain ⟨r2, e2, h⟩ := wpO_bind h
      refine G_callVl (ci := 7) [.int x2] [.int x2, .ref (g.2.1 8)] K dX3_takeLater_64 wv_1342 yd_X7_at (Nat.le_of_ble_eq_true rfl) (sh_89 _ _) rfl (by decide) (by decide) rfl rfl (Nat.le_of_ble_eq_true rfl) (K_Row_at l g htr 89 90 8 isRow_89 x2 M _ e2) ?_
      obtain ⟨r3, e3, h⟩ := wpO_bind h
      refine G_callVv (ci := 7) [.int x2, .long r2] [] K dX3_takeLater_67 wv_1333 yd_X7_put (Nat.le_of_ble_eq_true rfl) (sh_8 _ _) rfl (by decide) (by decide) rfl rfl (Nat.le_of_ble_eq_true rfl) (K_Row_put l g htr 8 9 8 isRow_8 x2 r2 M _ e3) ?_
      refine G_iinc (v := x2 + 1) 2 rfl K dX3_takeLater_70 rfl (Nat.le_of_ble_eq_true rfl) rfl ?_
      refine G_goto (tgt := 4) K dX3_takeLater_73 (by decide) ?_
      exact G_lv (lv' := [(0, .ref (g.2.1 80)), (1, .int ((b2i s0))), (2, .int (x2 + 1))]) [2, 1, 0] rfl (E4 s0 (x2 + 1) r3 (wpO_some h))
    intro z h
    unfold F_Crowd_takeLater_b4 at h
    refine G_iload_n rfl 2 rfl K dX3_takeLater_4 ?_
    refine G_bipush (v := 8) rfl K dX3_takeLater_5 ?_
    refine G_icmp_ge (tgt := 76) K dX3_takeLater_7 (by decide) (fun hc => ?_) (fun hc => ?_)
    · have h := wpO_t h hc
      have h := X4 _ (wpO_some h)
      try dsimp only at h
      refine G_iload_n rfl 1 rfl K dX3_takeLater_76 ?_
      cases hPHI _ (wpO_some h)
      exact G_iret K hr nar_b dX3_takeLater_77 (Nat.le_of_ble_eq_true rfl) (Nat.le_of_ble_eq_true rfl) ⟨rfl, rfl⟩
    · have h := wpO_f h hc
      refine G_aload_n rfl 0 rfl K dX3_takeLater_10 ?_
      refine G_iload_n rfl 2 rfl K dX3_takeLater_11 ?_
      obtain ⟨r1, e1, h⟩ := wpO_bind h
      refine G_callVi (ci := 3) [.int z.2.1] [] K dX3_takeLater_12 wv_1338 yd_X3_isThere (Nat.le_of_ble_eq_true rfl) (sh_80 _ _) rfl (by decide) (by decide) rfl rfl (Nat.le_of_ble_eq_true rfl) (K_Crowd_isThere l g htr z.2.1 z.2.2 _ e1) ?_
      refine G_ifb_eq (tgt := 70) K dX3_takeLater_15 (by decide) (fun hc => ?_) (fun hc => ?_)
      · have h := wpO_bf h hc
        refine G_iinc (v := z.2.1 + 1) 2 rfl K dX3_takeLater_70 rfl (Nat.le_of_ble_eq_true rfl) rfl ?_
        refine G_goto (tgt := 4) K dX3_takeLater_73 (by decide) ?_
        exact G_lv (lv' := [(0, .ref (g.2.1 80)), (1, .int ((b2i z.1))), (2, .int (z.2.1 + 1))]) [1, 2, 0] rfl (E4 z.1 (z.2.1 + 1) z.2.2 (wpO_some h))
      · have h := wpO_t h hc
        refine G_iload_n rfl 1 rfl K dX3_takeLater_18 ?_
        refine G_ifb_ne (tgt := 45) K dX3_takeLater_19 (by decide) (fun hc => ?_) (fun hc => ?_)
        · have h := wpO_t h hc
          refine G_iconst (v := 1) rfl K dX3_takeLater_45 ?_
          refine G_goto (tgt := 50) K dX3_takeLater_46 (by decide) ?_
          exact G_lv (lv' := [(0, .ref (g.2.1 80)), (2, .int z.2.1)]) [0, 2] rfl (J50 z.2.1 true z.2.2 h)
        · have h := wpO_bf h hc
          refine G_aload_n rfl 0 rfl K dX3_takeLater_22 ?_
          refine G_get (ci := 3) (k := 6) K rfl in_X3 wd_352 rfl dX3_takeLater_23 (Nat.le_of_ble_eq_true rfl) (sh_80 _ _) (Nat.le_of_ble_eq_true rfl) rfl ?_
          refine G_iload_n rfl 2 rfl K dX3_takeLater_26 ?_
          obtain ⟨r4, e4, h⟩ := wpO_bind h
          refine G_callVl (ci := 7) [.int z.2.1] [] K dX3_takeLater_27 wv_1342 yd_X7_at (Nat.le_of_ble_eq_true rfl) (sh_89 _ _) rfl (by decide) (by decide) rfl rfl (Nat.le_of_ble_eq_true rfl) (K_Row_at l g htr 89 90 8 isRow_89 z.2.1 z.2.2 _ e4) ?_
          refine G_aload_n rfl 0 rfl K dX3_takeLater_30 ?_
          refine G_get (ci := 3) (k := 0) K rfl in_X3 wd_346 rfl dX3_takeLater_31 (Nat.le_of_ble_eq_true rfl) (sh_80 _ _) (Nat.le_of_ble_eq_true rfl) rfl ?_
          refine G_get (ci := 10) (k := 12) K rfl in_X10 wd_100 rfl dX3_takeLater_34 (Nat.le_of_ble_eq_true rfl) (sh_1 _ _) (Nat.le_of_ble_eq_true rfl) rfl ?_
          refine G_iload_n rfl 2 rfl K dX3_takeLater_37 ?_
          obtain ⟨r5, e5, h⟩ := wpO_bind h
          refine G_callVl (ci := 7) [.int z.2.1] [.long r4] K dX3_takeLater_38 wv_1342 yd_X7_at (Nat.le_of_ble_eq_true rfl) (sh_8 _ _) rfl (by decide) (by decide) rfl rfl (Nat.le_of_ble_eq_true rfl) (K_Row_at l g htr 8 9 8 isRow_8 z.2.1 z.2.2 _ e5) ?_
          refine G_lcmp_eq (tgt := 49) K dX3_takeLater_41 dX3_takeLater_42 (by decide) (fun hc => ?_) (fun hc => ?_)
          · have h := wpO_t h hc
            refine G_iconst (v := 0) rfl K dX3_takeLater_49 ?_
            exact G_lv (lv' := [(0, .ref (g.2.1 80)), (2, .int z.2.1)]) [0, 2] rfl (J50 z.2.1 false z.2.2 h)
          · have h := wpO_f h hc
            refine G_iconst (v := 1) rfl K dX3_takeLater_45 ?_
            refine G_goto (tgt := 50) K dX3_takeLater_46 (by decide) ?_
            exact G_lv (lv' := [(0, .ref (g.2.1 80)), (2, .int z.2.1)]) [0, 2] rfl (J50 z.2.1 true z.2.2 h)
  unfold F_Crowd_takeLater at h
  refine G_iconst (v := 0) rfl K dX3_takeLater_0 ?_
  refine G_istore_n rfl K dX3_takeLater_1 (Nat.le_of_ble_eq_true rfl) rfl ?_
  refine G_iconst (v := 0) rfl K dX3_takeLater_2 ?_
  refine G_istore_n rfl K dX3_takeLater_3 (Nat.le_of_ble_eq_true rfl) rfl ?_
  exact G_lv (lv' := [(0, .ref (g.2.1 80)), (1, .int 0), (2, .int 0)]) [2, 1, 0] rfl (J4 false 0 M h)
theorem yd_X3_takeLater : ydN yX3_takeLater 0 := ⟨by decide, by decide, by decide +kernel⟩
theorem yd_X3_fitOf : ydN yX3_fitOf 1 := ⟨by decide, by decide, by decide +kernel⟩
theorem yd_X3_findPart : ydN yX3_findPart 3 := ⟨by decide, by decide, by decide +kernel⟩
theorem yd_X3_giveToGreatestRest : ydN yX3_giveToGreatestRest 0 := ⟨by decide, by decide, by decide +kernel⟩
theorem wv_1363 : wdV "KeptWell$Crowd" 94 yX3_takeLater cX3_takeLater 3 (some .boolean) := ⟨wd_1363, wd_1365, ws_X3_takeLater, wd_11, wd_1366⟩
theorem wv_1357 : wdV "KeptWell$Crowd" 91 yX3_giveToGreatestRest cX3_giveToGreatestRest 3 none := ⟨wd_1357, wd_1359, ws_X3_giveToGreatestRest, wd_11, wd_1360⟩
theorem wv_1352 : wdV "KeptWell$Crowd" 87 yX3_findPart cX3_findPart 12 none := ⟨wd_1352, wd_1354, ws_X3_findPart, wd_11, wd_1355⟩
theorem wv_1348 : wdV "KeptWell$Crowd" 84 yX3_fitOf cX3_fitOf 5 (some .long) := ⟨wd_1348, wd_1350, ws_X3_fitOf, wd_11, wd_1351⟩
def on_X3_growOneStep : Nat := 0xac5e00b62ae9ffa70107845b00b62a0d009c9405168507151600a208100715073603e0ffa70107840537653600b607151f00b42a05165700b6211f07152a1f00a20810071507360305371fac0305009d940921a8ffa70105844061090400a73600b605155100b42200b42a1200993a00b605152a1f42610616213200b6061605151900b42a0637090400a7695400b605152a3600b605155100b42200b42a1900993a00b605152a5700a20810051505360342094009
theorem ob_X3_growOneStep : OKB cX3_growOneStep on_X3_growOneStep 181 := ⟨by decide +kernel, by decide +kernel⟩
theorem dX3_growOneStep_0 : dc cX3_growOneStep 0 1 (.lconst 0) 1 := o_9 ob_X3_growOneStep rfl rfl rfl
theorem dX3_growOneStep_1 : dc cX3_growOneStep 1 2 (.lstore_n 1) 1 := o_64 ob_X3_growOneStep rfl rfl rfl
theorem dX3_growOneStep_2 : dc cX3_growOneStep 2 3 (.lconst 0) 1 := o_9 ob_X3_growOneStep rfl rfl rfl
theorem dX3_growOneStep_3 : dc cX3_growOneStep 3 4 (.lstore_n 3) 1 := o_66 ob_X3_growOneStep rfl rfl rfl
theorem dX3_growOneStep_4 : dc cX3_growOneStep 4 5 (.iconst 0) 1 := o_3 ob_X3_growOneStep rfl rfl rfl
theorem dX3_growOneStep_5 : dc cX3_growOneStep 5 7 (.istore 5) 2 := o_54 ob_X3_growOneStep rfl rfl rfl rfl
theorem dX3_growOneStep_7 : dc cX3_growOneStep 7 9 (.iload 5) 2 := o_21 ob_X3_growOneStep rfl rfl rfl rfl
theorem dX3_growOneStep_9 : dc cX3_growOneStep 9 11 (.bipush 8) 2 := o_16 ob_X3_growOneStep rfl rfl rfl rfl
theorem dX3_growOneStep_11 : dc cX3_growOneStep 11 14 (.if_icmp .ge 87) 3 := o_162 ob_X3_growOneStep rfl rfl rfl rfl
theorem dX3_growOneStep_14 : dc cX3_growOneStep 14 15 (.aload_n 0) 1 := o_42 ob_X3_growOneStep rfl rfl rfl
theorem dX3_growOneStep_15 : dc cX3_growOneStep 15 17 (.iload 5) 2 := o_21 ob_X3_growOneStep rfl rfl rfl rfl
theorem dX3_growOneStep_17 : dc cX3_growOneStep 17 20 (.invokevirtual 58) 3 := o_182 ob_X3_growOneStep rfl rfl rfl rfl
theorem dX3_growOneStep_20 : dc cX3_growOneStep 20 23 (.ifCond .eq 25) 3 := o_153 ob_X3_growOneStep rfl rfl rfl rfl
theorem dX3_growOneStep_23 : dc cX3_growOneStep 23 24 (.aload_n 0) 1 := o_42 ob_X3_growOneStep rfl rfl rfl
theorem dX3_growOneStep_24 : dc cX3_growOneStep 24 27 (.getfield 34) 3 := o_180 ob_X3_growOneStep rfl rfl rfl rfl
theorem dX3_growOneStep_27 : dc cX3_growOneStep 27 30 (.getfield 81) 3 := o_180 ob_X3_growOneStep rfl rfl rfl rfl
theorem dX3_growOneStep_30 : dc cX3_growOneStep 30 32 (.iload 5) 2 := o_21 ob_X3_growOneStep rfl rfl rfl rfl
theorem dX3_growOneStep_32 : dc cX3_growOneStep 32 35 (.invokevirtual 54) 3 := o_182 ob_X3_growOneStep rfl rfl rfl rfl
theorem dX3_growOneStep_35 : dc cX3_growOneStep 35 36 (.aload_n 0) 1 := o_42 ob_X3_growOneStep rfl rfl rfl
theorem dX3_growOneStep_36 : dc cX3_growOneStep 36 38 (.iload 5) 2 := o_21 ob_X3_growOneStep rfl rfl rfl rfl
theorem dX3_growOneStep_38 : dc cX3_growOneStep 38 41 (.invokevirtual 84) 3 := o_182 ob_X3_growOneStep rfl rfl rfl rfl
theorem dX3_growOneStep_41 : dc cX3_growOneStep 41 42 .lmul 1 := o_105 ob_X3_growOneStep rfl rfl rfl
theorem dX3_growOneStep_42 : dc cX3_growOneStep 42 45 (.goto 4) 3 := o_167 ob_X3_growOneStep rfl rfl rfl rfl
theorem dX3_growOneStep_45 : dc cX3_growOneStep 45 46 (.lconst 0) 1 := o_9 ob_X3_growOneStep rfl rfl rfl
theorem dX3_growOneStep_46 : dc cX3_growOneStep 46 48 (.lstore 6) 2 := o_55 ob_X3_growOneStep rfl rfl rfl rfl
theorem dX3_growOneStep_48 : dc cX3_growOneStep 48 49 (.aload_n 0) 1 := o_42 ob_X3_growOneStep rfl rfl rfl
theorem dX3_growOneStep_49 : dc cX3_growOneStep 49 52 (.getfield 25) 3 := o_180 ob_X3_growOneStep rfl rfl rfl rfl
theorem dX3_growOneStep_52 : dc cX3_growOneStep 52 54 (.iload 5) 2 := o_21 ob_X3_growOneStep rfl rfl rfl rfl
theorem dX3_growOneStep_54 : dc cX3_growOneStep 54 56 (.lload 6) 2 := o_22 ob_X3_growOneStep rfl rfl rfl rfl
theorem dX3_growOneStep_56 : dc cX3_growOneStep 56 59 (.invokevirtual 50) 3 := o_182 ob_X3_growOneStep rfl rfl rfl rfl
theorem dX3_growOneStep_59 : dc cX3_growOneStep 59 60 (.lload_n 3) 1 := o_33 ob_X3_growOneStep rfl rfl rfl
theorem dX3_growOneStep_60 : dc cX3_growOneStep 60 62 (.lload 6) 2 := o_22 ob_X3_growOneStep rfl rfl rfl rfl
theorem dX3_growOneStep_62 : dc cX3_growOneStep 62 63 .ladd 1 := o_97 ob_X3_growOneStep rfl rfl rfl
theorem dX3_growOneStep_63 : dc cX3_growOneStep 63 64 (.lstore_n 3) 1 := o_66 ob_X3_growOneStep rfl rfl rfl
theorem dX3_growOneStep_64 : dc cX3_growOneStep 64 65 (.lload_n 1) 1 := o_31 ob_X3_growOneStep rfl rfl rfl
theorem dX3_growOneStep_65 : dc cX3_growOneStep 65 66 (.aload_n 0) 1 := o_42 ob_X3_growOneStep rfl rfl rfl
theorem dX3_growOneStep_66 : dc cX3_growOneStep 66 68 (.iload 5) 2 := o_21 ob_X3_growOneStep rfl rfl rfl rfl
theorem dX3_growOneStep_68 : dc cX3_growOneStep 68 71 (.invokevirtual 58) 3 := o_182 ob_X3_growOneStep rfl rfl rfl rfl
theorem dX3_growOneStep_71 : dc cX3_growOneStep 71 74 (.ifCond .eq 18) 3 := o_153 ob_X3_growOneStep rfl rfl rfl rfl
theorem dX3_growOneStep_74 : dc cX3_growOneStep 74 75 (.aload_n 0) 1 := o_42 ob_X3_growOneStep rfl rfl rfl
theorem dX3_growOneStep_75 : dc cX3_growOneStep 75 78 (.getfield 34) 3 := o_180 ob_X3_growOneStep rfl rfl rfl rfl
theorem dX3_growOneStep_78 : dc cX3_growOneStep 78 81 (.getfield 81) 3 := o_180 ob_X3_growOneStep rfl rfl rfl rfl
theorem dX3_growOneStep_81 : dc cX3_growOneStep 81 83 (.iload 5) 2 := o_21 ob_X3_growOneStep rfl rfl rfl rfl
theorem dX3_growOneStep_83 : dc cX3_growOneStep 83 86 (.invokevirtual 54) 3 := o_182 ob_X3_growOneStep rfl rfl rfl rfl
theorem dX3_growOneStep_86 : dc cX3_growOneStep 86 89 (.goto 4) 3 := o_167 ob_X3_growOneStep rfl rfl rfl rfl
theorem dX3_growOneStep_89 : dc cX3_growOneStep 89 90 (.lconst 0) 1 := o_9 ob_X3_growOneStep rfl rfl rfl
theorem dX3_growOneStep_90 : dc cX3_growOneStep 90 91 .ladd 1 := o_97 ob_X3_growOneStep rfl rfl rfl
theorem dX3_growOneStep_91 : dc cX3_growOneStep 91 92 (.lstore_n 1) 1 := o_64 ob_X3_growOneStep rfl rfl rfl
theorem dX3_growOneStep_92 : dc cX3_growOneStep 92 95 (.iinc 5 1) 3 := o_132 ob_X3_growOneStep rfl rfl rfl rfl rfl
theorem dX3_growOneStep_95 : dc cX3_growOneStep 95 98 (.goto (-88)) 3 := o_167 ob_X3_growOneStep rfl rfl rfl rfl
theorem dX3_growOneStep_98 : dc cX3_growOneStep 98 99 (.lload_n 3) 1 := o_33 ob_X3_growOneStep rfl rfl rfl
theorem dX3_growOneStep_99 : dc cX3_growOneStep 99 100 (.lconst 0) 1 := o_9 ob_X3_growOneStep rfl rfl rfl
theorem dX3_growOneStep_100 : dc cX3_growOneStep 100 101 .lcmp 1 := o_148 ob_X3_growOneStep rfl rfl rfl
theorem dX3_growOneStep_101 : dc cX3_growOneStep 101 104 (.ifCond .gt 5) 3 := o_157 ob_X3_growOneStep rfl rfl rfl rfl
theorem dX3_growOneStep_104 : dc cX3_growOneStep 104 105 (.iconst 0) 1 := o_3 ob_X3_growOneStep rfl rfl rfl
theorem dX3_growOneStep_105 : dc cX3_growOneStep 105 106 .ireturn 1 := o_172 ob_X3_growOneStep rfl rfl rfl
theorem dX3_growOneStep_106 : dc cX3_growOneStep 106 107 (.lload_n 1) 1 := o_31 ob_X3_growOneStep rfl rfl rfl
theorem dX3_growOneStep_107 : dc cX3_growOneStep 107 109 (.lstore 5) 2 := o_55 ob_X3_growOneStep rfl rfl rfl rfl
theorem dX3_growOneStep_109 : dc cX3_growOneStep 109 110 (.iconst 0) 1 := o_3 ob_X3_growOneStep rfl rfl rfl
theorem dX3_growOneStep_110 : dc cX3_growOneStep 110 112 (.istore 7) 2 := o_54 ob_X3_growOneStep rfl rfl rfl rfl
theorem dX3_growOneStep_112 : dc cX3_growOneStep 112 114 (.iload 7) 2 := o_21 ob_X3_growOneStep rfl rfl rfl rfl
theorem dX3_growOneStep_114 : dc cX3_growOneStep 114 116 (.bipush 8) 2 := o_16 ob_X3_growOneStep rfl rfl rfl rfl
theorem dX3_growOneStep_116 : dc cX3_growOneStep 116 119 (.if_icmp .ge 31) 3 := o_162 ob_X3_growOneStep rfl rfl rfl rfl
theorem dX3_growOneStep_119 : dc cX3_growOneStep 119 120 (.aload_n 0) 1 := o_42 ob_X3_growOneStep rfl rfl rfl
theorem dX3_growOneStep_120 : dc cX3_growOneStep 120 122 (.iload 7) 2 := o_21 ob_X3_growOneStep rfl rfl rfl rfl
theorem dX3_growOneStep_122 : dc cX3_growOneStep 122 123 (.lload_n 1) 1 := o_31 ob_X3_growOneStep rfl rfl rfl
theorem dX3_growOneStep_123 : dc cX3_growOneStep 123 124 (.lload_n 3) 1 := o_33 ob_X3_growOneStep rfl rfl rfl
theorem dX3_growOneStep_124 : dc cX3_growOneStep 124 127 (.invokevirtual 87) 3 := o_182 ob_X3_growOneStep rfl rfl rfl rfl
theorem dX3_growOneStep_127 : dc cX3_growOneStep 127 129 (.lload 5) 2 := o_22 ob_X3_growOneStep rfl rfl rfl rfl
theorem dX3_growOneStep_129 : dc cX3_growOneStep 129 130 (.aload_n 0) 1 := o_42 ob_X3_growOneStep rfl rfl rfl
theorem dX3_growOneStep_130 : dc cX3_growOneStep 130 133 (.getfield 31) 3 := o_180 ob_X3_growOneStep rfl rfl rfl rfl
theorem dX3_growOneStep_133 : dc cX3_growOneStep 133 135 (.iload 7) 2 := o_21 ob_X3_growOneStep rfl rfl rfl rfl
theorem dX3_growOneStep_135 : dc cX3_growOneStep 135 138 (.invokevirtual 54) 3 := o_182 ob_X3_growOneStep rfl rfl rfl rfl
theorem dX3_growOneStep_138 : dc cX3_growOneStep 138 139 .lsub 1 := o_101 ob_X3_growOneStep rfl rfl rfl
theorem dX3_growOneStep_139 : dc cX3_growOneStep 139 141 (.lstore 5) 2 := o_55 ob_X3_growOneStep rfl rfl rfl rfl
theorem dX3_growOneStep_141 : dc cX3_growOneStep 141 144 (.iinc 7 1) 3 := o_132 ob_X3_growOneStep rfl rfl rfl rfl rfl
theorem dX3_growOneStep_144 : dc cX3_growOneStep 144 147 (.goto (-32)) 3 := o_167 ob_X3_growOneStep rfl rfl rfl rfl
theorem dX3_growOneStep_147 : dc cX3_growOneStep 147 148 (.iconst 0) 1 := o_3 ob_X3_growOneStep rfl rfl rfl
theorem dX3_growOneStep_148 : dc cX3_growOneStep 148 150 (.istore 7) 2 := o_54 ob_X3_growOneStep rfl rfl rfl rfl
theorem dX3_growOneStep_150 : dc cX3_growOneStep 150 152 (.iload 7) 2 := o_21 ob_X3_growOneStep rfl rfl rfl rfl
theorem dX3_growOneStep_152 : dc cX3_growOneStep 152 154 (.bipush 8) 2 := o_16 ob_X3_growOneStep rfl rfl rfl rfl
theorem dX3_growOneStep_154 : dc cX3_growOneStep 154 157 (.if_icmp .ge 22) 3 := o_162 ob_X3_growOneStep rfl rfl rfl rfl
theorem dX3_growOneStep_157 : dc cX3_growOneStep 157 159 (.iload 7) 2 := o_21 ob_X3_growOneStep rfl rfl rfl rfl
theorem dX3_growOneStep_159 : dc cX3_growOneStep 159 160 .i2l 1 := o_133 ob_X3_growOneStep rfl rfl rfl
theorem dX3_growOneStep_160 : dc cX3_growOneStep 160 162 (.lload 5) 2 := o_22 ob_X3_growOneStep rfl rfl rfl rfl
theorem dX3_growOneStep_162 : dc cX3_growOneStep 162 163 .lcmp 1 := o_148 ob_X3_growOneStep rfl rfl rfl
theorem dX3_growOneStep_163 : dc cX3_growOneStep 163 166 (.ifCond .ge 13) 3 := o_156 ob_X3_growOneStep rfl rfl rfl rfl
theorem dX3_growOneStep_166 : dc cX3_growOneStep 166 167 (.aload_n 0) 1 := o_42 ob_X3_growOneStep rfl rfl rfl
theorem dX3_growOneStep_167 : dc cX3_growOneStep 167 170 (.invokevirtual 91) 3 := o_182 ob_X3_growOneStep rfl rfl rfl rfl
theorem dX3_growOneStep_170 : dc cX3_growOneStep 170 173 (.iinc 7 1) 3 := o_132 ob_X3_growOneStep rfl rfl rfl rfl rfl
theorem dX3_growOneStep_173 : dc cX3_growOneStep 173 176 (.goto (-23)) 3 := o_167 ob_X3_growOneStep rfl rfl rfl rfl
theorem dX3_growOneStep_176 : dc cX3_growOneStep 176 177 (.aload_n 0) 1 := o_42 ob_X3_growOneStep rfl rfl rfl
theorem dX3_growOneStep_177 : dc cX3_growOneStep 177 180 (.invokevirtual 94) 3 := o_182 ob_X3_growOneStep rfl rfl rfl rfl
theorem dX3_growOneStep_180 : dc cX3_growOneStep 180 181 .ireturn 1 := o_172 ob_X3_growOneStep rfl rfl rfl
def F_Crowd_growOneStep_j176 (M : Mem) : Option (Bool × Mem) :=
  (F_Crowd_takeLater M).bind fun r1 => some ((r1.1, r1.2))
def F_Crowd_growOneStep_b150 (x5 : Int64) (z : Int32 × Mem) : Option ((Int32 × Mem) ⊕ ((Mem))) :=
  if 8 ≤ z.1 then some (.inr z.2) else if x5 ≤ z.1.toInt64 then some (.inr z.2) else (F_Crowd_giveToGreatestRest z.2).bind fun r2 => some (.inl ((z.1 + 1, r2)))
def F_Crowd_growOneStep_l150 (x5 : Int64) (x7 : Int32) (M : Mem) : Option (Bool × Mem) :=
  (iter (F_Crowd_growOneStep_b150 x5) FUEL (x7, M)).bind fun r => F_Crowd_growOneStep_j176 r
def F_Crowd_growOneStep_b112 (x1 : Int64) (x3 : Int64) (z : Int64 × Int32 × Mem) : Option ((Int64 × Int32 × Mem) ⊕ ((Int64 × Mem))) :=
  if 8 ≤ z.2.1 then some (.inr ((z.1, z.2.2))) else (F_Crowd_findPart z.2.1 x1 x3 z.2.2).bind fun r3 => (F_Row_at 90 8 z.2.1 r3).bind fun r4 => some (.inl ((z.1 - r4, z.2.1 + 1, r3)))
def F_Crowd_growOneStep_l112 (x1 : Int64) (x3 : Int64) (x5 : Int64) (x7 : Int32) (M : Mem) : Option (Bool × Mem) :=
  (iter (F_Crowd_growOneStep_b112 x1 x3) FUEL (x5, x7, M)).bind fun r => F_Crowd_growOneStep_l150 r.1 0 r.2
def F_Crowd_growOneStep_j98 (x1 : Int64) (x3 : Int64) (M : Mem) : Option (Bool × Mem) :=
  if 0 < x3 then F_Crowd_growOneStep_l112 x1 x3 x1 0 M else some ((false, M))
def F_Crowd_growOneStep_j46 (x1 : Int64) (x3 : Int64) (x5 : Int32) (s0 : Int64) (M : Mem) : Option ((Int64 × Int64 × Int32 × Mem) ⊕ ((Int64 × Int64 × Mem))) :=
  (F_Row_put 86 8 x5 s0 M).bind fun r6 => (F_Crowd_isThere x5 r6).bind fun r7 => if r7 = true then (F_Row_at 9 8 x5 r6).bind fun r8 => some (.inl ((x1 + r8, x3 + s0, x5 + 1, r6))) else some (.inl ((x1 + 0, x3 + s0, x5 + 1, r6)))
def F_Crowd_growOneStep_b7 (z : Int64 × Int64 × Int32 × Mem) : Option ((Int64 × Int64 × Int32 × Mem) ⊕ ((Int64 × Int64 × Mem))) :=
  if 8 ≤ z.2.2.1 then some (.inr ((z.1, z.2.1, z.2.2.2))) else (F_Crowd_isThere z.2.2.1 z.2.2.2).bind fun r5 => if r5 = true then (F_Row_at 9 8 z.2.2.1 z.2.2.2).bind fun r9 => (F_Crowd_fitOf z.2.2.1 z.2.2.2).bind fun r10 => F_Crowd_growOneStep_j46 z.1 z.2.1 z.2.2.1 (r9 * r10) z.2.2.2 else F_Crowd_growOneStep_j46 z.1 z.2.1 z.2.2.1 0 z.2.2.2
def F_Crowd_growOneStep_l7 (x1 : Int64) (x3 : Int64) (x5 : Int32) (M : Mem) : Option (Bool × Mem) :=
  (iter (F_Crowd_growOneStep_b7) FUEL (x1, x3, x5, M)).bind fun r => F_Crowd_growOneStep_j98 r.1 r.2.1 r.2.2
def F_Crowd_growOneStep (M : Mem) : Option (Bool × Mem) :=
  F_Crowd_growOneStep_l7 0 0 0 M
set_option maxRecDepth 100000 in
set_option maxHeartbeats 4000000 in
theorem K_Crowd_growOneStep (l : Launch) (g : GB) (htr : l.stackTraces = false) (M : Mem) (rr : Bool) (MZ : Mem) (h : F_Crowd_growOneStep M = some (rr, MZ)) : CT l g yX3_growOneStep (.code yX3_growOneStep cX3_growOneStep 8 (some .boolean) :: wAll) { frames := 3, cells := 0, slots := 0, locals := 68 } [.ref (g.2.1 80)] M (.inl (some (.int (b2i rr)))) MZ := by
  refine CT.of [(0, .ref (g.2.1 80))] (by decide +kernel) (Nat.le_of_ble_eq_true rfl) rfl htr ?_
  intro p e s m args below meth c K hr ht
  skip
  obtain ⟨PHI, hPHI, h⟩ : ∃ PHI : Bool × Mem → Prop, (∀ a, PHI a → a = (rr, MZ)) ∧ wpO (F_Crowd_growOneStep M) PHI := ⟨fun a => a = (rr, MZ), fun _ h => h, _, h, rfl⟩
  have J176 : ∀ (M : Mem), wpO (F_Crowd_growOneStep_j176 M) PHI → GG p l e { frames := 3, cells := 0, slots := 0, locals := 68 } s m args below meth c g 8 (vx_MQ below (Qn g s.heap.size (.inl (some (.int (b2i rr)))) MZ) (QX g s.heap.size (.inl (some (.int (b2i rr)))) MZ) args s 0 0 (AS g s.heap.size)) 0 0 176 [(0, .ref (g.2.1 80))] [] M := by
    intro M h
    unfold F_Crowd_growOneStep_j176 at h
    refine G_aload_n rfl 0 rfl K dX3_growOneStep_176 ?_
    obtain ⟨r1, e1, h⟩ := wpO_bind h
    refine G_callVi (ci := 3) [] [] K dX3_growOneStep_177 wv_1363 yd_X3_takeLater (Nat.le_of_ble_eq_true rfl) (sh_80 _ _) rfl (by decide) (by decide) rfl rfl (Nat.le_of_ble_eq_true rfl) (K_Crowd_takeLater l g htr  M _ _ e1) ?_
    cases hPHI _ (wpO_some h)
    exact G_iret K hr nar_b dX3_growOneStep_180 (Nat.le_of_ble_eq_true rfl) (Nat.le_of_ble_eq_true rfl) ⟨rfl, rfl⟩
  have J150 : ∀ (x5 : Int64) (x7 : Int32) (M : Mem), wpO (F_Crowd_growOneStep_l150 x5 x7 M) PHI → GG p l e { frames := 3, cells := 0, slots := 0, locals := 68 } s m args below meth c g 8 (vx_MQ below (Qn g s.heap.size (.inl (some (.int (b2i rr)))) MZ) (QX g s.heap.size (.inl (some (.int (b2i rr)))) MZ) args s 0 0 (AS g s.heap.size)) 0 0 150 [(0, .ref (g.2.1 80)), (5, .long x5), (7, .int x7)] [] M := by
    intro x5 x7 M h
    unfold F_Crowd_growOneStep_l150 at h
    refine loop_C2 (G := fun (x7 : Int32) (M : Mem) => GG p l e { frames := 3, cells := 0, slots := 0, locals := 68 } s m args below meth c g 8 (vx_MQ below (Qn g s.heap.size (.inl (some (.int (b2i rr)))) MZ) (QX g s.heap.size (.inl (some (.int (b2i rr)))) MZ) args s 0 0 (AS g s.heap.size)) 0 0 150 [(0, .ref (g.2.1 80)), (5, .long x5), (7, .int x7)] [] M) (body := F_Crowd_growOneStep_b150 x5) ?_ FUEL _ _ (wpO_bind h)
    intro P150 E150 X150
    intro z h
    unfold F_Crowd_growOneStep_b150 at h
    refine G_iload 2 rfl K dX3_growOneStep_150 ?_
    refine G_bipush (v := 8) rfl K dX3_growOneStep_152 ?_
    refine G_icmp_ge (tgt := 176) K dX3_growOneStep_154 (by decide) (fun hc => ?_) (fun hc => ?_)
    · have h := wpO_t h hc
      have h := X150 _ (wpO_some h)
      try dsimp only at h
      exact G_lv (lv' := [(0, .ref (g.2.1 80))]) [0] rfl (J176 z.2 h)
    · have h := wpO_f h hc
      refine G_iload 2 rfl K dX3_growOneStep_157 ?_
      refine G_i2l K dX3_growOneStep_159 ?_
      refine G_lload 1 rfl K dX3_growOneStep_160 ?_
      refine G_lcmp_ge (tgt := 176) K dX3_growOneStep_162 dX3_growOneStep_163 (by decide) (fun hc => ?_) (fun hc => ?_)
      · have h := wpO_t h hc
        have h := X150 _ (wpO_some h)
        try dsimp only at h
        exact G_lv (lv' := [(0, .ref (g.2.1 80))]) [0] rfl (J176 z.2 h)
      · have h := wpO_f h hc
        refine G_aload_n rfl 0 rfl K dX3_growOneStep_166 ?_
        obtain ⟨r2, e2, h⟩ := wpO_bind h
        refine G_callVv (ci := 3) [] [] K dX3_growOneStep_167 wv_1357 yd_X3_giveToGreatestRest (Nat.le_of_ble_eq_true rfl) (sh_80 _ _) rfl (by decide) (by decide) rfl rfl (Nat.le_of_ble_eq_true rfl) (K_Crowd_giveToGreatestRest l g htr  z.2 _ e2) ?_
        refine G_iinc (v := z.1 + 1) 2 rfl K dX3_growOneStep_170 rfl (Nat.le_of_ble_eq_true rfl) rfl ?_
        refine G_goto (tgt := 150) K dX3_growOneStep_173 (by decide) ?_
        exact G_lv (lv' := [(0, .ref (g.2.1 80)), (5, .long x5), (7, .int (z.1 + 1))]) [1, 2, 0] rfl (E150 (z.1 + 1) r2 (wpO_some h))
  have J112 : ∀ (x1 : Int64) (x3 : Int64) (x5 : Int64) (x7 : Int32) (M : Mem), wpO (F_Crowd_growOneStep_l112 x1 x3 x5 x7 M) PHI → GG p l e { frames := 3, cells := 0, slots := 0, locals := 68 } s m args below meth c g 8 (vx_MQ below (Qn g s.heap.size (.inl (some (.int (b2i rr)))) MZ) (QX g s.heap.size (.inl (some (.int (b2i rr)))) MZ) args s 0 0 (AS g s.heap.size)) 0 0 112 [(0, .ref (g.2.1 80)), (1, .long x1), (3, .long x3), (5, .long x5), (7, .int x7)] [] M := by
    intro x1 x3 x5 x7 M h
    unfold F_Crowd_growOneStep_l112 at h
    refine loop_C3 (G := fun (x5 : Int64) (x7 : Int32) (M : Mem) => GG p l e { frames := 3, cells := 0, slots := 0, locals := 68 } s m args below meth c g 8 (vx_MQ below (Qn g s.heap.size (.inl (some (.int (b2i rr)))) MZ) (QX g s.heap.size (.inl (some (.int (b2i rr)))) MZ) args s 0 0 (AS g s.heap.size)) 0 0 112 [(0, .ref (g.2.1 80)), (1, .long x1), (3, .long x3), (5, .long x5), (7, .int x7)] [] M) (body := F_Crowd_growOneStep_b112 x1 x3) ?_ FUEL _ _ _ (wpO_bind h)
    intro P112 E112 X112
    intro z h
    unfold F_Crowd_growOneStep_b112 at h
    refine G_iload 4 rfl K dX3_growOneStep_112 ?_
    refine G_bipush (v := 8) rfl K dX3_growOneStep_114 ?_
    refine G_icmp_ge (tgt := 147) K dX3_growOneStep_116 (by decide) (fun hc => ?_) (fun hc => ?_)
    · have h := wpO_t h hc
      have h := X112 _ (wpO_some h)
      try dsimp only at h
      refine G_iconst (v := 0) rfl K dX3_growOneStep_147 ?_
      refine G_istore K dX3_growOneStep_148 (Nat.le_of_ble_eq_true rfl) rfl ?_
      exact G_lv (lv' := [(0, .ref (g.2.1 80)), (5, .long z.1), (7, .int 0)]) [1, 4, 0] rfl (J150 z.1 0 z.2.2 h)
    · have h := wpO_f h hc
      refine G_aload_n rfl 0 rfl K dX3_growOneStep_119 ?_
      refine G_iload 4 rfl K dX3_growOneStep_120 ?_
      refine G_lload_n rfl 1 rfl K dX3_growOneStep_122 ?_
      refine G_lload_n rfl 2 rfl K dX3_growOneStep_123 ?_
      obtain ⟨r3, e3, h⟩ := wpO_bind h
      refine G_callVv (ci := 3) [.int z.2.1, .long x1, .long x3] [] K dX3_growOneStep_124 wv_1352 yd_X3_findPart (Nat.le_of_ble_eq_true rfl) (sh_80 _ _) rfl (by decide) (by decide) rfl rfl (Nat.le_of_ble_eq_true rfl) (K_Crowd_findPart l g htr z.2.1 x1 x3 z.2.2 _ e3) ?_
      refine G_lload 3 rfl K dX3_growOneStep_127 ?_
      refine G_aload_n rfl 0 rfl K dX3_growOneStep_129 ?_
      refine G_get (ci := 3) (k := 6) K rfl in_X3 wd_352 rfl dX3_growOneStep_130 (Nat.le_of_ble_eq_true rfl) (sh_80 _ _) (Nat.le_of_ble_eq_true rfl) rfl ?_
      refine G_iload 4 rfl K dX3_growOneStep_133 ?_
      obtain ⟨r4, e4, h⟩ := wpO_bind h
      refine G_callVl (ci := 7) [.int z.2.1] [.long z.1] K dX3_growOneStep_135 wv_1342 yd_X7_at (Nat.le_of_ble_eq_true rfl) (sh_89 _ _) rfl (by decide) (by decide) rfl rfl (Nat.le_of_ble_eq_true rfl) (K_Row_at l g htr 89 90 8 isRow_89 z.2.1 r3 _ e4) ?_
      refine G_lsub K dX3_growOneStep_138 ?_
      refine G_lstore K dX3_growOneStep_139 (Nat.le_of_ble_eq_true rfl) rfl ?_
      refine G_iinc (v := z.2.1 + 1) 4 rfl K dX3_growOneStep_141 rfl (Nat.le_of_ble_eq_true rfl) rfl ?_
      refine G_goto (tgt := 112) K dX3_growOneStep_144 (by decide) ?_
      exact G_lv (lv' := [(0, .ref (g.2.1 80)), (1, .long x1), (3, .long x3), (5, .long (z.1 - r4)), (7, .int (z.2.1 + 1))]) [2, 3, 4, 1, 0] rfl (E112 (z.1 - r4) (z.2.1 + 1) r3 (wpO_some h))
  have J98 : ∀ (x1 : Int64) (x3 : Int64) (M : Mem), wpO (F_Crowd_growOneStep_j98 x1 x3 M) PHI → GG p l e { frames := 3, cells := 0, slots := 0, locals := 68 } s m args below meth c g 8 (vx_MQ below (Qn g s.heap.size (.inl (some (.int (b2i rr)))) MZ) (QX g s.heap.size (.inl (some (.int (b2i rr)))) MZ) args s 0 0 (AS g s.heap.size)) 0 0 98 [(0, .ref (g.2.1 80)), (1, .long x1), (3, .long x3)] [] M := by
    intro x1 x3 M h
    unfold F_Crowd_growOneStep_j98 at h
    refine G_lload_n rfl 2 rfl K dX3_growOneStep_98 ?_
    refine G_lconst (v := 0) rfl K dX3_growOneStep_99 ?_
    refine G_lcmp_gt (tgt := 106) K dX3_growOneStep_100 dX3_growOneStep_101 (by decide) (fun hc => ?_) (fun hc => ?_)
    · have h := wpO_t h hc
      refine G_lload_n rfl 1 rfl K dX3_growOneStep_106 ?_
      refine G_lstore K dX3_growOneStep_107 (Nat.le_of_ble_eq_true rfl) rfl ?_
      refine G_iconst (v := 0) rfl K dX3_growOneStep_109 ?_
      refine G_istore K dX3_growOneStep_110 (Nat.le_of_ble_eq_true rfl) rfl ?_
      exact G_lv (lv' := [(0, .ref (g.2.1 80)), (1, .long x1), (3, .long x3), (5, .long x1), (7, .int 0)]) [2, 3, 4, 1, 0] rfl (J112 x1 x3 x1 0 M h)
    · have h := wpO_f h hc
      refine G_iconst (v := 0) rfl K dX3_growOneStep_104 ?_
      cases hPHI _ (wpO_some h)
      exact G_iret K hr rfl dX3_growOneStep_105 (Nat.le_of_ble_eq_true rfl) (Nat.le_of_ble_eq_true rfl) ⟨rfl, rfl⟩
  have J7 : ∀ (x1 : Int64) (x3 : Int64) (x5 : Int32) (M : Mem), wpO (F_Crowd_growOneStep_l7 x1 x3 x5 M) PHI → GG p l e { frames := 3, cells := 0, slots := 0, locals := 68 } s m args below meth c g 8 (vx_MQ below (Qn g s.heap.size (.inl (some (.int (b2i rr)))) MZ) (QX g s.heap.size (.inl (some (.int (b2i rr)))) MZ) args s 0 0 (AS g s.heap.size)) 0 0 7 [(0, .ref (g.2.1 80)), (1, .long x1), (3, .long x3), (5, .int x5)] [] M := by
    intro x1 x3 x5 M h
    unfold F_Crowd_growOneStep_l7 at h
    refine loop_C4 (G := fun (x1 : Int64) (x3 : Int64) (x5 : Int32) (M : Mem) => GG p l e { frames := 3, cells := 0, slots := 0, locals := 68 } s m args below meth c g 8 (vx_MQ below (Qn g s.heap.size (.inl (some (.int (b2i rr)))) MZ) (QX g s.heap.size (.inl (some (.int (b2i rr)))) MZ) args s 0 0 (AS g s.heap.size)) 0 0 7 [(0, .ref (g.2.1 80)), (1, .long x1), (3, .long x3), (5, .int x5)] [] M) (body := F_Crowd_growOneStep_b7) ?_ FUEL _ _ _ _ (wpO_bind h)
    intro P7 E7 X7
    have J46 : ∀ (x1 : Int64) (x3 : Int64) (x5 : Int32) (s0 : Int64) (M : Mem), wpO (F_Crowd_growOneStep_j46 x1 x3 x5 s0 M) P7 → GG p l e { frames := 3, cells := 0, slots := 0, locals := 68 } s m args below meth c g 8 (vx_MQ below (Qn g s.heap.size (.inl (some (.int (b2i rr)))) MZ) (QX g s.heap.size (.inl (some (.int (b2i rr)))) MZ) args s 0 0 (AS g s.heap.size)) 0 0 46 [(0, .ref (g.2.1 80)), (1, .long x1), (3, .long x3), (5, .int x5)] [.long s0] M := by
      intro x1 x3 x5 s0 M h
      unfold F_Crowd_growOneStep_j46 at h
      refine G_lstore K dX3_growOneStep_46 (Nat.le_of_ble_eq_true rfl) rfl ?_
      refine G_aload_n rfl 1 rfl K dX3_growOneStep_48 ?_
      refine G_get (ci := 3) (k := 4) K rfl in_X3 wd_350 rfl dX3_growOneStep_49 (Nat.le_of_ble_eq_true rfl) (sh_80 _ _) (Nat.le_of_ble_eq_true rfl) rfl ?_
      refine G_iload 4 rfl K dX3_growOneStep_52 ?_
      refine G_lload 0 rfl K dX3_growOneStep_54 ?_
      obtain ⟨r6, e6, h⟩ := wpO_bind h
      refine G_callVv (ci := 7) [.int x5, .long s0] [] K dX3_growOneStep_56 wv_1333 yd_X7_put (Nat.le_of_ble_eq_true rfl) (sh_85 _ _) rfl (by decide) (by decide) rfl rfl (Nat.le_of_ble_eq_true rfl) (K_Row_put l g htr 85 86 8 isRow_85 x5 s0 M _ e6) ?_
      refine G_lload_n rfl 3 rfl K dX3_growOneStep_59 ?_
      refine G_lload 0 rfl K dX3_growOneStep_60 ?_
      refine G_ladd K dX3_growOneStep_62 ?_
      refine G_lstore_n rfl K dX3_growOneStep_63 (Nat.le_of_ble_eq_true rfl) rfl ?_
      refine G_lload_n rfl 3 rfl K dX3_growOneStep_64 ?_
      refine G_aload_n rfl 2 rfl K dX3_growOneStep_65 ?_
      refine G_iload 4 rfl K dX3_growOneStep_66 ?_
      obtain ⟨r7, e7, h⟩ := wpO_bind h
      refine G_callVi (ci := 3) [.int x5] [.long x1] K dX3_growOneStep_68 wv_1338 yd_X3_isThere (Nat.le_of_ble_eq_true rfl) (sh_80 _ _) rfl (by decide) (by decide) rfl rfl (Nat.le_of_ble_eq_true rfl) (K_Crowd_isThere l g htr x5 r6 _ e7) ?_
      refine G_ifb_eq (tgt := 89) K dX3_growOneStep_71 (by decide) (fun hc => ?_) (fun hc => ?_)
      · have h := wpO_bf h hc
        refine G_lconst (v := 0) rfl K dX3_growOneStep_89 ?_
        refine G_ladd K dX3_growOneStep_90 ?_
        refine G_lstore_n rfl K dX3_growOneStep_91 (Nat.le_of_ble_eq_true rfl) rfl ?_
        refine G_iinc (v := x5 + 1) 4 rfl K dX3_growOneStep_92 rfl (Nat.le_of_ble_eq_true rfl) rfl ?_
        refine G_goto (tgt := 7) K dX3_growOneStep_95 (by decide) ?_
        exact G_lv (lv' := [(0, .ref (g.2.1 80)), (1, .long (x1 + 0)), (3, .long (x3 + s0)), (5, .int (x5 + 1))]) [4, 1, 2, 0] rfl (E7 (x1 + 0) (x3 + s0) (x5 + 1) r6 (wpO_some h))
      · have h := wpO_t h hc
        refine G_aload_n rfl 2 rfl K dX3_growOneStep_74 ?_
        refine G_get (ci := 3) (k := 0) K rfl in_X3 wd_346 rfl dX3_growOneStep_75 (Nat.le_of_ble_eq_true rfl) (sh_80 _ _) (Nat.le_of_ble_eq_true rfl) rfl ?_
        refine G_get (ci := 10) (k := 12) K rfl in_X10 wd_100 rfl dX3_growOneStep_78 (Nat.le_of_ble_eq_true rfl) (sh_1 _ _) (Nat.le_of_ble_eq_true rfl) rfl ?_
        refine G_iload 4 rfl K dX3_growOneStep_81 ?_
        obtain ⟨r8, e8, h⟩ := wpO_bind h
        refine G_callVl (ci := 7) [.int x5] [.long x1] K dX3_growOneStep_83 wv_1342 yd_X7_at (Nat.le_of_ble_eq_true rfl) (sh_8 _ _) rfl (by decide) (by decide) rfl rfl (Nat.le_of_ble_eq_true rfl) (K_Row_at l g htr 8 9 8 isRow_8 x5 r6 _ e8) ?_
        refine G_goto (tgt := 90) K dX3_growOneStep_86 (by decide) ?_
        refine G_ladd K dX3_growOneStep_90 ?_
        refine G_lstore_n rfl K dX3_growOneStep_91 (Nat.le_of_ble_eq_true rfl) rfl ?_
        refine G_iinc (v := x5 + 1) 4 rfl K dX3_growOneStep_92 rfl (Nat.le_of_ble_eq_true rfl) rfl ?_
        refine G_goto (tgt := 7) K dX3_growOneStep_95 (by decide) ?_
        exact G_lv (lv' := [(0, .ref (g.2.1 80)), (1, .long (x1 + r8)), (3, .long (x3 + s0)), (5, .int (x5 + 1))]) [4, 1, 2, 0] rfl (E7 (x1 + r8) (x3 + s0) (x5 + 1) r6 (wpO_some h))
    intro z h
    unfold F_Crowd_growOneStep_b7 at h
    refine G_iload 3 rfl K dX3_growOneStep_7 ?_
    refine G_bipush (v := 8) rfl K dX3_growOneStep_9 ?_
    refine G_icmp_ge (tgt := 98) K dX3_growOneStep_11 (by decide) (fun hc => ?_) (fun hc => ?_)
    · have h := wpO_t h hc
      have h := X7 _ (wpO_some h)
      try dsimp only at h
      exact G_lv (lv' := [(0, .ref (g.2.1 80)), (1, .long z.1), (3, .long z.2.1)]) [0, 1, 2] rfl (J98 z.1 z.2.1 z.2.2.2 h)
    · have h := wpO_f h hc
      refine G_aload_n rfl 0 rfl K dX3_growOneStep_14 ?_
      refine G_iload 3 rfl K dX3_growOneStep_15 ?_
      obtain ⟨r5, e5, h⟩ := wpO_bind h
      refine G_callVi (ci := 3) [.int z.2.2.1] [] K dX3_growOneStep_17 wv_1338 yd_X3_isThere (Nat.le_of_ble_eq_true rfl) (sh_80 _ _) rfl (by decide) (by decide) rfl rfl (Nat.le_of_ble_eq_true rfl) (K_Crowd_isThere l g htr z.2.2.1 z.2.2.2 _ e5) ?_
      refine G_ifb_eq (tgt := 45) K dX3_growOneStep_20 (by decide) (fun hc => ?_) (fun hc => ?_)
      · have h := wpO_bf h hc
        refine G_lconst (v := 0) rfl K dX3_growOneStep_45 ?_
        exact J46 z.1 z.2.1 z.2.2.1 0 z.2.2.2 h
      · have h := wpO_t h hc
        refine G_aload_n rfl 0 rfl K dX3_growOneStep_23 ?_
        refine G_get (ci := 3) (k := 0) K rfl in_X3 wd_346 rfl dX3_growOneStep_24 (Nat.le_of_ble_eq_true rfl) (sh_80 _ _) (Nat.le_of_ble_eq_true rfl) rfl ?_
        refine G_get (ci := 10) (k := 12) K rfl in_X10 wd_100 rfl dX3_growOneStep_27 (Nat.le_of_ble_eq_true rfl) (sh_1 _ _) (Nat.le_of_ble_eq_true rfl) rfl ?_
        refine G_iload 3 rfl K dX3_growOneStep_30 ?_
        obtain ⟨r9, e9, h⟩ := wpO_bind h
        refine G_callVl (ci := 7) [.int z.2.2.1] [] K dX3_growOneStep_32 wv_1342 yd_X7_at (Nat.le_of_ble_eq_true rfl) (sh_8 _ _) rfl (by decide) (by decide) rfl rfl (Nat.le_of_ble_eq_true rfl) (K_Row_at l g htr 8 9 8 isRow_8 z.2.2.1 z.2.2.2 _ e9) ?_
        refine G_aload_n rfl 0 rfl K dX3_growOneStep_35 ?_
        refine G_iload 3 rfl K dX3_growOneStep_36 ?_
        obtain ⟨r10, e10, h⟩ := wpO_bind h
        refine G_callVl (ci := 3) [.int z.2.2.1] [.long r9] K dX3_growOneStep_38 wv_1348 yd_X3_fitOf (Nat.le_of_ble_eq_true rfl) (sh_80 _ _) rfl (by decide) (by decide) rfl rfl (Nat.le_of_ble_eq_true rfl) (K_Crowd_fitOf l g htr z.2.2.1 z.2.2.2 _ e10) ?_
        refine G_lmul K dX3_growOneStep_41 ?_
        refine G_goto (tgt := 46) K dX3_growOneStep_42 (by decide) ?_
        exact J46 z.1 z.2.1 z.2.2.1 (r9 * r10) z.2.2.2 h
  unfold F_Crowd_growOneStep at h
  refine G_lconst (v := 0) rfl K dX3_growOneStep_0 ?_
  refine G_lstore_n rfl K dX3_growOneStep_1 (Nat.le_of_ble_eq_true rfl) rfl ?_
  refine G_lconst (v := 0) rfl K dX3_growOneStep_2 ?_
  refine G_lstore_n rfl K dX3_growOneStep_3 (Nat.le_of_ble_eq_true rfl) rfl ?_
  refine G_iconst (v := 0) rfl K dX3_growOneStep_4 ?_
  refine G_istore K dX3_growOneStep_5 (Nat.le_of_ble_eq_true rfl) rfl ?_
  exact G_lv (lv' := [(0, .ref (g.2.1 80)), (1, .long 0), (3, .long 0), (5, .int 0)]) [3, 2, 1, 0] rfl (J7 0 0 0 M h)
theorem yd_X3_meetAll : ydN yX3_meetAll 0 := ⟨by decide, by decide, by decide +kernel⟩
theorem yd_X3_growOneStep : ydN yX3_growOneStep 0 := ⟨by decide, by decide, by decide +kernel⟩
theorem wv_1334 : wdV "KeptWell$Crowd" 74 yX3_meetAll cX3_meetAll 4 none := ⟨wd_1334, wd_1336, ws_X3_meetAll, wd_11, wd_1337⟩
theorem wv_1344 : wdV "KeptWell$Crowd" 77 yX3_growOneStep cX3_growOneStep 8 (some .boolean) := ⟨wd_1344, wd_1346, ws_X3_growOneStep, wd_11, wd_1347⟩
def on_X3_growSteps : Nat := 0xac1ce9ffa70103843d60030400a7040700994d00b62a1c1800a21b1d3e033d034a00b62a4300b62a
theorem ob_X3_growSteps : OKB cX3_growSteps on_X3_growSteps 40 := ⟨by decide +kernel, by decide +kernel⟩
theorem dX3_growSteps_0 : dc cX3_growSteps 0 1 (.aload_n 0) 1 := o_42 ob_X3_growSteps rfl rfl rfl
theorem dX3_growSteps_1 : dc cX3_growSteps 1 4 (.invokevirtual 67) 3 := o_182 ob_X3_growSteps rfl rfl rfl rfl
theorem dX3_growSteps_4 : dc cX3_growSteps 4 5 (.aload_n 0) 1 := o_42 ob_X3_growSteps rfl rfl rfl
theorem dX3_growSteps_5 : dc cX3_growSteps 5 8 (.invokevirtual 74) 3 := o_182 ob_X3_growSteps rfl rfl rfl rfl
theorem dX3_growSteps_8 : dc cX3_growSteps 8 9 (.iconst 0) 1 := o_3 ob_X3_growSteps rfl rfl rfl
theorem dX3_growSteps_9 : dc cX3_growSteps 9 10 (.istore_n 2) 1 := o_61 ob_X3_growSteps rfl rfl rfl
theorem dX3_growSteps_10 : dc cX3_growSteps 10 11 (.iconst 0) 1 := o_3 ob_X3_growSteps rfl rfl rfl
theorem dX3_growSteps_11 : dc cX3_growSteps 11 12 (.istore_n 3) 1 := o_62 ob_X3_growSteps rfl rfl rfl
theorem dX3_growSteps_12 : dc cX3_growSteps 12 13 (.iload_n 3) 1 := o_29 ob_X3_growSteps rfl rfl rfl
theorem dX3_growSteps_13 : dc cX3_growSteps 13 14 (.iload_n 1) 1 := o_27 ob_X3_growSteps rfl rfl rfl
theorem dX3_growSteps_14 : dc cX3_growSteps 14 17 (.if_icmp .ge 24) 3 := o_162 ob_X3_growSteps rfl rfl rfl rfl
theorem dX3_growSteps_17 : dc cX3_growSteps 17 18 (.iload_n 2) 1 := o_28 ob_X3_growSteps rfl rfl rfl
theorem dX3_growSteps_18 : dc cX3_growSteps 18 19 (.aload_n 0) 1 := o_42 ob_X3_growSteps rfl rfl rfl
theorem dX3_growSteps_19 : dc cX3_growSteps 19 22 (.invokevirtual 77) 3 := o_182 ob_X3_growSteps rfl rfl rfl rfl
theorem dX3_growSteps_22 : dc cX3_growSteps 22 25 (.ifCond .eq 7) 3 := o_153 ob_X3_growSteps rfl rfl rfl rfl
theorem dX3_growSteps_25 : dc cX3_growSteps 25 26 (.iconst 1) 1 := o_4 ob_X3_growSteps rfl rfl rfl
theorem dX3_growSteps_26 : dc cX3_growSteps 26 29 (.goto 4) 3 := o_167 ob_X3_growSteps rfl rfl rfl rfl
theorem dX3_growSteps_29 : dc cX3_growSteps 29 30 (.iconst 0) 1 := o_3 ob_X3_growSteps rfl rfl rfl
theorem dX3_growSteps_30 : dc cX3_growSteps 30 31 .iadd 1 := o_96 ob_X3_growSteps rfl rfl rfl
theorem dX3_growSteps_31 : dc cX3_growSteps 31 32 (.istore_n 2) 1 := o_61 ob_X3_growSteps rfl rfl rfl
theorem dX3_growSteps_32 : dc cX3_growSteps 32 35 (.iinc 3 1) 3 := o_132 ob_X3_growSteps rfl rfl rfl rfl rfl
theorem dX3_growSteps_35 : dc cX3_growSteps 35 38 (.goto (-23)) 3 := o_167 ob_X3_growSteps rfl rfl rfl rfl
theorem dX3_growSteps_38 : dc cX3_growSteps 38 39 (.iload_n 2) 1 := o_28 ob_X3_growSteps rfl rfl rfl
theorem dX3_growSteps_39 : dc cX3_growSteps 39 40 .ireturn 1 := o_172 ob_X3_growSteps rfl rfl rfl
def F_Crowd_growSteps_b12 (x1 : Int32) (z : Int32 × Int32 × Mem) : Option ((Int32 × Int32 × Mem) ⊕ ((Int32 × Mem))) :=
  if x1 ≤ z.2.1 then some (.inr ((z.1, z.2.2))) else (F_Crowd_growOneStep z.2.2).bind fun r3 => if r3.1 = true then some (.inl ((z.1 + 1, z.2.1 + 1, r3.2))) else some (.inl ((z.1 + 0, z.2.1 + 1, r3.2)))
def F_Crowd_growSteps_l12 (x1 : Int32) (x2 : Int32) (x3 : Int32) (M : Mem) : Option (Int32 × Mem) :=
  (iter (F_Crowd_growSteps_b12 x1) FUEL (x2, x3, M)).bind fun r => some ((r.1, r.2))
def F_Crowd_growSteps (x1 : Int32) (M : Mem) : Option (Int32 × Mem) :=
  (F_Crowd_seeWhoIsThere M).bind fun r1 => (F_Crowd_meetAll r1).bind fun r2 => F_Crowd_growSteps_l12 x1 0 0 r2
set_option maxRecDepth 100000 in
set_option maxHeartbeats 4000000 in
theorem K_Crowd_growSteps (l : Launch) (g : GB) (htr : l.stackTraces = false) (x1 : Int32) (M : Mem) (rr : Int32) (MZ : Mem) (h : F_Crowd_growSteps x1 M = some (rr, MZ)) : CT l g yX3_growSteps (.code yX3_growSteps cX3_growSteps 4 (some .int) :: wAll) { frames := 5, cells := 0, slots := 0, locals := 115 } [.ref (g.2.1 80), .int x1] M (.inl (some (.int rr))) MZ := by
  refine CT.of [(0, .ref (g.2.1 80)), (1, .int x1)] (by decide +kernel) (Nat.le_of_ble_eq_true rfl) rfl htr ?_
  intro p e s m args below meth c K hr ht
  skip
  obtain ⟨PHI, hPHI, h⟩ : ∃ PHI : Int32 × Mem → Prop, (∀ a, PHI a → a = (rr, MZ)) ∧ wpO (F_Crowd_growSteps x1 M) PHI := ⟨fun a => a = (rr, MZ), fun _ h => h, _, h, rfl⟩
  have J12 : ∀ (x1 : Int32) (x2 : Int32) (x3 : Int32) (M : Mem), wpO (F_Crowd_growSteps_l12 x1 x2 x3 M) PHI → GG p l e { frames := 5, cells := 0, slots := 0, locals := 115 } s m args below meth c g 4 (vx_MQ below (Qn g s.heap.size (.inl (some (.int rr))) MZ) (QX g s.heap.size (.inl (some (.int rr))) MZ) args s 0 0 (AS g s.heap.size)) 0 0 12 [(0, .ref (g.2.1 80)), (1, .int x1), (2, .int x2), (3, .int x3)] [] M := by
    intro x1 x2 x3 M h
    unfold F_Crowd_growSteps_l12 at h
    refine loop_C3 (G := fun (x2 : Int32) (x3 : Int32) (M : Mem) => GG p l e { frames := 5, cells := 0, slots := 0, locals := 115 } s m args below meth c g 4 (vx_MQ below (Qn g s.heap.size (.inl (some (.int rr))) MZ) (QX g s.heap.size (.inl (some (.int rr))) MZ) args s 0 0 (AS g s.heap.size)) 0 0 12 [(0, .ref (g.2.1 80)), (1, .int x1), (2, .int x2), (3, .int x3)] [] M) (body := F_Crowd_growSteps_b12 x1) ?_ FUEL _ _ _ (wpO_bind h)
    intro P12 E12 X12
    intro z h
    unfold F_Crowd_growSteps_b12 at h
    refine G_iload_n rfl 3 rfl K dX3_growSteps_12 ?_
    refine G_iload_n rfl 1 rfl K dX3_growSteps_13 ?_
    refine G_icmp_ge (tgt := 38) K dX3_growSteps_14 (by decide) (fun hc => ?_) (fun hc => ?_)
    · have h := wpO_t h hc
      have h := X12 _ (wpO_some h)
      try dsimp only at h
      refine G_iload_n rfl 2 rfl K dX3_growSteps_38 ?_
      cases hPHI _ (wpO_some h)
      exact G_iret K hr rfl dX3_growSteps_39 (Nat.le_of_ble_eq_true rfl) (Nat.le_of_ble_eq_true rfl) ⟨rfl, rfl⟩
    · have h := wpO_f h hc
      refine G_iload_n rfl 2 rfl K dX3_growSteps_17 ?_
      refine G_aload_n rfl 0 rfl K dX3_growSteps_18 ?_
      obtain ⟨r3, e3, h⟩ := wpO_bind h
      refine G_callVi (ci := 3) [] [.int z.1] K dX3_growSteps_19 wv_1344 yd_X3_growOneStep (Nat.le_of_ble_eq_true rfl) (sh_80 _ _) rfl (by decide) (by decide) rfl rfl (Nat.le_of_ble_eq_true rfl) (K_Crowd_growOneStep l g htr  z.2.2 _ _ e3) ?_
      refine G_ifb_eq (tgt := 29) K dX3_growSteps_22 (by decide) (fun hc => ?_) (fun hc => ?_)
      · have h := wpO_bf h hc
        refine G_iconst (v := 0) rfl K dX3_growSteps_29 ?_
        refine G_iadd K dX3_growSteps_30 ?_
        refine G_istore_n rfl K dX3_growSteps_31 (Nat.le_of_ble_eq_true rfl) rfl ?_
        refine G_iinc (v := z.2.1 + 1) 3 rfl K dX3_growSteps_32 rfl (Nat.le_of_ble_eq_true rfl) rfl ?_
        refine G_goto (tgt := 12) K dX3_growSteps_35 (by decide) ?_
        exact G_lv (lv' := [(0, .ref (g.2.1 80)), (1, .int x1), (2, .int (z.1 + 0)), (3, .int (z.2.1 + 1))]) [2, 3, 1, 0] rfl (E12 (z.1 + 0) (z.2.1 + 1) r3.2 (wpO_some h))
      · have h := wpO_t h hc
        refine G_iconst (v := 1) rfl K dX3_growSteps_25 ?_
        refine G_goto (tgt := 30) K dX3_growSteps_26 (by decide) ?_
        refine G_iadd K dX3_growSteps_30 ?_
        refine G_istore_n rfl K dX3_growSteps_31 (Nat.le_of_ble_eq_true rfl) rfl ?_
        refine G_iinc (v := z.2.1 + 1) 3 rfl K dX3_growSteps_32 rfl (Nat.le_of_ble_eq_true rfl) rfl ?_
        refine G_goto (tgt := 12) K dX3_growSteps_35 (by decide) ?_
        exact G_lv (lv' := [(0, .ref (g.2.1 80)), (1, .int x1), (2, .int (z.1 + 1)), (3, .int (z.2.1 + 1))]) [2, 3, 1, 0] rfl (E12 (z.1 + 1) (z.2.1 + 1) r3.2 (wpO_some h))
  unfold F_Crowd_growSteps at h
  refine G_aload_n rfl 0 rfl K dX3_growSteps_0 ?_
  obtain ⟨r1, e1, h⟩ := wpO_bind h
  refine G_callVv (ci := 3) [] [] K dX3_growSteps_1 wv_1328 yd_X3_seeWhoIsThere (Nat.le_of_ble_eq_true rfl) (sh_80 _ _) rfl (by decide) (by decide) rfl rfl (Nat.le_of_ble_eq_true rfl) (K_Crowd_seeWhoIsThere l g htr  M _ e1) ?_
  refine G_aload_n rfl 0 rfl K dX3_growSteps_4 ?_
  obtain ⟨r2, e2, h⟩ := wpO_bind h
  refine G_callVv (ci := 3) [] [] K dX3_growSteps_5 wv_1334 yd_X3_meetAll (Nat.le_of_ble_eq_true rfl) (sh_80 _ _) rfl (by decide) (by decide) rfl rfl (Nat.le_of_ble_eq_true rfl) (K_Crowd_meetAll l g htr  r1 _ e2) ?_
  refine G_iconst (v := 0) rfl K dX3_growSteps_8 ?_
  refine G_istore_n rfl K dX3_growSteps_9 (Nat.le_of_ble_eq_true rfl) rfl ?_
  refine G_iconst (v := 0) rfl K dX3_growSteps_10 ?_
  refine G_istore_n rfl K dX3_growSteps_11 (Nat.le_of_ble_eq_true rfl) rfl ?_
  exact G_lv (lv' := [(0, .ref (g.2.1 80)), (1, .int x1), (2, .int 0), (3, .int 0)]) [2, 3, 1, 0] rfl (J12 x1 0 0 r2 h)
theorem wv_1256 : wdV "KeptWell$Walk" 48 yX7_small cX7_small 2 (some .int) := ⟨wd_1256, wd_480, wd_481, wd_3, wd_482⟩
def on_X9_firstOtherwise : Nat := 0xac0298ffa70103843a00b6041505152aac6004681d0509009f3600b61500b42a0f00b42a1b00b42a0515ac681d0507009f3600b61200b42a0900b42a1b00b42a041505363000b66004681d052c00b41b00b42a04363000b6681d052c00b41b00b42a6300a22900b41b00b42a1d3e032500b61c1b2a
theorem ob_X9_firstOtherwise : OKB cX9_firstOtherwise on_X9_firstOtherwise 117 := ⟨by decide +kernel, by decide +kernel⟩
theorem dX9_firstOtherwise_0 : dc cX9_firstOtherwise 0 1 (.aload_n 0) 1 := o_42 ob_X9_firstOtherwise rfl rfl rfl
theorem dX9_firstOtherwise_1 : dc cX9_firstOtherwise 1 2 (.iload_n 1) 1 := o_27 ob_X9_firstOtherwise rfl rfl rfl
theorem dX9_firstOtherwise_2 : dc cX9_firstOtherwise 2 3 (.iload_n 2) 1 := o_28 ob_X9_firstOtherwise rfl rfl rfl
theorem dX9_firstOtherwise_3 : dc cX9_firstOtherwise 3 6 (.invokevirtual 37) 3 := o_182 ob_X9_firstOtherwise rfl rfl rfl rfl
theorem dX9_firstOtherwise_6 : dc cX9_firstOtherwise 6 7 (.iconst 0) 1 := o_3 ob_X9_firstOtherwise rfl rfl rfl
theorem dX9_firstOtherwise_7 : dc cX9_firstOtherwise 7 8 (.istore_n 3) 1 := o_62 ob_X9_firstOtherwise rfl rfl rfl
theorem dX9_firstOtherwise_8 : dc cX9_firstOtherwise 8 9 (.iload_n 3) 1 := o_29 ob_X9_firstOtherwise rfl rfl rfl
theorem dX9_firstOtherwise_9 : dc cX9_firstOtherwise 9 10 (.aload_n 0) 1 := o_42 ob_X9_firstOtherwise rfl rfl rfl
theorem dX9_firstOtherwise_10 : dc cX9_firstOtherwise 10 13 (.getfield 27) 3 := o_180 ob_X9_firstOtherwise rfl rfl rfl rfl
theorem dX9_firstOtherwise_13 : dc cX9_firstOtherwise 13 16 (.getfield 41) 3 := o_180 ob_X9_firstOtherwise rfl rfl rfl rfl
theorem dX9_firstOtherwise_16 : dc cX9_firstOtherwise 16 19 (.if_icmp .ge 99) 3 := o_162 ob_X9_firstOtherwise rfl rfl rfl rfl
theorem dX9_firstOtherwise_19 : dc cX9_firstOtherwise 19 20 (.aload_n 0) 1 := o_42 ob_X9_firstOtherwise rfl rfl rfl
theorem dX9_firstOtherwise_20 : dc cX9_firstOtherwise 20 23 (.getfield 27) 3 := o_180 ob_X9_firstOtherwise rfl rfl rfl rfl
theorem dX9_firstOtherwise_23 : dc cX9_firstOtherwise 23 26 (.getfield 44) 3 := o_180 ob_X9_firstOtherwise rfl rfl rfl rfl
theorem dX9_firstOtherwise_26 : dc cX9_firstOtherwise 26 27 (.iconst 2) 1 := o_5 ob_X9_firstOtherwise rfl rfl rfl
theorem dX9_firstOtherwise_27 : dc cX9_firstOtherwise 27 28 (.iload_n 3) 1 := o_29 ob_X9_firstOtherwise rfl rfl rfl
theorem dX9_firstOtherwise_28 : dc cX9_firstOtherwise 28 29 .imul 1 := o_104 ob_X9_firstOtherwise rfl rfl rfl
theorem dX9_firstOtherwise_29 : dc cX9_firstOtherwise 29 32 (.invokevirtual 48) 3 := o_182 ob_X9_firstOtherwise rfl rfl rfl rfl
theorem dX9_firstOtherwise_32 : dc cX9_firstOtherwise 32 34 (.istore 4) 2 := o_54 ob_X9_firstOtherwise rfl rfl rfl rfl
theorem dX9_firstOtherwise_34 : dc cX9_firstOtherwise 34 35 (.aload_n 0) 1 := o_42 ob_X9_firstOtherwise rfl rfl rfl
theorem dX9_firstOtherwise_35 : dc cX9_firstOtherwise 35 38 (.getfield 27) 3 := o_180 ob_X9_firstOtherwise rfl rfl rfl rfl
theorem dX9_firstOtherwise_38 : dc cX9_firstOtherwise 38 41 (.getfield 44) 3 := o_180 ob_X9_firstOtherwise rfl rfl rfl rfl
theorem dX9_firstOtherwise_41 : dc cX9_firstOtherwise 41 42 (.iconst 2) 1 := o_5 ob_X9_firstOtherwise rfl rfl rfl
theorem dX9_firstOtherwise_42 : dc cX9_firstOtherwise 42 43 (.iload_n 3) 1 := o_29 ob_X9_firstOtherwise rfl rfl rfl
theorem dX9_firstOtherwise_43 : dc cX9_firstOtherwise 43 44 .imul 1 := o_104 ob_X9_firstOtherwise rfl rfl rfl
theorem dX9_firstOtherwise_44 : dc cX9_firstOtherwise 44 45 (.iconst 1) 1 := o_4 ob_X9_firstOtherwise rfl rfl rfl
theorem dX9_firstOtherwise_45 : dc cX9_firstOtherwise 45 46 .iadd 1 := o_96 ob_X9_firstOtherwise rfl rfl rfl
theorem dX9_firstOtherwise_46 : dc cX9_firstOtherwise 46 49 (.invokevirtual 48) 3 := o_182 ob_X9_firstOtherwise rfl rfl rfl rfl
theorem dX9_firstOtherwise_49 : dc cX9_firstOtherwise 49 51 (.istore 5) 2 := o_54 ob_X9_firstOtherwise rfl rfl rfl rfl
theorem dX9_firstOtherwise_51 : dc cX9_firstOtherwise 51 53 (.iload 4) 2 := o_21 ob_X9_firstOtherwise rfl rfl rfl rfl
theorem dX9_firstOtherwise_53 : dc cX9_firstOtherwise 53 54 (.aload_n 0) 1 := o_42 ob_X9_firstOtherwise rfl rfl rfl
theorem dX9_firstOtherwise_54 : dc cX9_firstOtherwise 54 57 (.getfield 27) 3 := o_180 ob_X9_firstOtherwise rfl rfl rfl rfl
theorem dX9_firstOtherwise_57 : dc cX9_firstOtherwise 57 58 (.aload_n 0) 1 := o_42 ob_X9_firstOtherwise rfl rfl rfl
theorem dX9_firstOtherwise_58 : dc cX9_firstOtherwise 58 61 (.getfield 9) 3 := o_180 ob_X9_firstOtherwise rfl rfl rfl rfl
theorem dX9_firstOtherwise_61 : dc cX9_firstOtherwise 61 62 (.aload_n 0) 1 := o_42 ob_X9_firstOtherwise rfl rfl rfl
theorem dX9_firstOtherwise_62 : dc cX9_firstOtherwise 62 65 (.getfield 18) 3 := o_180 ob_X9_firstOtherwise rfl rfl rfl rfl
theorem dX9_firstOtherwise_65 : dc cX9_firstOtherwise 65 68 (.invokevirtual 54) 3 := o_182 ob_X9_firstOtherwise rfl rfl rfl rfl
theorem dX9_firstOtherwise_68 : dc cX9_firstOtherwise 68 71 (.if_icmp .eq 7) 3 := o_159 ob_X9_firstOtherwise rfl rfl rfl rfl
theorem dX9_firstOtherwise_71 : dc cX9_firstOtherwise 71 72 (.iconst 2) 1 := o_5 ob_X9_firstOtherwise rfl rfl rfl
theorem dX9_firstOtherwise_72 : dc cX9_firstOtherwise 72 73 (.iload_n 3) 1 := o_29 ob_X9_firstOtherwise rfl rfl rfl
theorem dX9_firstOtherwise_73 : dc cX9_firstOtherwise 73 74 .imul 1 := o_104 ob_X9_firstOtherwise rfl rfl rfl
theorem dX9_firstOtherwise_74 : dc cX9_firstOtherwise 74 75 .ireturn 1 := o_172 ob_X9_firstOtherwise rfl rfl rfl
theorem dX9_firstOtherwise_75 : dc cX9_firstOtherwise 75 77 (.iload 5) 2 := o_21 ob_X9_firstOtherwise rfl rfl rfl rfl
theorem dX9_firstOtherwise_77 : dc cX9_firstOtherwise 77 78 (.aload_n 0) 1 := o_42 ob_X9_firstOtherwise rfl rfl rfl
theorem dX9_firstOtherwise_78 : dc cX9_firstOtherwise 78 81 (.getfield 27) 3 := o_180 ob_X9_firstOtherwise rfl rfl rfl rfl
theorem dX9_firstOtherwise_81 : dc cX9_firstOtherwise 81 82 (.aload_n 0) 1 := o_42 ob_X9_firstOtherwise rfl rfl rfl
theorem dX9_firstOtherwise_82 : dc cX9_firstOtherwise 82 85 (.getfield 15) 3 := o_180 ob_X9_firstOtherwise rfl rfl rfl rfl
theorem dX9_firstOtherwise_85 : dc cX9_firstOtherwise 85 86 (.aload_n 0) 1 := o_42 ob_X9_firstOtherwise rfl rfl rfl
theorem dX9_firstOtherwise_86 : dc cX9_firstOtherwise 86 89 (.getfield 21) 3 := o_180 ob_X9_firstOtherwise rfl rfl rfl rfl
theorem dX9_firstOtherwise_89 : dc cX9_firstOtherwise 89 92 (.invokevirtual 54) 3 := o_182 ob_X9_firstOtherwise rfl rfl rfl rfl
theorem dX9_firstOtherwise_92 : dc cX9_firstOtherwise 92 95 (.if_icmp .eq 9) 3 := o_159 ob_X9_firstOtherwise rfl rfl rfl rfl
theorem dX9_firstOtherwise_95 : dc cX9_firstOtherwise 95 96 (.iconst 2) 1 := o_5 ob_X9_firstOtherwise rfl rfl rfl
theorem dX9_firstOtherwise_96 : dc cX9_firstOtherwise 96 97 (.iload_n 3) 1 := o_29 ob_X9_firstOtherwise rfl rfl rfl
theorem dX9_firstOtherwise_97 : dc cX9_firstOtherwise 97 98 .imul 1 := o_104 ob_X9_firstOtherwise rfl rfl rfl
theorem dX9_firstOtherwise_98 : dc cX9_firstOtherwise 98 99 (.iconst 1) 1 := o_4 ob_X9_firstOtherwise rfl rfl rfl
theorem dX9_firstOtherwise_99 : dc cX9_firstOtherwise 99 100 .iadd 1 := o_96 ob_X9_firstOtherwise rfl rfl rfl
theorem dX9_firstOtherwise_100 : dc cX9_firstOtherwise 100 101 .ireturn 1 := o_172 ob_X9_firstOtherwise rfl rfl rfl
theorem dX9_firstOtherwise_101 : dc cX9_firstOtherwise 101 102 (.aload_n 0) 1 := o_42 ob_X9_firstOtherwise rfl rfl rfl
theorem dX9_firstOtherwise_102 : dc cX9_firstOtherwise 102 104 (.iload 5) 2 := o_21 ob_X9_firstOtherwise rfl rfl rfl rfl
theorem dX9_firstOtherwise_104 : dc cX9_firstOtherwise 104 106 (.iload 4) 2 := o_21 ob_X9_firstOtherwise rfl rfl rfl rfl
theorem dX9_firstOtherwise_106 : dc cX9_firstOtherwise 106 109 (.invokevirtual 58) 3 := o_182 ob_X9_firstOtherwise rfl rfl rfl rfl
theorem dX9_firstOtherwise_109 : dc cX9_firstOtherwise 109 112 (.iinc 3 1) 3 := o_132 ob_X9_firstOtherwise rfl rfl rfl rfl rfl
theorem dX9_firstOtherwise_112 : dc cX9_firstOtherwise 112 115 (.goto (-104)) 3 := o_167 ob_X9_firstOtherwise rfl rfl rfl rfl
theorem dX9_firstOtherwise_115 : dc cX9_firstOtherwise 115 116 (.iconst (-1)) 1 := o_2 ob_X9_firstOtherwise rfl rfl rfl
theorem dX9_firstOtherwise_116 : dc cX9_firstOtherwise 116 117 .ireturn 1 := o_172 ob_X9_firstOtherwise rfl rfl rfl
def F_Walk_firstOtherwise_b8 (z : Int32 × Mem) : Option ((Int32 × Mem) ⊕ ((Int32 × Mem) ⊕ ((Int32 × Mem) ⊕ ((Mem))))) :=
  if (z.2.1 1 7) ≤ z.1 then some (.inr (.inr (.inr z.2))) else (F_Row_small 7 400 (2 * z.1) z.2).bind fun r2 => (F_Row_small 7 400 ((2 * z.1) + 1) z.2).bind fun r3 => (F_Well_actOf (z.2.1 79 1) (z.2.1 79 3) z.2).bind fun r4 => if r2 = r4 then (F_Well_actOf (z.2.1 79 2) (z.2.1 79 4) z.2).bind fun r5 => if r3 = r5 then (F_Walk_goOn r3 r2 z.2).bind fun r6 => some (.inl ((z.1 + 1, r6))) else some (.inr (.inr (.inl ((z.1, z.2))))) else some (.inr (.inl ((z.1, z.2))))
def F_Walk_firstOtherwise_l8 (x3 : Int32) (M : Mem) : Option (Int32 × Mem) :=
  (iter (F_Walk_firstOtherwise_b8) FUEL (x3, M)).bind fun q => match q with
    | .inl r => some ((2 * r.1, r.2))
    | .inr (.inl r) => some (((2 * r.1) + 1, r.2))
    | .inr (.inr r) => some (((-1), r))
def F_Walk_firstOtherwise (x1 : Int32) (x2 : Int32) (M : Mem) : Option (Int32 × Mem) :=
  (F_Walk_start x1 x2 M).bind fun r1 => F_Walk_firstOtherwise_l8 0 r1
set_option maxRecDepth 100000 in
set_option maxHeartbeats 4000000 in
theorem K_Walk_firstOtherwise (l : Launch) (g : GB) (htr : l.stackTraces = false) (x1 : Int32) (x2 : Int32) (M : Mem) (rr : Int32) (MZ : Mem) (h : F_Walk_firstOtherwise x1 x2 M = some (rr, MZ)) : CT l g yX9_firstOtherwise (.code yX9_firstOtherwise cX9_firstOtherwise 6 (some .int) :: wAll) { frames := 3, cells := 0, slots := 0, locals := 66 } [.ref (g.2.1 79), .int x1, .int x2] M (.inl (some (.int rr))) MZ := by
  refine CT.of [(0, .ref (g.2.1 79)), (1, .int x1), (2, .int x2)] (by decide +kernel) (Nat.le_of_ble_eq_true rfl) rfl htr ?_
  intro p e s m args below meth c K hr ht
  skip
  obtain ⟨PHI, hPHI, h⟩ : ∃ PHI : Int32 × Mem → Prop, (∀ a, PHI a → a = (rr, MZ)) ∧ wpO (F_Walk_firstOtherwise x1 x2 M) PHI := ⟨fun a => a = (rr, MZ), fun _ h => h, _, h, rfl⟩
  have J8 : ∀ (x3 : Int32) (M : Mem), wpO (F_Walk_firstOtherwise_l8 x3 M) PHI → GG p l e { frames := 3, cells := 0, slots := 0, locals := 66 } s m args below meth c g 6 (vx_MQ below (Qn g s.heap.size (.inl (some (.int rr))) MZ) (QX g s.heap.size (.inl (some (.int rr))) MZ) args s 0 0 (AS g s.heap.size)) 0 0 8 [(0, .ref (g.2.1 79)), (3, .int x3)] [] M := by
    intro x3 M h
    unfold F_Walk_firstOtherwise_l8 at h
    refine loop_C2 (G := fun (x3 : Int32) (M : Mem) => GG p l e { frames := 3, cells := 0, slots := 0, locals := 66 } s m args below meth c g 6 (vx_MQ below (Qn g s.heap.size (.inl (some (.int rr))) MZ) (QX g s.heap.size (.inl (some (.int rr))) MZ) args s 0 0 (AS g s.heap.size)) 0 0 8 [(0, .ref (g.2.1 79)), (3, .int x3)] [] M) (body := F_Walk_firstOtherwise_b8) ?_ FUEL _ _ (wpO_bind h)
    intro P8 E8 X8
    intro z h
    unfold F_Walk_firstOtherwise_b8 at h
    refine G_iload_n rfl 1 rfl K dX9_firstOtherwise_8 ?_
    refine G_aload_n rfl 0 rfl K dX9_firstOtherwise_9 ?_
    refine G_get (ci := 9) (k := 0) K rfl in_X9 wd_319 rfl dX9_firstOtherwise_10 (Nat.le_of_ble_eq_true rfl) (sh_79 _ _) (Nat.le_of_ble_eq_true rfl) rfl ?_
    refine G_get (ci := 10) (k := 7) K rfl in_X10 wd_89 rfl dX9_firstOtherwise_13 (Nat.le_of_ble_eq_true rfl) (sh_1 _ _) (Nat.le_of_ble_eq_true rfl) rfl ?_
    refine G_icmp_ge (tgt := 115) K dX9_firstOtherwise_16 (by decide) (fun hc => ?_) (fun hc => ?_)
    · have h := wpO_t h hc
      have h := X8 _ (wpO_some h)
      try dsimp only at h
      refine G_iconst (v := (-1)) rfl K dX9_firstOtherwise_115 ?_
      cases hPHI _ (wpO_some h)
      exact G_iret K hr rfl dX9_firstOtherwise_116 (Nat.le_of_ble_eq_true rfl) (Nat.le_of_ble_eq_true rfl) ⟨rfl, rfl⟩
    · have h := wpO_f h hc
      refine G_aload_n rfl 0 rfl K dX9_firstOtherwise_19 ?_
      refine G_get (ci := 9) (k := 0) K rfl in_X9 wd_319 rfl dX9_firstOtherwise_20 (Nat.le_of_ble_eq_true rfl) (sh_79 _ _) (Nat.le_of_ble_eq_true rfl) rfl ?_
      refine G_get (ci := 10) (k := 11) K rfl in_X10 wd_97 rfl dX9_firstOtherwise_23 (Nat.le_of_ble_eq_true rfl) (sh_1 _ _) (Nat.le_of_ble_eq_true rfl) rfl ?_
      refine G_iconst (v := 2) rfl K dX9_firstOtherwise_26 ?_
      refine G_iload_n rfl 1 rfl K dX9_firstOtherwise_27 ?_
      refine G_imul K dX9_firstOtherwise_28 ?_
      obtain ⟨r2, e2, h⟩ := wpO_bind h
      refine G_callVi (ci := 7) [.int (2 * z.1)] [] K dX9_firstOtherwise_29 wv_1256 yd_X7_small (Nat.le_of_ble_eq_true rfl) (sh_6 _ _) rfl (by decide) (by decide) rfl rfl (Nat.le_of_ble_eq_true rfl) (K_Row_small l g htr 6 7 400 isRow_6 (2 * z.1) z.2 _ e2) ?_
      refine G_istore K dX9_firstOtherwise_32 (Nat.le_of_ble_eq_true rfl) rfl ?_
      refine G_aload_n rfl 1 rfl K dX9_firstOtherwise_34 ?_
      refine G_get (ci := 9) (k := 0) K rfl in_X9 wd_319 rfl dX9_firstOtherwise_35 (Nat.le_of_ble_eq_true rfl) (sh_79 _ _) (Nat.le_of_ble_eq_true rfl) rfl ?_
      refine G_get (ci := 10) (k := 11) K rfl in_X10 wd_97 rfl dX9_firstOtherwise_38 (Nat.le_of_ble_eq_true rfl) (sh_1 _ _) (Nat.le_of_ble_eq_true rfl) rfl ?_
      refine G_iconst (v := 2) rfl K dX9_firstOtherwise_41 ?_
      refine G_iload_n rfl 2 rfl K dX9_firstOtherwise_42 ?_
      refine G_imul K dX9_firstOtherwise_43 ?_
      refine G_iconst (v := 1) rfl K dX9_firstOtherwise_44 ?_
      refine G_iadd K dX9_firstOtherwise_45 ?_
      obtain ⟨r3, e3, h⟩ := wpO_bind h
      refine G_callVi (ci := 7) [.int ((2 * z.1) + 1)] [] K dX9_firstOtherwise_46 wv_1256 yd_X7_small (Nat.le_of_ble_eq_true rfl) (sh_6 _ _) rfl (by decide) (by decide) rfl rfl (Nat.le_of_ble_eq_true rfl) (K_Row_small l g htr 6 7 400 isRow_6 ((2 * z.1) + 1) z.2 _ e3) ?_
      refine G_istore K dX9_firstOtherwise_49 (Nat.le_of_ble_eq_true rfl) rfl ?_
      refine G_iload 1 rfl K dX9_firstOtherwise_51 ?_
      refine G_aload_n rfl 2 rfl K dX9_firstOtherwise_53 ?_
      refine G_get (ci := 9) (k := 0) K rfl in_X9 wd_319 rfl dX9_firstOtherwise_54 (Nat.le_of_ble_eq_true rfl) (sh_79 _ _) (Nat.le_of_ble_eq_true rfl) rfl ?_
      refine G_aload_n rfl 2 rfl K dX9_firstOtherwise_57 ?_
      refine G_get (ci := 9) (k := 1) K rfl in_X9 wd_320 rfl dX9_firstOtherwise_58 (Nat.le_of_ble_eq_true rfl) (sh_79 _ _) (Nat.le_of_ble_eq_true rfl) rfl ?_
      refine G_aload_n rfl 2 rfl K dX9_firstOtherwise_61 ?_
      refine G_get (ci := 9) (k := 3) K rfl in_X9 wd_322 rfl dX9_firstOtherwise_62 (Nat.le_of_ble_eq_true rfl) (sh_79 _ _) (Nat.le_of_ble_eq_true rfl) rfl ?_
      obtain ⟨r4, e4, h⟩ := wpO_bind h
      refine G_callVi (ci := 10) [.int (z.2.1 79 1), .int (z.2.1 79 3)] [.int r2] K dX9_firstOtherwise_65 wv_1257 yd_X10_actOf (Nat.le_of_ble_eq_true rfl) (sh_1 _ _) rfl (by decide) (by decide) rfl rfl (Nat.le_of_ble_eq_true rfl) (K_Well_actOf l g htr (z.2.1 79 1) (z.2.1 79 3) z.2 _ e4) ?_
      refine G_icmp_eq (tgt := 75) K dX9_firstOtherwise_68 (by decide) (fun hc => ?_) (fun hc => ?_)
      · have h := wpO_t h hc
        refine G_iload 0 rfl K dX9_firstOtherwise_75 ?_
        refine G_aload_n rfl 2 rfl K dX9_firstOtherwise_77 ?_
        refine G_get (ci := 9) (k := 0) K rfl in_X9 wd_319 rfl dX9_firstOtherwise_78 (Nat.le_of_ble_eq_true rfl) (sh_79 _ _) (Nat.le_of_ble_eq_true rfl) rfl ?_
        refine G_aload_n rfl 2 rfl K dX9_firstOtherwise_81 ?_
        refine G_get (ci := 9) (k := 2) K rfl in_X9 wd_321 rfl dX9_firstOtherwise_82 (Nat.le_of_ble_eq_true rfl) (sh_79 _ _) (Nat.le_of_ble_eq_true rfl) rfl ?_
        refine G_aload_n rfl 2 rfl K dX9_firstOtherwise_85 ?_
        refine G_get (ci := 9) (k := 4) K rfl in_X9 wd_323 rfl dX9_firstOtherwise_86 (Nat.le_of_ble_eq_true rfl) (sh_79 _ _) (Nat.le_of_ble_eq_true rfl) rfl ?_
        obtain ⟨r5, e5, h⟩ := wpO_bind h
        refine G_callVi (ci := 10) [.int (z.2.1 79 2), .int (z.2.1 79 4)] [.int r3] K dX9_firstOtherwise_89 wv_1257 yd_X10_actOf (Nat.le_of_ble_eq_true rfl) (sh_1 _ _) rfl (by decide) (by decide) rfl rfl (Nat.le_of_ble_eq_true rfl) (K_Well_actOf l g htr (z.2.1 79 2) (z.2.1 79 4) z.2 _ e5) ?_
        refine G_icmp_eq (tgt := 101) K dX9_firstOtherwise_92 (by decide) (fun hc => ?_) (fun hc => ?_)
        · have h := wpO_t h hc
          refine G_aload_n rfl 2 rfl K dX9_firstOtherwise_101 ?_
          refine G_iload 0 rfl K dX9_firstOtherwise_102 ?_
          refine G_iload 1 rfl K dX9_firstOtherwise_104 ?_
          obtain ⟨r6, e6, h⟩ := wpO_bind h
          refine G_callVv (ci := 9) [.int r3, .int r2] [] K dX9_firstOtherwise_106 wv_1258 yd_X9_goOn (Nat.le_of_ble_eq_true rfl) (sh_79 _ _) rfl (by decide) (by decide) rfl rfl (Nat.le_of_ble_eq_true rfl) (K_Walk_goOn l g htr r3 r2 z.2 _ e6) ?_
          refine G_iinc (v := z.1 + 1) 3 rfl K dX9_firstOtherwise_109 rfl (Nat.le_of_ble_eq_true rfl) rfl ?_
          refine G_goto (tgt := 8) K dX9_firstOtherwise_112 (by decide) ?_
          exact G_lv (lv' := [(0, .ref (g.2.1 79)), (3, .int (z.1 + 1))]) [3, 0] rfl (E8 (z.1 + 1) r6 (wpO_some h))
        · have h := wpO_f h hc
          have h := X8 _ (wpO_some h)
          try dsimp only at h
          refine G_iconst (v := 2) rfl K dX9_firstOtherwise_95 ?_
          refine G_iload_n rfl 3 rfl K dX9_firstOtherwise_96 ?_
          refine G_imul K dX9_firstOtherwise_97 ?_
          refine G_iconst (v := 1) rfl K dX9_firstOtherwise_98 ?_
          refine G_iadd K dX9_firstOtherwise_99 ?_
          cases hPHI _ (wpO_some h)
          exact G_iret K hr rfl dX9_firstOtherwise_100 (Nat.le_of_ble_eq_true rfl) (Nat.le_of_ble_eq_true rfl) ⟨rfl, rfl⟩
      · have h := wpO_f h hc
        have h := X8 _ (wpO_some h)
        try dsimp only at h
        refine G_iconst (v := 2) rfl K dX9_firstOtherwise_71 ?_
        refine G_iload_n rfl 3 rfl K dX9_firstOtherwise_72 ?_
        refine G_imul K dX9_firstOtherwise_73 ?_
        cases hPHI _ (wpO_some h)
        exact G_iret K hr rfl dX9_firstOtherwise_74 (Nat.le_of_ble_eq_true rfl) (Nat.le_of_ble_eq_true rfl) ⟨rfl, rfl⟩
  unfold F_Walk_firstOtherwise at h
  refine G_aload_n rfl 0 rfl K dX9_firstOtherwise_0 ?_
  refine G_iload_n rfl 1 rfl K dX9_firstOtherwise_1 ?_
  refine G_iload_n rfl 2 rfl K dX9_firstOtherwise_2 ?_
  obtain ⟨r1, e1, h⟩ := wpO_bind h
  refine G_callVv (ci := 9) [.int x1, .int x2] [] K dX9_firstOtherwise_3 wv_1252 yd_X9_start (Nat.le_of_ble_eq_true rfl) (sh_79 _ _) rfl (by decide) (by decide) rfl rfl (Nat.le_of_ble_eq_true rfl) (K_Walk_start l g htr x1 x2 M _ e1) ?_
  refine G_iconst (v := 0) rfl K dX9_firstOtherwise_6 ?_
  refine G_istore_n rfl K dX9_firstOtherwise_7 (Nat.le_of_ble_eq_true rfl) rfl ?_
  exact G_lv (lv' := [(0, .ref (g.2.1 79)), (3, .int 0)]) [1, 0] rfl (J8 0 r1 h)
def on_X9_broughtByRow : Nat := 0xac1ccbffa70103843d603d00b63000b66004681d052c00b41b00b42a3000b6681d052c00b41b00b42a1b1b00b42a1c3000a22900b41b00b42a1d3e033d03
theorem ob_X9_broughtByRow : OKB cX9_broughtByRow on_X9_broughtByRow 62 := ⟨by decide +kernel, by decide +kernel⟩
theorem dX9_broughtByRow_0 : dc cX9_broughtByRow 0 1 (.iconst 0) 1 := o_3 ob_X9_broughtByRow rfl rfl rfl
theorem dX9_broughtByRow_1 : dc cX9_broughtByRow 1 2 (.istore_n 2) 1 := o_61 ob_X9_broughtByRow rfl rfl rfl
theorem dX9_broughtByRow_2 : dc cX9_broughtByRow 2 3 (.iconst 0) 1 := o_3 ob_X9_broughtByRow rfl rfl rfl
theorem dX9_broughtByRow_3 : dc cX9_broughtByRow 3 4 (.istore_n 3) 1 := o_62 ob_X9_broughtByRow rfl rfl rfl
theorem dX9_broughtByRow_4 : dc cX9_broughtByRow 4 5 (.iload_n 3) 1 := o_29 ob_X9_broughtByRow rfl rfl rfl
theorem dX9_broughtByRow_5 : dc cX9_broughtByRow 5 6 (.aload_n 0) 1 := o_42 ob_X9_broughtByRow rfl rfl rfl
theorem dX9_broughtByRow_6 : dc cX9_broughtByRow 6 9 (.getfield 27) 3 := o_180 ob_X9_broughtByRow rfl rfl rfl rfl
theorem dX9_broughtByRow_9 : dc cX9_broughtByRow 9 12 (.getfield 41) 3 := o_180 ob_X9_broughtByRow rfl rfl rfl rfl
theorem dX9_broughtByRow_12 : dc cX9_broughtByRow 12 15 (.if_icmp .ge 48) 3 := o_162 ob_X9_broughtByRow rfl rfl rfl rfl
theorem dX9_broughtByRow_15 : dc cX9_broughtByRow 15 16 (.iload_n 2) 1 := o_28 ob_X9_broughtByRow rfl rfl rfl
theorem dX9_broughtByRow_16 : dc cX9_broughtByRow 16 17 (.aload_n 0) 1 := o_42 ob_X9_broughtByRow rfl rfl rfl
theorem dX9_broughtByRow_17 : dc cX9_broughtByRow 17 20 (.getfield 27) 3 := o_180 ob_X9_broughtByRow rfl rfl rfl rfl
theorem dX9_broughtByRow_20 : dc cX9_broughtByRow 20 21 (.iload_n 1) 1 := o_27 ob_X9_broughtByRow rfl rfl rfl
theorem dX9_broughtByRow_21 : dc cX9_broughtByRow 21 22 (.aload_n 0) 1 := o_42 ob_X9_broughtByRow rfl rfl rfl
theorem dX9_broughtByRow_22 : dc cX9_broughtByRow 22 25 (.getfield 27) 3 := o_180 ob_X9_broughtByRow rfl rfl rfl rfl
theorem dX9_broughtByRow_25 : dc cX9_broughtByRow 25 28 (.getfield 44) 3 := o_180 ob_X9_broughtByRow rfl rfl rfl rfl
theorem dX9_broughtByRow_28 : dc cX9_broughtByRow 28 29 (.iconst 2) 1 := o_5 ob_X9_broughtByRow rfl rfl rfl
theorem dX9_broughtByRow_29 : dc cX9_broughtByRow 29 30 (.iload_n 3) 1 := o_29 ob_X9_broughtByRow rfl rfl rfl
theorem dX9_broughtByRow_30 : dc cX9_broughtByRow 30 31 .imul 1 := o_104 ob_X9_broughtByRow rfl rfl rfl
theorem dX9_broughtByRow_31 : dc cX9_broughtByRow 31 34 (.invokevirtual 48) 3 := o_182 ob_X9_broughtByRow rfl rfl rfl rfl
theorem dX9_broughtByRow_34 : dc cX9_broughtByRow 34 35 (.aload_n 0) 1 := o_42 ob_X9_broughtByRow rfl rfl rfl
theorem dX9_broughtByRow_35 : dc cX9_broughtByRow 35 38 (.getfield 27) 3 := o_180 ob_X9_broughtByRow rfl rfl rfl rfl
theorem dX9_broughtByRow_38 : dc cX9_broughtByRow 38 41 (.getfield 44) 3 := o_180 ob_X9_broughtByRow rfl rfl rfl rfl
theorem dX9_broughtByRow_41 : dc cX9_broughtByRow 41 42 (.iconst 2) 1 := o_5 ob_X9_broughtByRow rfl rfl rfl
theorem dX9_broughtByRow_42 : dc cX9_broughtByRow 42 43 (.iload_n 3) 1 := o_29 ob_X9_broughtByRow rfl rfl rfl
theorem dX9_broughtByRow_43 : dc cX9_broughtByRow 43 44 .imul 1 := o_104 ob_X9_broughtByRow rfl rfl rfl
theorem dX9_broughtByRow_44 : dc cX9_broughtByRow 44 45 (.iconst 1) 1 := o_4 ob_X9_broughtByRow rfl rfl rfl
theorem dX9_broughtByRow_45 : dc cX9_broughtByRow 45 46 .iadd 1 := o_96 ob_X9_broughtByRow rfl rfl rfl
theorem dX9_broughtByRow_46 : dc cX9_broughtByRow 46 49 (.invokevirtual 48) 3 := o_182 ob_X9_broughtByRow rfl rfl rfl rfl
theorem dX9_broughtByRow_49 : dc cX9_broughtByRow 49 52 (.invokevirtual 61) 3 := o_182 ob_X9_broughtByRow rfl rfl rfl rfl
theorem dX9_broughtByRow_52 : dc cX9_broughtByRow 52 53 .iadd 1 := o_96 ob_X9_broughtByRow rfl rfl rfl
theorem dX9_broughtByRow_53 : dc cX9_broughtByRow 53 54 (.istore_n 2) 1 := o_61 ob_X9_broughtByRow rfl rfl rfl
theorem dX9_broughtByRow_54 : dc cX9_broughtByRow 54 57 (.iinc 3 1) 3 := o_132 ob_X9_broughtByRow rfl rfl rfl rfl rfl
theorem dX9_broughtByRow_57 : dc cX9_broughtByRow 57 60 (.goto (-53)) 3 := o_167 ob_X9_broughtByRow rfl rfl rfl rfl
theorem dX9_broughtByRow_60 : dc cX9_broughtByRow 60 61 (.iload_n 2) 1 := o_28 ob_X9_broughtByRow rfl rfl rfl
theorem dX9_broughtByRow_61 : dc cX9_broughtByRow 61 62 .ireturn 1 := o_172 ob_X9_broughtByRow rfl rfl rfl
def F_Walk_broughtByRow_b4 (x1 : Int32) (M : Mem) (z : Int32 × Int32) : Option ((Int32 × Int32) ⊕ ((Int32))) :=
  if (M.1 1 7) ≤ z.2 then some (.inr z.1) else (F_Row_small 7 400 (2 * z.2) M).bind fun r1 => (F_Row_small 7 400 ((2 * z.2) + 1) M).bind fun r2 => (F_Well_bringsTo x1 r1 r2 M).bind fun r3 => some (.inl ((z.1 + r3, z.2 + 1)))
def F_Walk_broughtByRow_l4 (x1 : Int32) (x2 : Int32) (x3 : Int32) (M : Mem) : Option (Int32) :=
  (iter (F_Walk_broughtByRow_b4 x1 M) FUEL (x2, x3)).bind fun r => some r
def F_Walk_broughtByRow (x1 : Int32) (M : Mem) : Option (Int32) :=
  F_Walk_broughtByRow_l4 x1 0 0 M
set_option maxRecDepth 100000 in
set_option maxHeartbeats 4000000 in
theorem K_Walk_broughtByRow (l : Launch) (g : GB) (htr : l.stackTraces = false) (x1 : Int32) (M : Mem) (rr : Int32) (h : F_Walk_broughtByRow x1 M = some rr) : CT l g yX9_broughtByRow (.code yX9_broughtByRow cX9_broughtByRow 4 (some .int) :: wAll) { frames := 2, cells := 0, slots := 0, locals := 44 } [.ref (g.2.1 79), .int x1] M (.inl (some (.int rr))) M := by
  refine CT.of [(0, .ref (g.2.1 79)), (1, .int x1)] (by decide +kernel) (Nat.le_of_ble_eq_true rfl) rfl htr ?_
  intro p e s m args below meth c K hr ht
  skip
  obtain ⟨PHI, hPHI, h⟩ : ∃ PHI : Int32 → Prop, (∀ a, PHI a → a = rr) ∧ wpO (F_Walk_broughtByRow x1 M) PHI := ⟨fun a => a = rr, fun _ h => h, _, h, rfl⟩
  have J4 : ∀ (x1 : Int32) (x2 : Int32) (x3 : Int32), wpO (F_Walk_broughtByRow_l4 x1 x2 x3 M) PHI → GG p l e { frames := 2, cells := 0, slots := 0, locals := 44 } s m args below meth c g 4 (vx_MQ below (Qn g s.heap.size (.inl (some (.int rr))) M) (QX g s.heap.size (.inl (some (.int rr))) M) args s 0 0 (AS g s.heap.size)) 0 0 4 [(0, .ref (g.2.1 79)), (1, .int x1), (2, .int x2), (3, .int x3)] [] M := by
    intro x1 x2 x3 h
    unfold F_Walk_broughtByRow_l4 at h
    refine loop_C2 (G := fun (x2 : Int32) (x3 : Int32) => GG p l e { frames := 2, cells := 0, slots := 0, locals := 44 } s m args below meth c g 4 (vx_MQ below (Qn g s.heap.size (.inl (some (.int rr))) M) (QX g s.heap.size (.inl (some (.int rr))) M) args s 0 0 (AS g s.heap.size)) 0 0 4 [(0, .ref (g.2.1 79)), (1, .int x1), (2, .int x2), (3, .int x3)] [] M) (body := F_Walk_broughtByRow_b4 x1 M) ?_ FUEL _ _ (wpO_bind h)
    intro P4 E4 X4
    intro z h
    unfold F_Walk_broughtByRow_b4 at h
    refine G_iload_n rfl 3 rfl K dX9_broughtByRow_4 ?_
    refine G_aload_n rfl 0 rfl K dX9_broughtByRow_5 ?_
    refine G_get (ci := 9) (k := 0) K rfl in_X9 wd_319 rfl dX9_broughtByRow_6 (Nat.le_of_ble_eq_true rfl) (sh_79 _ _) (Nat.le_of_ble_eq_true rfl) rfl ?_
    refine G_get (ci := 10) (k := 7) K rfl in_X10 wd_89 rfl dX9_broughtByRow_9 (Nat.le_of_ble_eq_true rfl) (sh_1 _ _) (Nat.le_of_ble_eq_true rfl) rfl ?_
    refine G_icmp_ge (tgt := 60) K dX9_broughtByRow_12 (by decide) (fun hc => ?_) (fun hc => ?_)
    · have h := wpO_t h hc
      have h := X4 _ (wpO_some h)
      try dsimp only at h
      refine G_iload_n rfl 2 rfl K dX9_broughtByRow_60 ?_
      cases hPHI _ (wpO_some h)
      exact G_iret K hr rfl dX9_broughtByRow_61 (Nat.le_of_ble_eq_true rfl) (Nat.le_of_ble_eq_true rfl) ⟨rfl, rfl⟩
    · have h := wpO_f h hc
      refine G_iload_n rfl 2 rfl K dX9_broughtByRow_15 ?_
      refine G_aload_n rfl 0 rfl K dX9_broughtByRow_16 ?_
      refine G_get (ci := 9) (k := 0) K rfl in_X9 wd_319 rfl dX9_broughtByRow_17 (Nat.le_of_ble_eq_true rfl) (sh_79 _ _) (Nat.le_of_ble_eq_true rfl) rfl ?_
      refine G_iload_n rfl 1 rfl K dX9_broughtByRow_20 ?_
      refine G_aload_n rfl 0 rfl K dX9_broughtByRow_21 ?_
      refine G_get (ci := 9) (k := 0) K rfl in_X9 wd_319 rfl dX9_broughtByRow_22 (Nat.le_of_ble_eq_true rfl) (sh_79 _ _) (Nat.le_of_ble_eq_true rfl) rfl ?_
      refine G_get (ci := 10) (k := 11) K rfl in_X10 wd_97 rfl dX9_broughtByRow_25 (Nat.le_of_ble_eq_true rfl) (sh_1 _ _) (Nat.le_of_ble_eq_true rfl) rfl ?_
      refine G_iconst (v := 2) rfl K dX9_broughtByRow_28 ?_
      refine G_iload_n rfl 3 rfl K dX9_broughtByRow_29 ?_
      refine G_imul K dX9_broughtByRow_30 ?_
      obtain ⟨r1, e1, h⟩ := wpO_bind h
      refine G_callVi (ci := 7) [.int (2 * z.2)] [.int x1, .ref (g.2.1 1), .int z.1] K dX9_broughtByRow_31 wv_1256 yd_X7_small (Nat.le_of_ble_eq_true rfl) (sh_6 _ _) rfl (by decide) (by decide) rfl rfl (Nat.le_of_ble_eq_true rfl) (K_Row_small l g htr 6 7 400 isRow_6 (2 * z.2) M _ e1) ?_
      refine G_aload_n rfl 0 rfl K dX9_broughtByRow_34 ?_
      refine G_get (ci := 9) (k := 0) K rfl in_X9 wd_319 rfl dX9_broughtByRow_35 (Nat.le_of_ble_eq_true rfl) (sh_79 _ _) (Nat.le_of_ble_eq_true rfl) rfl ?_
      refine G_get (ci := 10) (k := 11) K rfl in_X10 wd_97 rfl dX9_broughtByRow_38 (Nat.le_of_ble_eq_true rfl) (sh_1 _ _) (Nat.le_of_ble_eq_true rfl) rfl ?_
      refine G_iconst (v := 2) rfl K dX9_broughtByRow_41 ?_
      refine G_iload_n rfl 3 rfl K dX9_broughtByRow_42 ?_
      refine G_imul K dX9_broughtByRow_43 ?_
      refine G_iconst (v := 1) rfl K dX9_broughtByRow_44 ?_
      refine G_iadd K dX9_broughtByRow_45 ?_
      obtain ⟨r2, e2, h⟩ := wpO_bind h
      refine G_callVi (ci := 7) [.int ((2 * z.2) + 1)] [.int r1, .int x1, .ref (g.2.1 1), .int z.1] K dX9_broughtByRow_46 wv_1256 yd_X7_small (Nat.le_of_ble_eq_true rfl) (sh_6 _ _) rfl (by decide) (by decide) rfl rfl (Nat.le_of_ble_eq_true rfl) (K_Row_small l g htr 6 7 400 isRow_6 ((2 * z.2) + 1) M _ e2) ?_
      obtain ⟨r3, e3, h⟩ := wpO_bind h
      refine G_callVi (ci := 10) [.int x1, .int r1, .int r2] [.int z.1] K dX9_broughtByRow_49 wv_1274 yd_X10_bringsTo (Nat.le_of_ble_eq_true rfl) (sh_1 _ _) rfl (by decide) (by decide) rfl rfl (Nat.le_of_ble_eq_true rfl) (K_Well_bringsTo l g htr x1 r1 r2 M _ e3) ?_
      refine G_iadd K dX9_broughtByRow_52 ?_
      refine G_istore_n rfl K dX9_broughtByRow_53 (Nat.le_of_ble_eq_true rfl) rfl ?_
      refine G_iinc (v := z.2 + 1) 3 rfl K dX9_broughtByRow_54 rfl (Nat.le_of_ble_eq_true rfl) rfl ?_
      refine G_goto (tgt := 4) K dX9_broughtByRow_57 (by decide) ?_
      exact G_lv (lv' := [(0, .ref (g.2.1 79)), (1, .int x1), (2, .int (z.1 + r3)), (3, .int (z.2 + 1))]) [2, 3, 1, 0] rfl (E4 (z.1 + r3) (z.2 + 1) (wpO_some h))
  unfold F_Walk_broughtByRow at h
  refine G_iconst (v := 0) rfl K dX9_broughtByRow_0 ?_
  refine G_istore_n rfl K dX9_broughtByRow_1 (Nat.le_of_ble_eq_true rfl) rfl ?_
  refine G_iconst (v := 0) rfl K dX9_broughtByRow_2 ?_
  refine G_istore_n rfl K dX9_broughtByRow_3 (Nat.le_of_ble_eq_true rfl) rfl ?_
  exact G_lv (lv' := [(0, .ref (g.2.1 79)), (1, .int x1), (2, .int 0), (3, .int 0)]) [2, 3, 1, 0] rfl (J4 x1 0 0 h)
def on_X9_see : Nat := 0xac1b0400a7641b040900a24300b41b00b42a704600b41b00b42a7eff7f117c10101800b42a1800b560393011681800b42a49122aac1b05009d4600b41b00b42a0d00994300b41b00b42a
theorem ob_X9_see : OKB cX9_see on_X9_see 74 := ⟨by decide +kernel, by decide +kernel⟩
theorem dX9_see_0 : dc cX9_see 0 1 (.aload_n 0) 1 := o_42 ob_X9_see rfl rfl rfl
theorem dX9_see_1 : dc cX9_see 1 4 (.getfield 27) 3 := o_180 ob_X9_see rfl rfl rfl rfl
theorem dX9_see_4 : dc cX9_see 4 7 (.getfield 67) 3 := o_180 ob_X9_see rfl rfl rfl rfl
theorem dX9_see_7 : dc cX9_see 7 10 (.ifCond .eq 13) 3 := o_153 ob_X9_see rfl rfl rfl rfl
theorem dX9_see_10 : dc cX9_see 10 11 (.aload_n 0) 1 := o_42 ob_X9_see rfl rfl rfl
theorem dX9_see_11 : dc cX9_see 11 14 (.getfield 27) 3 := o_180 ob_X9_see rfl rfl rfl rfl
theorem dX9_see_14 : dc cX9_see 14 17 (.getfield 70) 3 := o_180 ob_X9_see rfl rfl rfl rfl
theorem dX9_see_17 : dc cX9_see 17 20 (.ifCond .gt 5) 3 := o_157 ob_X9_see rfl rfl rfl rfl
theorem dX9_see_20 : dc cX9_see 20 21 (.iload_n 1) 1 := o_27 ob_X9_see rfl rfl rfl
theorem dX9_see_21 : dc cX9_see 21 22 .ireturn 1 := o_172 ob_X9_see rfl rfl rfl
theorem dX9_see_22 : dc cX9_see 22 23 (.aload_n 0) 1 := o_42 ob_X9_see rfl rfl rfl
theorem dX9_see_23 : dc cX9_see 23 25 (.ldc 73) 2 := o_18 ob_X9_see rfl rfl rfl rfl
theorem dX9_see_25 : dc cX9_see 25 26 (.aload_n 0) 1 := o_42 ob_X9_see rfl rfl rfl
theorem dX9_see_26 : dc cX9_see 26 29 (.getfield 24) 3 := o_180 ob_X9_see rfl rfl rfl rfl
theorem dX9_see_29 : dc cX9_see 29 30 .imul 1 := o_104 ob_X9_see rfl rfl rfl
theorem dX9_see_30 : dc cX9_see 30 33 (.sipush 12345) 3 := o_17 ob_X9_see rfl rfl rfl rfl
theorem dX9_see_33 : dc cX9_see 33 34 .iadd 1 := o_96 ob_X9_see rfl rfl rfl
theorem dX9_see_34 : dc cX9_see 34 37 (.putfield 24) 3 := o_181 ob_X9_see rfl rfl rfl rfl
theorem dX9_see_37 : dc cX9_see 37 38 (.aload_n 0) 1 := o_42 ob_X9_see rfl rfl rfl
theorem dX9_see_38 : dc cX9_see 38 41 (.getfield 24) 3 := o_180 ob_X9_see rfl rfl rfl rfl
theorem dX9_see_41 : dc cX9_see 41 43 (.bipush 16) 2 := o_16 ob_X9_see rfl rfl rfl rfl
theorem dX9_see_43 : dc cX9_see 43 44 .iushr 1 := o_124 ob_X9_see rfl rfl rfl
theorem dX9_see_44 : dc cX9_see 44 47 (.sipush 32767) 3 := o_17 ob_X9_see rfl rfl rfl rfl
theorem dX9_see_47 : dc cX9_see 47 48 .iand 1 := o_126 ob_X9_see rfl rfl rfl
theorem dX9_see_48 : dc cX9_see 48 49 (.aload_n 0) 1 := o_42 ob_X9_see rfl rfl rfl
theorem dX9_see_49 : dc cX9_see 49 52 (.getfield 27) 3 := o_180 ob_X9_see rfl rfl rfl rfl
theorem dX9_see_52 : dc cX9_see 52 55 (.getfield 70) 3 := o_180 ob_X9_see rfl rfl rfl rfl
theorem dX9_see_55 : dc cX9_see 55 56 .irem 1 := o_112 ob_X9_see rfl rfl rfl
theorem dX9_see_56 : dc cX9_see 56 57 (.aload_n 0) 1 := o_42 ob_X9_see rfl rfl rfl
theorem dX9_see_57 : dc cX9_see 57 60 (.getfield 27) 3 := o_180 ob_X9_see rfl rfl rfl rfl
theorem dX9_see_60 : dc cX9_see 60 63 (.getfield 67) 3 := o_180 ob_X9_see rfl rfl rfl rfl
theorem dX9_see_63 : dc cX9_see 63 66 (.if_icmp .ge 9) 3 := o_162 ob_X9_see rfl rfl rfl rfl
theorem dX9_see_66 : dc cX9_see 66 67 (.iconst 1) 1 := o_4 ob_X9_see rfl rfl rfl
theorem dX9_see_67 : dc cX9_see 67 68 (.iload_n 1) 1 := o_27 ob_X9_see rfl rfl rfl
theorem dX9_see_68 : dc cX9_see 68 69 .isub 1 := o_100 ob_X9_see rfl rfl rfl
theorem dX9_see_69 : dc cX9_see 69 72 (.goto 4) 3 := o_167 ob_X9_see rfl rfl rfl rfl
theorem dX9_see_72 : dc cX9_see 72 73 (.iload_n 1) 1 := o_27 ob_X9_see rfl rfl rfl
theorem dX9_see_73 : dc cX9_see 73 74 .ireturn 1 := o_172 ob_X9_see rfl rfl rfl
def F_Walk_see (x1 : Int32) (M : Mem) : Option (Int32 × Mem) :=
  if (M.1 1 3) = 0 then some ((x1, M)) else if 0 < (M.1 1 4) then if ¬ ((mSI M 79 5 ((1103515245 * (M.1 79 5)) + 12345)).1 1 4) = 0 then if ((mSI M 79 5 ((1103515245 * (M.1 79 5)) + 12345)).1 1 3) ≤ (irm ((ush ((mSI M 79 5 ((1103515245 * (M.1 79 5)) + 12345)).1 79 5) 16) &&& 32767) ((mSI M 79 5 ((1103515245 * (M.1 79 5)) + 12345)).1 1 4)) then some ((x1, mSI M 79 5 ((1103515245 * (M.1 79 5)) + 12345))) else some ((1 - x1, mSI M 79 5 ((1103515245 * (M.1 79 5)) + 12345))) else none else some ((x1, M))
set_option maxRecDepth 100000 in
set_option maxHeartbeats 4000000 in
theorem K_Walk_see (l : Launch) (g : GB) (htr : l.stackTraces = false) (x1 : Int32) (M : Mem) (rr : Int32) (MZ : Mem) (h : F_Walk_see x1 M = some (rr, MZ)) : CT l g yX9_see (.code yX9_see cX9_see 2 (some .int) :: wAll) { frames := 0, cells := 0, slots := 0, locals := 0 } [.ref (g.2.1 79), .int x1] M (.inl (some (.int rr))) MZ := by
  refine CT.of [(0, .ref (g.2.1 79)), (1, .int x1)] (by decide +kernel) (Nat.le_of_ble_eq_true rfl) rfl htr ?_
  intro p e s m args below meth c K hr ht
  skip
  obtain ⟨PHI, hPHI, h⟩ : ∃ PHI : Int32 × Mem → Prop, (∀ a, PHI a → a = (rr, MZ)) ∧ wpO (F_Walk_see x1 M) PHI := ⟨fun a => a = (rr, MZ), fun _ h => h, _, h, rfl⟩
  unfold F_Walk_see at h
  refine G_aload_n rfl 0 rfl K dX9_see_0 ?_
  refine G_get (ci := 9) (k := 0) K rfl in_X9 wd_319 rfl dX9_see_1 (Nat.le_of_ble_eq_true rfl) (sh_79 _ _) (Nat.le_of_ble_eq_true rfl) rfl ?_
  refine G_get (ci := 10) (k := 3) K rfl in_X10 wd_74 rfl dX9_see_4 (Nat.le_of_ble_eq_true rfl) (sh_1 _ _) (Nat.le_of_ble_eq_true rfl) rfl ?_
  refine G_if_eq (tgt := 20) K dX9_see_7 (by decide) (fun hc => ?_) (fun hc => ?_)
  · have h := wpO_t h hc
    refine G_iload_n rfl 1 rfl K dX9_see_20 ?_
    cases hPHI _ (wpO_some h)
    exact G_iret K hr rfl dX9_see_21 (Nat.le_of_ble_eq_true rfl) (Nat.le_of_ble_eq_true rfl) ⟨rfl, rfl⟩
  · have h := wpO_f h hc
    refine G_aload_n rfl 0 rfl K dX9_see_10 ?_
    refine G_get (ci := 9) (k := 0) K rfl in_X9 wd_319 rfl dX9_see_11 (Nat.le_of_ble_eq_true rfl) (sh_79 _ _) (Nat.le_of_ble_eq_true rfl) rfl ?_
    refine G_get (ci := 10) (k := 4) K rfl in_X10 wd_78 rfl dX9_see_14 (Nat.le_of_ble_eq_true rfl) (sh_1 _ _) (Nat.le_of_ble_eq_true rfl) rfl ?_
    refine G_if_gt (tgt := 22) K dX9_see_17 (by decide) (fun hc => ?_) (fun hc => ?_)
    · have h := wpO_t h hc
      refine G_aload_n rfl 0 rfl K dX9_see_22 ?_
      refine G_ldc (v := 1103515245) K dX9_see_23 wd_1290 ?_
      refine G_aload_n rfl 0 rfl K dX9_see_25 ?_
      refine G_get (ci := 9) (k := 5) K rfl in_X9 wd_324 rfl dX9_see_26 (Nat.le_of_ble_eq_true rfl) (sh_79 _ _) (Nat.le_of_ble_eq_true rfl) rfl ?_
      refine G_imul K dX9_see_29 ?_
      refine G_sipush (v := 12345) rfl K dX9_see_30 ?_
      refine G_iadd K dX9_see_33 ?_
      refine G_putI (ci := 9) (k := 5) (ty := .int) K rfl in_X9 tyX9 tyX9_ok nmX9 wd_324 rfl rfl rfl rfl rfl dX9_see_34 (Nat.le_of_ble_eq_true rfl) (sh_79 _ _) (sh_79 _ _) (Nat.le_of_ble_eq_true rfl) (Nat.le_of_ble_eq_true rfl) rfl ?_
      refine G_aload_n rfl 0 rfl K dX9_see_37 ?_
      refine G_get (ci := 9) (k := 5) K rfl in_X9 wd_324 rfl dX9_see_38 (Nat.le_of_ble_eq_true rfl) (sh_79 _ _) (Nat.le_of_ble_eq_true rfl) rfl ?_
      refine G_bipush (v := 16) rfl K dX9_see_41 ?_
      refine G_iushr K dX9_see_43 ?_
      refine G_sipush (v := 32767) rfl K dX9_see_44 ?_
      refine G_iand K dX9_see_47 ?_
      refine G_aload_n rfl 0 rfl K dX9_see_48 ?_
      refine G_get (ci := 9) (k := 0) K rfl in_X9 wd_319 rfl dX9_see_49 (Nat.le_of_ble_eq_true rfl) (sh_79 _ _) (Nat.le_of_ble_eq_true rfl) rfl ?_
      refine G_get (ci := 10) (k := 4) K rfl in_X10 wd_78 rfl dX9_see_52 (Nat.le_of_ble_eq_true rfl) (sh_1 _ _) (Nat.le_of_ble_eq_true rfl) rfl ?_
      obtain ⟨hc, h⟩ := wpO_g h
      refine G_irem hc K dX9_see_55 ?_
      refine G_aload_n rfl 0 rfl K dX9_see_56 ?_
      refine G_get (ci := 9) (k := 0) K rfl in_X9 wd_319 rfl dX9_see_57 (Nat.le_of_ble_eq_true rfl) (sh_79 _ _) (Nat.le_of_ble_eq_true rfl) rfl ?_
      refine G_get (ci := 10) (k := 3) K rfl in_X10 wd_74 rfl dX9_see_60 (Nat.le_of_ble_eq_true rfl) (sh_1 _ _) (Nat.le_of_ble_eq_true rfl) rfl ?_
      refine G_icmp_ge (tgt := 72) K dX9_see_63 (by decide) (fun hc => ?_) (fun hc => ?_)
      · have h := wpO_t h hc
        refine G_iload_n rfl 1 rfl K dX9_see_72 ?_
        cases hPHI _ (wpO_some h)
        exact G_iret K hr rfl dX9_see_73 (Nat.le_of_ble_eq_true rfl) (Nat.le_of_ble_eq_true rfl) ⟨rfl, rfl⟩
      · have h := wpO_f h hc
        refine G_iconst (v := 1) rfl K dX9_see_66 ?_
        refine G_iload_n rfl 1 rfl K dX9_see_67 ?_
        refine G_isub K dX9_see_68 ?_
        refine G_goto (tgt := 73) K dX9_see_69 (by decide) ?_
        cases hPHI _ (wpO_some h)
        exact G_iret K hr rfl dX9_see_73 (Nat.le_of_ble_eq_true rfl) (Nat.le_of_ble_eq_true rfl) ⟨rfl, rfl⟩
    · have h := wpO_f h hc
      refine G_iload_n rfl 1 rfl K dX9_see_20 ?_
      cases hPHI _ (wpO_some h)
      exact G_iret K hr rfl dX9_see_21 (Nat.le_of_ble_eq_true rfl) (Nat.le_of_ble_eq_true rfl) ⟨rfl, rfl⟩
theorem yd_X9_see : ydN yX9_see 1 := ⟨by decide, by decide, by decide +kernel⟩
theorem wv_1286 : wdV "KeptWell$Walk" 64 yX9_see cX9_see 2 (some .int) := ⟨wd_1286, wd_1288, ws_X9_see, wd_10, wd_1289⟩
def on_X9_draw : Nat := 0xac1500b42a0700a71200b42a0a00a00505151400a706150800a2050515a1ffa70107843a00b60b150a152a0b364000b608152a0a364000b609152a063660030400a73d00b60915081505151b00b42a1300a2050515061509363600b61500b42a0f00b42a1b00b42a08363600b61200b42a0900b42a1b00b42a5f00a21d07150736030636031800b504152a2500b61c1b2a
theorem ob_X9_draw : OKB cX9_draw on_X9_draw 145 := ⟨by decide +kernel, by decide +kernel⟩
theorem dX9_draw_0 : dc cX9_draw 0 1 (.aload_n 0) 1 := o_42 ob_X9_draw rfl rfl rfl
theorem dX9_draw_1 : dc cX9_draw 1 2 (.iload_n 1) 1 := o_27 ob_X9_draw rfl rfl rfl
theorem dX9_draw_2 : dc cX9_draw 2 3 (.iload_n 2) 1 := o_28 ob_X9_draw rfl rfl rfl
theorem dX9_draw_3 : dc cX9_draw 3 6 (.invokevirtual 37) 3 := o_182 ob_X9_draw rfl rfl rfl rfl
theorem dX9_draw_6 : dc cX9_draw 6 7 (.aload_n 0) 1 := o_42 ob_X9_draw rfl rfl rfl
theorem dX9_draw_7 : dc cX9_draw 7 9 (.iload 4) 2 := o_21 ob_X9_draw rfl rfl rfl rfl
theorem dX9_draw_9 : dc cX9_draw 9 12 (.putfield 24) 3 := o_181 ob_X9_draw rfl rfl rfl rfl
theorem dX9_draw_12 : dc cX9_draw 12 13 (.iconst 0) 1 := o_3 ob_X9_draw rfl rfl rfl
theorem dX9_draw_13 : dc cX9_draw 13 15 (.istore 6) 2 := o_54 ob_X9_draw rfl rfl rfl rfl
theorem dX9_draw_15 : dc cX9_draw 15 16 (.iconst 0) 1 := o_3 ob_X9_draw rfl rfl rfl
theorem dX9_draw_16 : dc cX9_draw 16 18 (.istore 7) 2 := o_54 ob_X9_draw rfl rfl rfl rfl
theorem dX9_draw_18 : dc cX9_draw 18 20 (.iload 7) 2 := o_21 ob_X9_draw rfl rfl rfl rfl
theorem dX9_draw_20 : dc cX9_draw 20 21 (.iload_n 3) 1 := o_29 ob_X9_draw rfl rfl rfl
theorem dX9_draw_21 : dc cX9_draw 21 24 (.if_icmp .ge 95) 3 := o_162 ob_X9_draw rfl rfl rfl rfl
theorem dX9_draw_24 : dc cX9_draw 24 25 (.aload_n 0) 1 := o_42 ob_X9_draw rfl rfl rfl
theorem dX9_draw_25 : dc cX9_draw 25 28 (.getfield 27) 3 := o_180 ob_X9_draw rfl rfl rfl rfl
theorem dX9_draw_28 : dc cX9_draw 28 29 (.aload_n 0) 1 := o_42 ob_X9_draw rfl rfl rfl
theorem dX9_draw_29 : dc cX9_draw 29 32 (.getfield 9) 3 := o_180 ob_X9_draw rfl rfl rfl rfl
theorem dX9_draw_32 : dc cX9_draw 32 33 (.aload_n 0) 1 := o_42 ob_X9_draw rfl rfl rfl
theorem dX9_draw_33 : dc cX9_draw 33 36 (.getfield 18) 3 := o_180 ob_X9_draw rfl rfl rfl rfl
theorem dX9_draw_36 : dc cX9_draw 36 39 (.invokevirtual 54) 3 := o_182 ob_X9_draw rfl rfl rfl rfl
theorem dX9_draw_39 : dc cX9_draw 39 41 (.istore 8) 2 := o_54 ob_X9_draw rfl rfl rfl rfl
theorem dX9_draw_41 : dc cX9_draw 41 42 (.aload_n 0) 1 := o_42 ob_X9_draw rfl rfl rfl
theorem dX9_draw_42 : dc cX9_draw 42 45 (.getfield 27) 3 := o_180 ob_X9_draw rfl rfl rfl rfl
theorem dX9_draw_45 : dc cX9_draw 45 46 (.aload_n 0) 1 := o_42 ob_X9_draw rfl rfl rfl
theorem dX9_draw_46 : dc cX9_draw 46 49 (.getfield 15) 3 := o_180 ob_X9_draw rfl rfl rfl rfl
theorem dX9_draw_49 : dc cX9_draw 49 50 (.aload_n 0) 1 := o_42 ob_X9_draw rfl rfl rfl
theorem dX9_draw_50 : dc cX9_draw 50 53 (.getfield 21) 3 := o_180 ob_X9_draw rfl rfl rfl rfl
theorem dX9_draw_53 : dc cX9_draw 53 56 (.invokevirtual 54) 3 := o_182 ob_X9_draw rfl rfl rfl rfl
theorem dX9_draw_56 : dc cX9_draw 56 58 (.istore 9) 2 := o_54 ob_X9_draw rfl rfl rfl rfl
theorem dX9_draw_58 : dc cX9_draw 58 60 (.iload 6) 2 := o_21 ob_X9_draw rfl rfl rfl rfl
theorem dX9_draw_60 : dc cX9_draw 60 62 (.iload 5) 2 := o_21 ob_X9_draw rfl rfl rfl rfl
theorem dX9_draw_62 : dc cX9_draw 62 63 (.iconst 2) 1 := o_5 ob_X9_draw rfl rfl rfl
theorem dX9_draw_63 : dc cX9_draw 63 66 (.if_icmp .ge 19) 3 := o_162 ob_X9_draw rfl rfl rfl rfl
theorem dX9_draw_66 : dc cX9_draw 66 67 (.aload_n 0) 1 := o_42 ob_X9_draw rfl rfl rfl
theorem dX9_draw_67 : dc cX9_draw 67 70 (.getfield 27) 3 := o_180 ob_X9_draw rfl rfl rfl rfl
theorem dX9_draw_70 : dc cX9_draw 70 72 (.iload 5) 2 := o_21 ob_X9_draw rfl rfl rfl rfl
theorem dX9_draw_72 : dc cX9_draw 72 74 (.iload 8) 2 := o_21 ob_X9_draw rfl rfl rfl rfl
theorem dX9_draw_74 : dc cX9_draw 74 76 (.iload 9) 2 := o_21 ob_X9_draw rfl rfl rfl rfl
theorem dX9_draw_76 : dc cX9_draw 76 79 (.invokevirtual 61) 3 := o_182 ob_X9_draw rfl rfl rfl rfl
theorem dX9_draw_79 : dc cX9_draw 79 82 (.goto 4) 3 := o_167 ob_X9_draw rfl rfl rfl rfl
theorem dX9_draw_82 : dc cX9_draw 82 83 (.iconst 0) 1 := o_3 ob_X9_draw rfl rfl rfl
theorem dX9_draw_83 : dc cX9_draw 83 84 .iadd 1 := o_96 ob_X9_draw rfl rfl rfl
theorem dX9_draw_84 : dc cX9_draw 84 86 (.istore 6) 2 := o_54 ob_X9_draw rfl rfl rfl rfl
theorem dX9_draw_86 : dc cX9_draw 86 87 (.aload_n 0) 1 := o_42 ob_X9_draw rfl rfl rfl
theorem dX9_draw_87 : dc cX9_draw 87 89 (.iload 9) 2 := o_21 ob_X9_draw rfl rfl rfl rfl
theorem dX9_draw_89 : dc cX9_draw 89 92 (.invokevirtual 64) 3 := o_182 ob_X9_draw rfl rfl rfl rfl
theorem dX9_draw_92 : dc cX9_draw 92 94 (.istore 10) 2 := o_54 ob_X9_draw rfl rfl rfl rfl
theorem dX9_draw_94 : dc cX9_draw 94 95 (.aload_n 0) 1 := o_42 ob_X9_draw rfl rfl rfl
theorem dX9_draw_95 : dc cX9_draw 95 97 (.iload 8) 2 := o_21 ob_X9_draw rfl rfl rfl rfl
theorem dX9_draw_97 : dc cX9_draw 97 100 (.invokevirtual 64) 3 := o_182 ob_X9_draw rfl rfl rfl rfl
theorem dX9_draw_100 : dc cX9_draw 100 102 (.istore 11) 2 := o_54 ob_X9_draw rfl rfl rfl rfl
theorem dX9_draw_102 : dc cX9_draw 102 103 (.aload_n 0) 1 := o_42 ob_X9_draw rfl rfl rfl
theorem dX9_draw_103 : dc cX9_draw 103 105 (.iload 10) 2 := o_21 ob_X9_draw rfl rfl rfl rfl
theorem dX9_draw_105 : dc cX9_draw 105 107 (.iload 11) 2 := o_21 ob_X9_draw rfl rfl rfl rfl
theorem dX9_draw_107 : dc cX9_draw 107 110 (.invokevirtual 58) 3 := o_182 ob_X9_draw rfl rfl rfl rfl
theorem dX9_draw_110 : dc cX9_draw 110 113 (.iinc 7 1) 3 := o_132 ob_X9_draw rfl rfl rfl rfl rfl
theorem dX9_draw_113 : dc cX9_draw 113 116 (.goto (-95)) 3 := o_167 ob_X9_draw rfl rfl rfl rfl
theorem dX9_draw_116 : dc cX9_draw 116 118 (.iload 5) 2 := o_21 ob_X9_draw rfl rfl rfl rfl
theorem dX9_draw_118 : dc cX9_draw 118 119 (.iconst 2) 1 := o_5 ob_X9_draw rfl rfl rfl
theorem dX9_draw_119 : dc cX9_draw 119 122 (.if_icmp .ge 8) 3 := o_162 ob_X9_draw rfl rfl rfl rfl
theorem dX9_draw_122 : dc cX9_draw 122 124 (.iload 6) 2 := o_21 ob_X9_draw rfl rfl rfl rfl
theorem dX9_draw_124 : dc cX9_draw 124 127 (.goto 20) 3 := o_167 ob_X9_draw rfl rfl rfl rfl
theorem dX9_draw_127 : dc cX9_draw 127 129 (.iload 5) 2 := o_21 ob_X9_draw rfl rfl rfl rfl
theorem dX9_draw_129 : dc cX9_draw 129 130 (.iconst 2) 1 := o_5 ob_X9_draw rfl rfl rfl
theorem dX9_draw_130 : dc cX9_draw 130 133 (.if_icmp .ne 10) 3 := o_160 ob_X9_draw rfl rfl rfl rfl
theorem dX9_draw_133 : dc cX9_draw 133 134 (.aload_n 0) 1 := o_42 ob_X9_draw rfl rfl rfl
theorem dX9_draw_134 : dc cX9_draw 134 137 (.getfield 18) 3 := o_180 ob_X9_draw rfl rfl rfl rfl
theorem dX9_draw_137 : dc cX9_draw 137 140 (.goto 7) 3 := o_167 ob_X9_draw rfl rfl rfl rfl
theorem dX9_draw_140 : dc cX9_draw 140 141 (.aload_n 0) 1 := o_42 ob_X9_draw rfl rfl rfl
theorem dX9_draw_141 : dc cX9_draw 141 144 (.getfield 21) 3 := o_180 ob_X9_draw rfl rfl rfl rfl
theorem dX9_draw_144 : dc cX9_draw 144 145 .ireturn 1 := o_172 ob_X9_draw rfl rfl rfl
def F_Walk_draw_j116 (x5 : Int32) (x6 : Int32) (M : Mem) : Option (Int32 × Mem) :=
  if 2 ≤ x5 then if x5 = 2 then some ((M.1 79 3, M)) else some ((M.1 79 4, M)) else some ((x6, M))
def F_Walk_draw_j83 (x3 : Int32) (x5 : Int32) (x7 : Int32) (x8 : Int32) (x9 : Int32) (s0 : Int32) (s1 : Int32) (M : Mem) : Option ((Int32 × Int32 × Mem) ⊕ ((Int32 × Mem))) :=
  (F_Walk_see x9 M).bind fun r4 => (F_Walk_see x8 r4.2).bind fun r5 => (F_Walk_goOn r4.1 r5.1 r5.2).bind fun r6 => some (.inl ((s0 + s1, x7 + 1, r6)))
def F_Walk_draw_b18 (x3 : Int32) (x5 : Int32) (z : Int32 × Int32 × Mem) : Option ((Int32 × Int32 × Mem) ⊕ ((Int32 × Mem))) :=
  if x3 ≤ z.2.1 then some (.inr ((z.1, z.2.2))) else (F_Well_actOf (z.2.2.1 79 1) (z.2.2.1 79 3) z.2.2).bind fun r2 => (F_Well_actOf (z.2.2.1 79 2) (z.2.2.1 79 4) z.2.2).bind fun r3 => if 2 ≤ x5 then F_Walk_draw_j83 x3 x5 z.2.1 r2 r3 z.1 0 z.2.2 else (F_Well_bringsTo x5 r2 r3 z.2.2).bind fun r7 => F_Walk_draw_j83 x3 x5 z.2.1 r2 r3 z.1 r7 z.2.2
def F_Walk_draw_l18 (x3 : Int32) (x5 : Int32) (x6 : Int32) (x7 : Int32) (M : Mem) : Option (Int32 × Mem) :=
  (iter (F_Walk_draw_b18 x3 x5) FUEL (x6, x7, M)).bind fun r => F_Walk_draw_j116 x5 r.1 r.2
def F_Walk_draw (x1 : Int32) (x2 : Int32) (x3 : Int32) (x4 : Int32) (x5 : Int32) (M : Mem) : Option (Int32 × Mem) :=
  (F_Walk_start x1 x2 M).bind fun r1 => F_Walk_draw_l18 x3 x5 0 0 (mSI r1 79 5 x4)
set_option maxRecDepth 100000 in
set_option maxHeartbeats 4000000 in
theorem K_Walk_draw (l : Launch) (g : GB) (htr : l.stackTraces = false) (x1 : Int32) (x2 : Int32) (x3 : Int32) (x4 : Int32) (x5 : Int32) (M : Mem) (rr : Int32) (MZ : Mem) (h : F_Walk_draw x1 x2 x3 x4 x5 M = some (rr, MZ)) : CT l g yX9_draw (.code yX9_draw cX9_draw 12 (some .int) :: wAll) { frames := 3, cells := 0, slots := 0, locals := 66 } [.ref (g.2.1 79), .int x1, .int x2, .int x3, .int x4, .int x5] M (.inl (some (.int rr))) MZ := by
  refine CT.of [(0, .ref (g.2.1 79)), (1, .int x1), (2, .int x2), (3, .int x3), (4, .int x4), (5, .int x5)] (by decide +kernel) (Nat.le_of_ble_eq_true rfl) rfl htr ?_
  intro p e s m args below meth c K hr ht
  skip
  obtain ⟨PHI, hPHI, h⟩ : ∃ PHI : Int32 × Mem → Prop, (∀ a, PHI a → a = (rr, MZ)) ∧ wpO (F_Walk_draw x1 x2 x3 x4 x5 M) PHI := ⟨fun a => a = (rr, MZ), fun _ h => h, _, h, rfl⟩
  have J116 : ∀ (x5 : Int32) (x6 : Int32) (M : Mem), wpO (F_Walk_draw_j116 x5 x6 M) PHI → GG p l e { frames := 3, cells := 0, slots := 0, locals := 66 } s m args below meth c g 12 (vx_MQ below (Qn g s.heap.size (.inl (some (.int rr))) MZ) (QX g s.heap.size (.inl (some (.int rr))) MZ) args s 0 0 (AS g s.heap.size)) 0 0 116 [(0, .ref (g.2.1 79)), (5, .int x5), (6, .int x6)] [] M := by
    intro x5 x6 M h
    unfold F_Walk_draw_j116 at h
    refine G_iload 1 rfl K dX9_draw_116 ?_
    refine G_iconst (v := 2) rfl K dX9_draw_118 ?_
    refine G_icmp_ge (tgt := 127) K dX9_draw_119 (by decide) (fun hc => ?_) (fun hc => ?_)
    · have h := wpO_t h hc
      refine G_iload 1 rfl K dX9_draw_127 ?_
      refine G_iconst (v := 2) rfl K dX9_draw_129 ?_
      refine G_icmp_ne (tgt := 140) K dX9_draw_130 (by decide) (fun hc => ?_) (fun hc => ?_)
      · have h := wpO_f h hc
        refine G_aload_n rfl 0 rfl K dX9_draw_140 ?_
        refine G_get (ci := 9) (k := 4) K rfl in_X9 wd_323 rfl dX9_draw_141 (Nat.le_of_ble_eq_true rfl) (sh_79 _ _) (Nat.le_of_ble_eq_true rfl) rfl ?_
        cases hPHI _ (wpO_some h)
        exact G_iret K hr rfl dX9_draw_144 (Nat.le_of_ble_eq_true rfl) (Nat.le_of_ble_eq_true rfl) ⟨rfl, rfl⟩
      · have h := wpO_t h hc
        refine G_aload_n rfl 0 rfl K dX9_draw_133 ?_
        refine G_get (ci := 9) (k := 3) K rfl in_X9 wd_322 rfl dX9_draw_134 (Nat.le_of_ble_eq_true rfl) (sh_79 _ _) (Nat.le_of_ble_eq_true rfl) rfl ?_
        refine G_goto (tgt := 144) K dX9_draw_137 (by decide) ?_
        cases hPHI _ (wpO_some h)
        exact G_iret K hr rfl dX9_draw_144 (Nat.le_of_ble_eq_true rfl) (Nat.le_of_ble_eq_true rfl) ⟨rfl, rfl⟩
    · have h := wpO_f h hc
      refine G_iload 2 rfl K dX9_draw_122 ?_
      refine G_goto (tgt := 144) K dX9_draw_124 (by decide) ?_
      cases hPHI _ (wpO_some h)
      exact G_iret K hr rfl dX9_draw_144 (Nat.le_of_ble_eq_true rfl) (Nat.le_of_ble_eq_true rfl) ⟨rfl, rfl⟩
  have J18 : ∀ (x3 : Int32) (x5 : Int32) (x6 : Int32) (x7 : Int32) (M : Mem), wpO (F_Walk_draw_l18 x3 x5 x6 x7 M) PHI → GG p l e { frames := 3, cells := 0, slots := 0, locals := 66 } s m args below meth c g 12 (vx_MQ below (Qn g s.heap.size (.inl (some (.int rr))) MZ) (QX g s.heap.size (.inl (some (.int rr))) MZ) args s 0 0 (AS g s.heap.size)) 0 0 18 [(0, .ref (g.2.1 79)), (3, .int x3), (5, .int x5), (6, .int x6), (7, .int x7)] [] M := by
    intro x3 x5 x6 x7 M h
    unfold F_Walk_draw_l18 at h
    refine loop_C3 (G := fun (x6 : Int32) (x7 : Int32) (M : Mem) => GG p l e { frames := 3, cells := 0, slots := 0, locals := 66 } s m args below meth c g 12 (vx_MQ below (Qn g s.heap.size (.inl (some (.int rr))) MZ) (QX g s.heap.size (.inl (some (.int rr))) MZ) args s 0 0 (AS g s.heap.size)) 0 0 18 [(0, .ref (g.2.1 79)), (3, .int x3), (5, .int x5), (6, .int x6), (7, .int x7)] [] M) (body := F_Walk_draw_b18 x3 x5) ?_ FUEL _ _ _ (wpO_bind h)
    intro P18 E18 X18
    have J83 : ∀ (x7 : Int32) (x8 : Int32) (x9 : Int32) (s0 : Int32) (s1 : Int32) (M : Mem), wpO (F_Walk_draw_j83 x3 x5 x7 x8 x9 s0 s1 M) P18 → GG p l e { frames := 3, cells := 0, slots := 0, locals := 66 } s m args below meth c g 12 (vx_MQ below (Qn g s.heap.size (.inl (some (.int rr))) MZ) (QX g s.heap.size (.inl (some (.int rr))) MZ) args s 0 0 (AS g s.heap.size)) 0 0 83 [(0, .ref (g.2.1 79)), (3, .int x3), (5, .int x5), (7, .int x7), (8, .int x8), (9, .int x9)] [.int s1, .int s0] M := by
      intro x7 x8 x9 s0 s1 M h
      unfold F_Walk_draw_j83 at h
      refine G_iadd K dX9_draw_83 ?_
      refine G_istore K dX9_draw_84 (Nat.le_of_ble_eq_true rfl) rfl ?_
      refine G_aload_n rfl 1 rfl K dX9_draw_86 ?_
      refine G_iload 6 rfl K dX9_draw_87 ?_
      obtain ⟨r4, e4, h⟩ := wpO_bind h
      refine G_callVi (ci := 9) [.int x9] [] K dX9_draw_89 wv_1286 yd_X9_see (Nat.le_of_ble_eq_true rfl) (sh_79 _ _) rfl (by decide) (by decide) rfl rfl (Nat.le_of_ble_eq_true rfl) (K_Walk_see l g htr x9 M _ _ e4) ?_
      refine G_istore K dX9_draw_92 (Nat.le_of_ble_eq_true rfl) rfl ?_
      refine G_aload_n rfl 2 rfl K dX9_draw_94 ?_
      refine G_iload 6 rfl K dX9_draw_95 ?_
      obtain ⟨r5, e5, h⟩ := wpO_bind h
      refine G_callVi (ci := 9) [.int x8] [] K dX9_draw_97 wv_1286 yd_X9_see (Nat.le_of_ble_eq_true rfl) (sh_79 _ _) rfl (by decide) (by decide) rfl rfl (Nat.le_of_ble_eq_true rfl) (K_Walk_see l g htr x8 r4.2 _ _ e5) ?_
      refine G_istore K dX9_draw_100 (Nat.le_of_ble_eq_true rfl) rfl ?_
      refine G_aload_n rfl 3 rfl K dX9_draw_102 ?_
      refine G_iload 1 rfl K dX9_draw_103 ?_
      refine G_iload 0 rfl K dX9_draw_105 ?_
      obtain ⟨r6, e6, h⟩ := wpO_bind h
      refine G_callVv (ci := 9) [.int r4.1, .int r5.1] [] K dX9_draw_107 wv_1258 yd_X9_goOn (Nat.le_of_ble_eq_true rfl) (sh_79 _ _) rfl (by decide) (by decide) rfl rfl (Nat.le_of_ble_eq_true rfl) (K_Walk_goOn l g htr r4.1 r5.1 r5.2 _ e6) ?_
      refine G_iinc (v := x7 + 1) 6 rfl K dX9_draw_110 rfl (Nat.le_of_ble_eq_true rfl) rfl ?_
      refine G_goto (tgt := 18) K dX9_draw_113 (by decide) ?_
      exact G_lv (lv' := [(0, .ref (g.2.1 79)), (3, .int x3), (5, .int x5), (6, .int (s0 + s1)), (7, .int (x7 + 1))]) [4, 5, 6, 3, 0] rfl (E18 (s0 + s1) (x7 + 1) r6 (wpO_some h))
    intro z h
    unfold F_Walk_draw_b18 at h
    refine G_iload 4 rfl K dX9_draw_18 ?_
    refine G_iload_n rfl 1 rfl K dX9_draw_20 ?_
    refine G_icmp_ge (tgt := 116) K dX9_draw_21 (by decide) (fun hc => ?_) (fun hc => ?_)
    · have h := wpO_t h hc
      have h := X18 _ (wpO_some h)
      try dsimp only at h
      exact G_lv (lv' := [(0, .ref (g.2.1 79)), (5, .int x5), (6, .int z.1)]) [0, 2, 3] rfl (J116 x5 z.1 z.2.2 h)
    · have h := wpO_f h hc
      refine G_aload_n rfl 0 rfl K dX9_draw_24 ?_
      refine G_get (ci := 9) (k := 0) K rfl in_X9 wd_319 rfl dX9_draw_25 (Nat.le_of_ble_eq_true rfl) (sh_79 _ _) (Nat.le_of_ble_eq_true rfl) rfl ?_
      refine G_aload_n rfl 0 rfl K dX9_draw_28 ?_
      refine G_get (ci := 9) (k := 1) K rfl in_X9 wd_320 rfl dX9_draw_29 (Nat.le_of_ble_eq_true rfl) (sh_79 _ _) (Nat.le_of_ble_eq_true rfl) rfl ?_
      refine G_aload_n rfl 0 rfl K dX9_draw_32 ?_
      refine G_get (ci := 9) (k := 3) K rfl in_X9 wd_322 rfl dX9_draw_33 (Nat.le_of_ble_eq_true rfl) (sh_79 _ _) (Nat.le_of_ble_eq_true rfl) rfl ?_
      obtain ⟨r2, e2, h⟩ := wpO_bind h
      refine G_callVi (ci := 10) [.int (z.2.2.1 79 1), .int (z.2.2.1 79 3)] [] K dX9_draw_36 wv_1257 yd_X10_actOf (Nat.le_of_ble_eq_true rfl) (sh_1 _ _) rfl (by decide) (by decide) rfl rfl (Nat.le_of_ble_eq_true rfl) (K_Well_actOf l g htr (z.2.2.1 79 1) (z.2.2.1 79 3) z.2.2 _ e2) ?_
      refine G_istore K dX9_draw_39 (Nat.le_of_ble_eq_true rfl) rfl ?_
      refine G_aload_n rfl 1 rfl K dX9_draw_41 ?_
      refine G_get (ci := 9) (k := 0) K rfl in_X9 wd_319 rfl dX9_draw_42 (Nat.le_of_ble_eq_true rfl) (sh_79 _ _) (Nat.le_of_ble_eq_true rfl) rfl ?_
      refine G_aload_n rfl 1 rfl K dX9_draw_45 ?_
      refine G_get (ci := 9) (k := 2) K rfl in_X9 wd_321 rfl dX9_draw_46 (Nat.le_of_ble_eq_true rfl) (sh_79 _ _) (Nat.le_of_ble_eq_true rfl) rfl ?_
      refine G_aload_n rfl 1 rfl K dX9_draw_49 ?_
      refine G_get (ci := 9) (k := 4) K rfl in_X9 wd_323 rfl dX9_draw_50 (Nat.le_of_ble_eq_true rfl) (sh_79 _ _) (Nat.le_of_ble_eq_true rfl) rfl ?_
      obtain ⟨r3, e3, h⟩ := wpO_bind h
      refine G_callVi (ci := 10) [.int (z.2.2.1 79 2), .int (z.2.2.1 79 4)] [] K dX9_draw_53 wv_1257 yd_X10_actOf (Nat.le_of_ble_eq_true rfl) (sh_1 _ _) rfl (by decide) (by decide) rfl rfl (Nat.le_of_ble_eq_true rfl) (K_Well_actOf l g htr (z.2.2.1 79 2) (z.2.2.1 79 4) z.2.2 _ e3) ?_
      refine G_istore K dX9_draw_56 (Nat.le_of_ble_eq_true rfl) rfl ?_
      refine G_iload 5 rfl K dX9_draw_58 ?_
      refine G_iload 4 rfl K dX9_draw_60 ?_
      refine G_iconst (v := 2) rfl K dX9_draw_62 ?_
      refine G_icmp_ge (tgt := 82) K dX9_draw_63 (by decide) (fun hc => ?_) (fun hc => ?_)
      · have h := wpO_t h hc
        refine G_iconst (v := 0) rfl K dX9_draw_82 ?_
        exact G_lv (lv' := [(0, .ref (g.2.1 79)), (3, .int x3), (5, .int x5), (7, .int z.2.1), (8, .int r2), (9, .int r3)]) [2, 3, 4, 6, 1, 0] rfl (J83 z.2.1 r2 r3 z.1 0 z.2.2 h)
      · have h := wpO_f h hc
        refine G_aload_n rfl 2 rfl K dX9_draw_66 ?_
        refine G_get (ci := 9) (k := 0) K rfl in_X9 wd_319 rfl dX9_draw_67 (Nat.le_of_ble_eq_true rfl) (sh_79 _ _) (Nat.le_of_ble_eq_true rfl) rfl ?_
        refine G_iload 4 rfl K dX9_draw_70 ?_
        refine G_iload 1 rfl K dX9_draw_72 ?_
        refine G_iload 0 rfl K dX9_draw_74 ?_
        obtain ⟨r7, e7, h⟩ := wpO_bind h
        refine G_callVi (ci := 10) [.int x5, .int r2, .int r3] [.int z.1] K dX9_draw_76 wv_1274 yd_X10_bringsTo (Nat.le_of_ble_eq_true rfl) (sh_1 _ _) rfl (by decide) (by decide) rfl rfl (Nat.le_of_ble_eq_true rfl) (K_Well_bringsTo l g htr x5 r2 r3 z.2.2 _ e7) ?_
        refine G_goto (tgt := 83) K dX9_draw_79 (by decide) ?_
        exact G_lv (lv' := [(0, .ref (g.2.1 79)), (3, .int x3), (5, .int x5), (7, .int z.2.1), (8, .int r2), (9, .int r3)]) [2, 3, 4, 6, 1, 0] rfl (J83 z.2.1 r2 r3 z.1 r7 z.2.2 h)
  unfold F_Walk_draw at h
  refine G_aload_n rfl 0 rfl K dX9_draw_0 ?_
  refine G_iload_n rfl 1 rfl K dX9_draw_1 ?_
  refine G_iload_n rfl 2 rfl K dX9_draw_2 ?_
  obtain ⟨r1, e1, h⟩ := wpO_bind h
  refine G_callVv (ci := 9) [.int x1, .int x2] [] K dX9_draw_3 wv_1252 yd_X9_start (Nat.le_of_ble_eq_true rfl) (sh_79 _ _) rfl (by decide) (by decide) rfl rfl (Nat.le_of_ble_eq_true rfl) (K_Walk_start l g htr x1 x2 M _ e1) ?_
  refine G_aload_n rfl 0 rfl K dX9_draw_6 ?_
  refine G_iload 4 rfl K dX9_draw_7 ?_
  refine G_putI (ci := 9) (k := 5) (ty := .int) K rfl in_X9 tyX9 tyX9_ok nmX9 wd_324 rfl rfl rfl rfl rfl dX9_draw_9 (Nat.le_of_ble_eq_true rfl) (sh_79 _ _) (sh_79 _ _) (Nat.le_of_ble_eq_true rfl) (Nat.le_of_ble_eq_true rfl) rfl ?_
  refine G_iconst (v := 0) rfl K dX9_draw_12 ?_
  refine G_istore K dX9_draw_13 (Nat.le_of_ble_eq_true rfl) rfl ?_
  refine G_iconst (v := 0) rfl K dX9_draw_15 ?_
  refine G_istore K dX9_draw_16 (Nat.le_of_ble_eq_true rfl) rfl ?_
  exact G_lv (lv' := [(0, .ref (g.2.1 79)), (3, .int x3), (5, .int x5), (6, .int 0), (7, .int 0)]) [2, 5, 7, 1, 0] rfl (J18 x3 x5 0 0 (mSI r1 79 5 x4) h)
