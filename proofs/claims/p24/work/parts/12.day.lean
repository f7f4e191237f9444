def on_J9_max_7cf53 : Nat := 0xac1b0400a71a0700a11b1a
theorem ob_J9_max_7cf53 : OKB cJ9_max_7cf53 on_J9_max_7cf53 11 := ⟨by decide +kernel, by decide +kernel⟩
theorem dJ9_max_7cf53_0 : dc cJ9_max_7cf53 0 1 (.iload_n 0) 1 := o_26 ob_J9_max_7cf53 rfl rfl rfl
theorem dJ9_max_7cf53_1 : dc cJ9_max_7cf53 1 2 (.iload_n 1) 1 := o_27 ob_J9_max_7cf53 rfl rfl rfl
theorem dJ9_max_7cf53_2 : dc cJ9_max_7cf53 2 5 (.if_icmp .lt 7) 3 := o_161 ob_J9_max_7cf53 rfl rfl rfl rfl
theorem dJ9_max_7cf53_5 : dc cJ9_max_7cf53 5 6 (.iload_n 0) 1 := o_26 ob_J9_max_7cf53 rfl rfl rfl
theorem dJ9_max_7cf53_6 : dc cJ9_max_7cf53 6 9 (.goto 4) 3 := o_167 ob_J9_max_7cf53 rfl rfl rfl rfl
theorem dJ9_max_7cf53_9 : dc cJ9_max_7cf53 9 10 (.iload_n 1) 1 := o_27 ob_J9_max_7cf53 rfl rfl rfl
theorem dJ9_max_7cf53_10 : dc cJ9_max_7cf53 10 11 .ireturn 1 := o_172 ob_J9_max_7cf53 rfl rfl rfl
def F_Math_max_III (x0 : Int32) (x1 : Int32) (M : Mem) : Option (Int32) :=
  if x0 < x1 then some x1 else some x0
set_option maxRecDepth 100000 in
set_option maxHeartbeats 4000000 in
theorem K_Math_max_III (l : Launch) (g : GB) (htr : l.stackTraces = false) (x0 : Int32) (x1 : Int32) (M : Mem) (rr : Int32) (h : F_Math_max_III x0 x1 M = some rr) : CT l g yJ9_max_7cf53 (.code yJ9_max_7cf53 cJ9_max_7cf53 2 (some .int) :: wAll) { frames := 0, cells := 0, slots := 0, locals := 0 } [.int x0, .int x1] M (.inl (some (.int rr))) M := by
  refine CT.of [(0, .int x0), (1, .int x1)] pf_J9_max_7cf53 (Nat.le_of_ble_eq_true rfl) rfl htr ?_
  intro p e s m args below meth c K hr ht
  skip
  obtain ⟨PHI, hPHI, h⟩ : ∃ PHI : Int32 → Prop, (∀ a, PHI a → a = rr) ∧ wpO (F_Math_max_III x0 x1 M) PHI := ⟨fun a => a = rr, fun _ h => h, _, h, rfl⟩
  unfold F_Math_max_III at h
  refine G_iload_n rfl 0 rfl K dJ9_max_7cf53_0 ?_
  refine G_iload_n rfl 1 rfl K dJ9_max_7cf53_1 ?_
  refine G_icmp_lt (tgt := 9) K dJ9_max_7cf53_2 (by decide) (fun hc => ?_) (fun hc => ?_)
  · have h := wpO_t h hc
    refine G_iload_n rfl 1 rfl K dJ9_max_7cf53_9 ?_
    cases hPHI _ (wpO_some h)
    exact G_iret K hr rfl dJ9_max_7cf53_10 (Nat.le_of_ble_eq_true rfl) (Nat.le_of_ble_eq_true rfl) ⟨rfl, rfl⟩
  · have h := wpO_f h hc
    refine G_iload_n rfl 0 rfl K dJ9_max_7cf53_5 ?_
    refine G_goto (tgt := 10) K dJ9_max_7cf53_6 (by decide) ?_
    cases hPHI _ (wpO_some h)
    exact G_iret K hr rfl dJ9_max_7cf53_10 (Nat.le_of_ble_eq_true rfl) (Nat.le_of_ble_eq_true rfl) ⟨rfl, rfl⟩
theorem yd_J9_max_7cf53 : ydN yJ9_max_7cf53 2 := ⟨by decide, by decide, by decide +kernel⟩
theorem wv_577 : wdV "KeptWell$Day" 49 yX10_bringsOwn cX10_bringsOwn 4 (some .int) := ⟨wd_577, wd_578, wd_579, wd_2, wd_580⟩
theorem wv_581 : wdS "KeptWell$Day" 56 yJ9_max_7cf53 cJ9_max_7cf53 2 (some .int) := ⟨wd_581, wd_49, wd_4, wd_50⟩
def on_X4_mostAgainst : Nat := 0xac1de1ffa70104843e3800b83100b61c04151b2d00b42a1d1900a23500b42d00b42a04150436043e3100b61c031b2d00b42a
theorem ob_X4_mostAgainst : OKB cX4_mostAgainst on_X4_mostAgainst 50 := ⟨by decide +kernel, by decide +kernel⟩
theorem dX4_mostAgainst_0 : dc cX4_mostAgainst 0 1 (.aload_n 0) 1 := o_42 ob_X4_mostAgainst rfl rfl rfl
theorem dX4_mostAgainst_1 : dc cX4_mostAgainst 1 4 (.getfield 45) 3 := o_180 ob_X4_mostAgainst rfl rfl rfl rfl
theorem dX4_mostAgainst_4 : dc cX4_mostAgainst 4 5 (.iload_n 1) 1 := o_27 ob_X4_mostAgainst rfl rfl rfl
theorem dX4_mostAgainst_5 : dc cX4_mostAgainst 5 6 (.iconst 0) 1 := o_3 ob_X4_mostAgainst rfl rfl rfl
theorem dX4_mostAgainst_6 : dc cX4_mostAgainst 6 7 (.iload_n 2) 1 := o_28 ob_X4_mostAgainst rfl rfl rfl
theorem dX4_mostAgainst_7 : dc cX4_mostAgainst 7 10 (.invokevirtual 49) 3 := o_182 ob_X4_mostAgainst rfl rfl rfl rfl
theorem dX4_mostAgainst_10 : dc cX4_mostAgainst 10 11 (.istore_n 3) 1 := o_62 ob_X4_mostAgainst rfl rfl rfl
theorem dX4_mostAgainst_11 : dc cX4_mostAgainst 11 12 (.iconst 1) 1 := o_4 ob_X4_mostAgainst rfl rfl rfl
theorem dX4_mostAgainst_12 : dc cX4_mostAgainst 12 14 (.istore 4) 2 := o_54 ob_X4_mostAgainst rfl rfl rfl rfl
theorem dX4_mostAgainst_14 : dc cX4_mostAgainst 14 16 (.iload 4) 2 := o_21 ob_X4_mostAgainst rfl rfl rfl rfl
theorem dX4_mostAgainst_16 : dc cX4_mostAgainst 16 17 (.aload_n 0) 1 := o_42 ob_X4_mostAgainst rfl rfl rfl
theorem dX4_mostAgainst_17 : dc cX4_mostAgainst 17 20 (.getfield 45) 3 := o_180 ob_X4_mostAgainst rfl rfl rfl rfl
theorem dX4_mostAgainst_20 : dc cX4_mostAgainst 20 23 (.getfield 53) 3 := o_180 ob_X4_mostAgainst rfl rfl rfl rfl
theorem dX4_mostAgainst_23 : dc cX4_mostAgainst 23 26 (.if_icmp .ge 25) 3 := o_162 ob_X4_mostAgainst rfl rfl rfl rfl
theorem dX4_mostAgainst_26 : dc cX4_mostAgainst 26 27 (.iload_n 3) 1 := o_29 ob_X4_mostAgainst rfl rfl rfl
theorem dX4_mostAgainst_27 : dc cX4_mostAgainst 27 28 (.aload_n 0) 1 := o_42 ob_X4_mostAgainst rfl rfl rfl
theorem dX4_mostAgainst_28 : dc cX4_mostAgainst 28 31 (.getfield 45) 3 := o_180 ob_X4_mostAgainst rfl rfl rfl rfl
theorem dX4_mostAgainst_31 : dc cX4_mostAgainst 31 32 (.iload_n 1) 1 := o_27 ob_X4_mostAgainst rfl rfl rfl
theorem dX4_mostAgainst_32 : dc cX4_mostAgainst 32 34 (.iload 4) 2 := o_21 ob_X4_mostAgainst rfl rfl rfl rfl
theorem dX4_mostAgainst_34 : dc cX4_mostAgainst 34 35 (.iload_n 2) 1 := o_28 ob_X4_mostAgainst rfl rfl rfl
theorem dX4_mostAgainst_35 : dc cX4_mostAgainst 35 38 (.invokevirtual 49) 3 := o_182 ob_X4_mostAgainst rfl rfl rfl rfl
theorem dX4_mostAgainst_38 : dc cX4_mostAgainst 38 41 (.invokestatic 56) 3 := o_184 ob_X4_mostAgainst rfl rfl rfl rfl
theorem dX4_mostAgainst_41 : dc cX4_mostAgainst 41 42 (.istore_n 3) 1 := o_62 ob_X4_mostAgainst rfl rfl rfl
theorem dX4_mostAgainst_42 : dc cX4_mostAgainst 42 45 (.iinc 4 1) 3 := o_132 ob_X4_mostAgainst rfl rfl rfl rfl rfl
theorem dX4_mostAgainst_45 : dc cX4_mostAgainst 45 48 (.goto (-31)) 3 := o_167 ob_X4_mostAgainst rfl rfl rfl rfl
theorem dX4_mostAgainst_48 : dc cX4_mostAgainst 48 49 (.iload_n 3) 1 := o_29 ob_X4_mostAgainst rfl rfl rfl
theorem dX4_mostAgainst_49 : dc cX4_mostAgainst 49 50 .ireturn 1 := o_172 ob_X4_mostAgainst rfl rfl rfl
def F_Day_mostAgainst_b14 (x1 : Int32) (x2 : Int32) (M : Mem) (z : Int32 × Int32) : Option ((Int32 × Int32) ⊕ ((Int32))) :=
  if (M.1 1 0) ≤ z.2 then some (.inr z.1) else (F_Well_bringsOwn x1 z.2 x2 M).bind fun r2 => (F_Math_max_III z.1 r2 M).bind fun r3 => some (.inl ((r3, z.2 + 1)))
def F_Day_mostAgainst_l14 (x1 : Int32) (x2 : Int32) (x3 : Int32) (x4 : Int32) (M : Mem) : Option (Int32) :=
  (iter (F_Day_mostAgainst_b14 x1 x2 M) FUEL (x3, x4)).bind fun r => some r
def F_Day_mostAgainst (x1 : Int32) (x2 : Int32) (M : Mem) : Option (Int32) :=
  (F_Well_bringsOwn x1 0 x2 M).bind fun r1 => F_Day_mostAgainst_l14 x1 x2 r1 1 M
set_option maxRecDepth 100000 in
set_option maxHeartbeats 4000000 in
theorem K_Day_mostAgainst (l : Launch) (g : GB) (htr : l.stackTraces = false) (x1 : Int32) (x2 : Int32) (M : Mem) (rr : Int32) (h : F_Day_mostAgainst x1 x2 M = some rr) : CT l g yX4_mostAgainst (.code yX4_mostAgainst cX4_mostAgainst 5 (some .int) :: wAll) { frames := 2, cells := 0, slots := 0, locals := 44 } [.ref (g.2.1 68), .int x1, .int x2] M (.inl (some (.int rr))) M := by
  refine CT.of [(0, .ref (g.2.1 68)), (1, .int x1), (2, .int x2)] (by decide +kernel) (Nat.le_of_ble_eq_true rfl) rfl htr ?_
  intro p e s m args below meth c K hr ht
  skip
  obtain ⟨PHI, hPHI, h⟩ : ∃ PHI : Int32 → Prop, (∀ a, PHI a → a = rr) ∧ wpO (F_Day_mostAgainst x1 x2 M) PHI := ⟨fun a => a = rr, fun _ h => h, _, h, rfl⟩
  have J14 : ∀ (x1 : Int32) (x2 : Int32) (x3 : Int32) (x4 : Int32), wpO (F_Day_mostAgainst_l14 x1 x2 x3 x4 M) PHI → GG p l e { frames := 2, cells := 0, slots := 0, locals := 44 } s m args below meth c g 5 (vx_MQ below (Qn g s.heap.size (.inl (some (.int rr))) M) (QX g s.heap.size (.inl (some (.int rr))) M) args s 0 0 (AS g s.heap.size)) 0 0 14 [(0, .ref (g.2.1 68)), (1, .int x1), (2, .int x2), (3, .int x3), (4, .int x4)] [] M := by
    intro x1 x2 x3 x4 h
    unfold F_Day_mostAgainst_l14 at h
    refine loop_C2 (G := fun (x3 : Int32) (x4 : Int32) => GG p l e { frames := 2, cells := 0, slots := 0, locals := 44 } s m args below meth c g 5 (vx_MQ below (Qn g s.heap.size (.inl (some (.int rr))) M) (QX g s.heap.size (.inl (some (.int rr))) M) args s 0 0 (AS g s.heap.size)) 0 0 14 [(0, .ref (g.2.1 68)), (1, .int x1), (2, .int x2), (3, .int x3), (4, .int x4)] [] M) (body := F_Day_mostAgainst_b14 x1 x2 M) ?_ FUEL _ _ (wpO_bind h)
    intro P14 E14 X14
    intro z h
    unfold F_Day_mostAgainst_b14 at h
    refine G_iload 4 rfl K dX4_mostAgainst_14 ?_
    refine G_aload_n rfl 0 rfl K dX4_mostAgainst_16 ?_
    refine G_get (ci := 4) (k := 0) K rfl in_X4 wd_282 rfl dX4_mostAgainst_17 (Nat.le_of_ble_eq_true rfl) (sh_68 _ _) (Nat.le_of_ble_eq_true rfl) rfl ?_
    refine G_get (ci := 10) (k := 0) K rfl in_X10 wd_57 rfl dX4_mostAgainst_20 (Nat.le_of_ble_eq_true rfl) (sh_1 _ _) (Nat.le_of_ble_eq_true rfl) rfl ?_
    refine G_icmp_ge (tgt := 48) K dX4_mostAgainst_23 (by decide) (fun hc => ?_) (fun hc => ?_)
    · have h := wpO_t h hc
      have h := X14 _ (wpO_some h)
      try dsimp only at h
      refine G_iload_n rfl 3 rfl K dX4_mostAgainst_48 ?_
      cases hPHI _ (wpO_some h)
      exact G_iret K hr rfl dX4_mostAgainst_49 (Nat.le_of_ble_eq_true rfl) (Nat.le_of_ble_eq_true rfl) ⟨rfl, rfl⟩
    · have h := wpO_f h hc
      refine G_iload_n rfl 3 rfl K dX4_mostAgainst_26 ?_
      refine G_aload_n rfl 0 rfl K dX4_mostAgainst_27 ?_
      refine G_get (ci := 4) (k := 0) K rfl in_X4 wd_282 rfl dX4_mostAgainst_28 (Nat.le_of_ble_eq_true rfl) (sh_68 _ _) (Nat.le_of_ble_eq_true rfl) rfl ?_
      refine G_iload_n rfl 1 rfl K dX4_mostAgainst_31 ?_
      refine G_iload 4 rfl K dX4_mostAgainst_32 ?_
      refine G_iload_n rfl 2 rfl K dX4_mostAgainst_34 ?_
      obtain ⟨r2, e2, h⟩ := wpO_bind h
      refine G_callVi (ci := 10) [.int x1, .int z.2, .int x2] [.int z.1] K dX4_mostAgainst_35 wv_577 yd_X10_bringsOwn (Nat.le_of_ble_eq_true rfl) (sh_1 _ _) rfl (by decide) (by decide) rfl rfl (Nat.le_of_ble_eq_true rfl) (K_Well_bringsOwn l g htr x1 z.2 x2 M _ e2) ?_
      obtain ⟨r3, e3, h⟩ := wpO_bind h
      refine G_callSi [.int z.1, .int r2] [] K dX4_mostAgainst_38 wv_581 yd_J9_max_7cf53 (by decide) (by decide) rfl rfl (Nat.le_of_ble_eq_true rfl) (K_Math_max_III l g htr z.1 r2 M _ e3) ?_
      refine G_istore_n rfl K dX4_mostAgainst_41 (Nat.le_of_ble_eq_true rfl) rfl ?_
      refine G_iinc (v := z.2 + 1) 4 rfl K dX4_mostAgainst_42 rfl (Nat.le_of_ble_eq_true rfl) rfl ?_
      refine G_goto (tgt := 14) K dX4_mostAgainst_45 (by decide) ?_
      exact G_lv (lv' := [(0, .ref (g.2.1 68)), (1, .int x1), (2, .int x2), (3, .int r3), (4, .int (z.2 + 1))]) [2, 3, 4, 1, 0] rfl (E14 r3 (z.2 + 1) (wpO_some h))
  unfold F_Day_mostAgainst at h
  refine G_aload_n rfl 0 rfl K dX4_mostAgainst_0 ?_
  refine G_get (ci := 4) (k := 0) K rfl in_X4 wd_282 rfl dX4_mostAgainst_1 (Nat.le_of_ble_eq_true rfl) (sh_68 _ _) (Nat.le_of_ble_eq_true rfl) rfl ?_
  refine G_iload_n rfl 1 rfl K dX4_mostAgainst_4 ?_
  refine G_iconst (v := 0) rfl K dX4_mostAgainst_5 ?_
  refine G_iload_n rfl 2 rfl K dX4_mostAgainst_6 ?_
  obtain ⟨r1, e1, h⟩ := wpO_bind h
  refine G_callVi (ci := 10) [.int x1, .int 0, .int x2] [] K dX4_mostAgainst_7 wv_577 yd_X10_bringsOwn (Nat.le_of_ble_eq_true rfl) (sh_1 _ _) rfl (by decide) (by decide) rfl rfl (Nat.le_of_ble_eq_true rfl) (K_Well_bringsOwn l g htr x1 0 x2 M _ e1) ?_
  refine G_istore_n rfl K dX4_mostAgainst_10 (Nat.le_of_ble_eq_true rfl) rfl ?_
  refine G_iconst (v := 1) rfl K dX4_mostAgainst_11 ?_
  refine G_istore K dX4_mostAgainst_12 (Nat.le_of_ble_eq_true rfl) rfl ?_
  exact G_lv (lv' := [(0, .ref (g.2.1 68)), (1, .int x1), (2, .int x2), (3, .int r1), (4, .int 1)]) [2, 3, 4, 1, 0] rfl (J14 x1 x2 r1 1 h)
theorem yd_X4_mostAgainst : ydN yX4_mostAgainst 2 := ⟨by decide, by decide, by decide +kernel⟩
theorem wv_573 : wdV "KeptWell$Day" 62 yX4_mostAgainst cX4_mostAgainst 5 (some .int) := ⟨wd_573, wd_575, ws_X4_mostAgainst, wd_9, wd_576⟩
def on_X4_threatTo : Nat := 0xac1ce1ffa70103843d1d0500a23e00b61c1b2a3e00b61d1b2a1a00a23500b42d00b42a1d3e043d03
theorem ob_X4_threatTo : OKB cX4_threatTo on_X4_threatTo 40 := ⟨by decide +kernel, by decide +kernel⟩
theorem dX4_threatTo_0 : dc cX4_threatTo 0 1 (.iconst 0) 1 := o_3 ob_X4_threatTo rfl rfl rfl
theorem dX4_threatTo_1 : dc cX4_threatTo 1 2 (.istore_n 2) 1 := o_61 ob_X4_threatTo rfl rfl rfl
theorem dX4_threatTo_2 : dc cX4_threatTo 2 3 (.iconst 1) 1 := o_4 ob_X4_threatTo rfl rfl rfl
theorem dX4_threatTo_3 : dc cX4_threatTo 3 4 (.istore_n 3) 1 := o_62 ob_X4_threatTo rfl rfl rfl
theorem dX4_threatTo_4 : dc cX4_threatTo 4 5 (.iload_n 3) 1 := o_29 ob_X4_threatTo rfl rfl rfl
theorem dX4_threatTo_5 : dc cX4_threatTo 5 6 (.aload_n 0) 1 := o_42 ob_X4_threatTo rfl rfl rfl
theorem dX4_threatTo_6 : dc cX4_threatTo 6 9 (.getfield 45) 3 := o_180 ob_X4_threatTo rfl rfl rfl rfl
theorem dX4_threatTo_9 : dc cX4_threatTo 9 12 (.getfield 53) 3 := o_180 ob_X4_threatTo rfl rfl rfl rfl
theorem dX4_threatTo_12 : dc cX4_threatTo 12 15 (.if_icmp .ge 26) 3 := o_162 ob_X4_threatTo rfl rfl rfl rfl
theorem dX4_threatTo_15 : dc cX4_threatTo 15 16 (.aload_n 0) 1 := o_42 ob_X4_threatTo rfl rfl rfl
theorem dX4_threatTo_16 : dc cX4_threatTo 16 17 (.iload_n 1) 1 := o_27 ob_X4_threatTo rfl rfl rfl
theorem dX4_threatTo_17 : dc cX4_threatTo 17 18 (.iload_n 3) 1 := o_29 ob_X4_threatTo rfl rfl rfl
theorem dX4_threatTo_18 : dc cX4_threatTo 18 21 (.invokevirtual 62) 3 := o_182 ob_X4_threatTo rfl rfl rfl rfl
theorem dX4_threatTo_21 : dc cX4_threatTo 21 22 (.aload_n 0) 1 := o_42 ob_X4_threatTo rfl rfl rfl
theorem dX4_threatTo_22 : dc cX4_threatTo 22 23 (.iload_n 1) 1 := o_27 ob_X4_threatTo rfl rfl rfl
theorem dX4_threatTo_23 : dc cX4_threatTo 23 24 (.iload_n 2) 1 := o_28 ob_X4_threatTo rfl rfl rfl
theorem dX4_threatTo_24 : dc cX4_threatTo 24 27 (.invokevirtual 62) 3 := o_182 ob_X4_threatTo rfl rfl rfl rfl
theorem dX4_threatTo_27 : dc cX4_threatTo 27 30 (.if_icmp .ge 5) 3 := o_162 ob_X4_threatTo rfl rfl rfl rfl
theorem dX4_threatTo_30 : dc cX4_threatTo 30 31 (.iload_n 3) 1 := o_29 ob_X4_threatTo rfl rfl rfl
theorem dX4_threatTo_31 : dc cX4_threatTo 31 32 (.istore_n 2) 1 := o_61 ob_X4_threatTo rfl rfl rfl
theorem dX4_threatTo_32 : dc cX4_threatTo 32 35 (.iinc 3 1) 3 := o_132 ob_X4_threatTo rfl rfl rfl rfl rfl
theorem dX4_threatTo_35 : dc cX4_threatTo 35 38 (.goto (-31)) 3 := o_167 ob_X4_threatTo rfl rfl rfl rfl
theorem dX4_threatTo_38 : dc cX4_threatTo 38 39 (.iload_n 2) 1 := o_28 ob_X4_threatTo rfl rfl rfl
theorem dX4_threatTo_39 : dc cX4_threatTo 39 40 .ireturn 1 := o_172 ob_X4_threatTo rfl rfl rfl
def F_Day_threatTo_b4 (x1 : Int32) (M : Mem) (z : Int32 × Int32) : Option ((Int32 × Int32) ⊕ ((Int32))) :=
  if (M.1 1 0) ≤ z.2 then some (.inr z.1) else (F_Day_mostAgainst x1 z.2 M).bind fun r1 => (F_Day_mostAgainst x1 z.1 M).bind fun r2 => if r2 ≤ r1 then some (.inl ((z.1, z.2 + 1))) else some (.inl ((z.2, z.2 + 1)))
def F_Day_threatTo_l4 (x1 : Int32) (x2 : Int32) (x3 : Int32) (M : Mem) : Option (Int32) :=
  (iter (F_Day_threatTo_b4 x1 M) FUEL (x2, x3)).bind fun r => some r
def F_Day_threatTo (x1 : Int32) (M : Mem) : Option (Int32) :=
  F_Day_threatTo_l4 x1 0 1 M
set_option maxRecDepth 100000 in
set_option maxHeartbeats 4000000 in
theorem K_Day_threatTo (l : Launch) (g : GB) (htr : l.stackTraces = false) (x1 : Int32) (M : Mem) (rr : Int32) (h : F_Day_threatTo x1 M = some rr) : CT l g yX4_threatTo (.code yX4_threatTo cX4_threatTo 4 (some .int) :: wAll) { frames := 3, cells := 0, slots := 0, locals := 68 } [.ref (g.2.1 68), .int x1] M (.inl (some (.int rr))) M := by
  refine CT.of [(0, .ref (g.2.1 68)), (1, .int x1)] (by decide +kernel) (Nat.le_of_ble_eq_true rfl) rfl htr ?_
  intro p e s m args below meth c K hr ht
  skip
  obtain ⟨PHI, hPHI, h⟩ : ∃ PHI : Int32 → Prop, (∀ a, PHI a → a = rr) ∧ wpO (F_Day_threatTo x1 M) PHI := ⟨fun a => a = rr, fun _ h => h, _, h, rfl⟩
  have J4 : ∀ (x1 : Int32) (x2 : Int32) (x3 : Int32), wpO (F_Day_threatTo_l4 x1 x2 x3 M) PHI → GG p l e { frames := 3, cells := 0, slots := 0, locals := 68 } s m args below meth c g 4 (vx_MQ below (Qn g s.heap.size (.inl (some (.int rr))) M) (QX g s.heap.size (.inl (some (.int rr))) M) args s 0 0 (AS g s.heap.size)) 0 0 4 [(0, .ref (g.2.1 68)), (1, .int x1), (2, .int x2), (3, .int x3)] [] M := by
    intro x1 x2 x3 h
    unfold F_Day_threatTo_l4 at h
    refine loop_C2 (G := fun (x2 : Int32) (x3 : Int32) => GG p l e { frames := 3, cells := 0, slots := 0, locals := 68 } s m args below meth c g 4 (vx_MQ below (Qn g s.heap.size (.inl (some (.int rr))) M) (QX g s.heap.size (.inl (some (.int rr))) M) args s 0 0 (AS g s.heap.size)) 0 0 4 [(0, .ref (g.2.1 68)), (1, .int x1), (2, .int x2), (3, .int x3)] [] M) (body := F_Day_threatTo_b4 x1 M) ?_ FUEL _ _ (wpO_bind h)
    intro P4 E4 X4
    intro z h
    unfold F_Day_threatTo_b4 at h
    refine G_iload_n rfl 3 rfl K dX4_threatTo_4 ?_
    refine G_aload_n rfl 0 rfl K dX4_threatTo_5 ?_
    refine G_get (ci := 4) (k := 0) K rfl in_X4 wd_282 rfl dX4_threatTo_6 (Nat.le_of_ble_eq_true rfl) (sh_68 _ _) (Nat.le_of_ble_eq_true rfl) rfl ?_
    refine G_get (ci := 10) (k := 0) K rfl in_X10 wd_57 rfl dX4_threatTo_9 (Nat.le_of_ble_eq_true rfl) (sh_1 _ _) (Nat.le_of_ble_eq_true rfl) rfl ?_
    refine G_icmp_ge (tgt := 38) K dX4_threatTo_12 (by decide) (fun hc => ?_) (fun hc => ?_)
    · have h := wpO_t h hc
      have h := X4 _ (wpO_some h)
      try dsimp only at h
      refine G_iload_n rfl 2 rfl K dX4_threatTo_38 ?_
      cases hPHI _ (wpO_some h)
      exact G_iret K hr rfl dX4_threatTo_39 (Nat.le_of_ble_eq_true rfl) (Nat.le_of_ble_eq_true rfl) ⟨rfl, rfl⟩
    · have h := wpO_f h hc
      refine G_aload_n rfl 0 rfl K dX4_threatTo_15 ?_
      refine G_iload_n rfl 1 rfl K dX4_threatTo_16 ?_
      refine G_iload_n rfl 3 rfl K dX4_threatTo_17 ?_
      obtain ⟨r1, e1, h⟩ := wpO_bind h
      refine G_callVi (ci := 4) [.int x1, .int z.2] [] K dX4_threatTo_18 wv_573 yd_X4_mostAgainst (Nat.le_of_ble_eq_true rfl) (sh_68 _ _) rfl (by decide) (by decide) rfl rfl (Nat.le_of_ble_eq_true rfl) (K_Day_mostAgainst l g htr x1 z.2 M _ e1) ?_
      refine G_aload_n rfl 0 rfl K dX4_threatTo_21 ?_
      refine G_iload_n rfl 1 rfl K dX4_threatTo_22 ?_
      refine G_iload_n rfl 2 rfl K dX4_threatTo_23 ?_
      obtain ⟨r2, e2, h⟩ := wpO_bind h
      refine G_callVi (ci := 4) [.int x1, .int z.1] [.int r1] K dX4_threatTo_24 wv_573 yd_X4_mostAgainst (Nat.le_of_ble_eq_true rfl) (sh_68 _ _) rfl (by decide) (by decide) rfl rfl (Nat.le_of_ble_eq_true rfl) (K_Day_mostAgainst l g htr x1 z.1 M _ e2) ?_
      refine G_icmp_ge (tgt := 32) K dX4_threatTo_27 (by decide) (fun hc => ?_) (fun hc => ?_)
      · have h := wpO_t h hc
        refine G_iinc (v := z.2 + 1) 3 rfl K dX4_threatTo_32 rfl (Nat.le_of_ble_eq_true rfl) rfl ?_
        refine G_goto (tgt := 4) K dX4_threatTo_35 (by decide) ?_
        exact G_lv (lv' := [(0, .ref (g.2.1 68)), (1, .int x1), (2, .int z.1), (3, .int (z.2 + 1))]) [1, 2, 3, 0] rfl (E4 z.1 (z.2 + 1) (wpO_some h))
      · have h := wpO_f h hc
        refine G_iload_n rfl 3 rfl K dX4_threatTo_30 ?_
        refine G_istore_n rfl K dX4_threatTo_31 (Nat.le_of_ble_eq_true rfl) rfl ?_
        refine G_iinc (v := z.2 + 1) 3 rfl K dX4_threatTo_32 rfl (Nat.le_of_ble_eq_true rfl) rfl ?_
        refine G_goto (tgt := 4) K dX4_threatTo_35 (by decide) ?_
        exact G_lv (lv' := [(0, .ref (g.2.1 68)), (1, .int x1), (2, .int z.2), (3, .int (z.2 + 1))]) [2, 3, 1, 0] rfl (E4 z.2 (z.2 + 1) (wpO_some h))
  unfold F_Day_threatTo at h
  refine G_iconst (v := 0) rfl K dX4_threatTo_0 ?_
  refine G_istore_n rfl K dX4_threatTo_1 (Nat.le_of_ble_eq_true rfl) rfl ?_
  refine G_iconst (v := 1) rfl K dX4_threatTo_2 ?_
  refine G_istore_n rfl K dX4_threatTo_3 (Nat.le_of_ble_eq_true rfl) rfl ?_
  exact G_lv (lv' := [(0, .ref (g.2.1 68)), (1, .int x1), (2, .int 0), (3, .int 1)]) [2, 3, 1, 0] rfl (J4 x1 0 1 h)
theorem yd_X4_threatTo : ydN yX4_threatTo 1 := ⟨by decide, by decide, by decide +kernel⟩
theorem wv_1076 : wdV "KeptWell$Day" 65 yX4_threatTo cX4_threatTo 4 (some .int) := ⟨wd_1076, wd_1069, wd_1070, wd_9, wd_1071⟩
def on_X4_leastOf : Nat := 0xac3e00b64100b61b2a1b2a
theorem ob_X4_leastOf : OKB cX4_leastOf on_X4_leastOf 11 := ⟨by decide +kernel, by decide +kernel⟩
theorem dX4_leastOf_0 : dc cX4_leastOf 0 1 (.aload_n 0) 1 := o_42 ob_X4_leastOf rfl rfl rfl
theorem dX4_leastOf_1 : dc cX4_leastOf 1 2 (.iload_n 1) 1 := o_27 ob_X4_leastOf rfl rfl rfl
theorem dX4_leastOf_2 : dc cX4_leastOf 2 3 (.aload_n 0) 1 := o_42 ob_X4_leastOf rfl rfl rfl
theorem dX4_leastOf_3 : dc cX4_leastOf 3 4 (.iload_n 1) 1 := o_27 ob_X4_leastOf rfl rfl rfl
theorem dX4_leastOf_4 : dc cX4_leastOf 4 7 (.invokevirtual 65) 3 := o_182 ob_X4_leastOf rfl rfl rfl rfl
theorem dX4_leastOf_7 : dc cX4_leastOf 7 10 (.invokevirtual 62) 3 := o_182 ob_X4_leastOf rfl rfl rfl rfl
theorem dX4_leastOf_10 : dc cX4_leastOf 10 11 .ireturn 1 := o_172 ob_X4_leastOf rfl rfl rfl
def F_Day_leastOf (x1 : Int32) (M : Mem) : Option (Int32) :=
  (F_Day_threatTo x1 M).bind fun r1 => (F_Day_mostAgainst x1 r1 M).bind fun r2 => some r2
set_option maxRecDepth 100000 in
set_option maxHeartbeats 4000000 in
theorem K_Day_leastOf (l : Launch) (g : GB) (htr : l.stackTraces = false) (x1 : Int32) (M : Mem) (rr : Int32) (h : F_Day_leastOf x1 M = some rr) : CT l g yX4_leastOf (.code yX4_leastOf cX4_leastOf 2 (some .int) :: wAll) { frames := 4, cells := 0, slots := 0, locals := 91 } [.ref (g.2.1 68), .int x1] M (.inl (some (.int rr))) M := by
  refine CT.of [(0, .ref (g.2.1 68)), (1, .int x1)] (by decide +kernel) (Nat.le_of_ble_eq_true rfl) rfl htr ?_
  intro p e s m args below meth c K hr ht
  skip
  obtain ⟨PHI, hPHI, h⟩ : ∃ PHI : Int32 → Prop, (∀ a, PHI a → a = rr) ∧ wpO (F_Day_leastOf x1 M) PHI := ⟨fun a => a = rr, fun _ h => h, _, h, rfl⟩
  unfold F_Day_leastOf at h
  refine G_aload_n rfl 0 rfl K dX4_leastOf_0 ?_
  refine G_iload_n rfl 1 rfl K dX4_leastOf_1 ?_
  refine G_aload_n rfl 0 rfl K dX4_leastOf_2 ?_
  refine G_iload_n rfl 1 rfl K dX4_leastOf_3 ?_
  obtain ⟨r1, e1, h⟩ := wpO_bind h
  refine G_callVi (ci := 4) [.int x1] [.int x1, .ref (g.2.1 68)] K dX4_leastOf_4 wv_1076 yd_X4_threatTo (Nat.le_of_ble_eq_true rfl) (sh_68 _ _) rfl (by decide) (by decide) rfl rfl (Nat.le_of_ble_eq_true rfl) (K_Day_threatTo l g htr x1 M _ e1) ?_
  obtain ⟨r2, e2, h⟩ := wpO_bind h
  refine G_callVi (ci := 4) [.int x1, .int r1] [] K dX4_leastOf_7 wv_573 yd_X4_mostAgainst (Nat.le_of_ble_eq_true rfl) (sh_68 _ _) rfl (by decide) (by decide) rfl rfl (Nat.le_of_ble_eq_true rfl) (K_Day_mostAgainst l g htr x1 r1 M _ e2) ?_
  cases hPHI _ (wpO_some h)
  exact G_iret K hr rfl dX4_leastOf_10 (Nat.le_of_ble_eq_true rfl) (Nat.le_of_ble_eq_true rfl) ⟨rfl, rfl⟩
theorem wv_572 : wdV "KeptWell$Day" 69 yX10_bringsTo cX10_bringsTo 4 (some .int) := ⟨wd_572, wd_515, wd_516, wd_2, wd_517⟩
def on_X4_steadyPairs : Nat := 0xac1bafffa7010284c2ffa70103843c8078601d681c06041b0d00a13e00b61c042a4500b61d1c042d00b42a2000a13e00b61d032a4500b61d1c032d00b42a3900a23500b42d00b42a1d3e034c00a23500b42d00b42a1c3d033c03
theorem ob_X4_steadyPairs : OKB cX4_steadyPairs on_X4_steadyPairs 90 := ⟨by decide +kernel, by decide +kernel⟩
theorem dX4_steadyPairs_0 : dc cX4_steadyPairs 0 1 (.iconst 0) 1 := o_3 ob_X4_steadyPairs rfl rfl rfl
theorem dX4_steadyPairs_1 : dc cX4_steadyPairs 1 2 (.istore_n 1) 1 := o_60 ob_X4_steadyPairs rfl rfl rfl
theorem dX4_steadyPairs_2 : dc cX4_steadyPairs 2 3 (.iconst 0) 1 := o_3 ob_X4_steadyPairs rfl rfl rfl
theorem dX4_steadyPairs_3 : dc cX4_steadyPairs 3 4 (.istore_n 2) 1 := o_61 ob_X4_steadyPairs rfl rfl rfl
theorem dX4_steadyPairs_4 : dc cX4_steadyPairs 4 5 (.iload_n 2) 1 := o_28 ob_X4_steadyPairs rfl rfl rfl
theorem dX4_steadyPairs_5 : dc cX4_steadyPairs 5 6 (.aload_n 0) 1 := o_42 ob_X4_steadyPairs rfl rfl rfl
theorem dX4_steadyPairs_6 : dc cX4_steadyPairs 6 9 (.getfield 45) 3 := o_180 ob_X4_steadyPairs rfl rfl rfl rfl
theorem dX4_steadyPairs_9 : dc cX4_steadyPairs 9 12 (.getfield 53) 3 := o_180 ob_X4_steadyPairs rfl rfl rfl rfl
theorem dX4_steadyPairs_12 : dc cX4_steadyPairs 12 15 (.if_icmp .ge 76) 3 := o_162 ob_X4_steadyPairs rfl rfl rfl rfl
theorem dX4_steadyPairs_15 : dc cX4_steadyPairs 15 16 (.iconst 0) 1 := o_3 ob_X4_steadyPairs rfl rfl rfl
theorem dX4_steadyPairs_16 : dc cX4_steadyPairs 16 17 (.istore_n 3) 1 := o_62 ob_X4_steadyPairs rfl rfl rfl
theorem dX4_steadyPairs_17 : dc cX4_steadyPairs 17 18 (.iload_n 3) 1 := o_29 ob_X4_steadyPairs rfl rfl rfl
theorem dX4_steadyPairs_18 : dc cX4_steadyPairs 18 19 (.aload_n 0) 1 := o_42 ob_X4_steadyPairs rfl rfl rfl
theorem dX4_steadyPairs_19 : dc cX4_steadyPairs 19 22 (.getfield 45) 3 := o_180 ob_X4_steadyPairs rfl rfl rfl rfl
theorem dX4_steadyPairs_22 : dc cX4_steadyPairs 22 25 (.getfield 53) 3 := o_180 ob_X4_steadyPairs rfl rfl rfl rfl
theorem dX4_steadyPairs_25 : dc cX4_steadyPairs 25 28 (.if_icmp .ge 57) 3 := o_162 ob_X4_steadyPairs rfl rfl rfl rfl
theorem dX4_steadyPairs_28 : dc cX4_steadyPairs 28 29 (.aload_n 0) 1 := o_42 ob_X4_steadyPairs rfl rfl rfl
theorem dX4_steadyPairs_29 : dc cX4_steadyPairs 29 32 (.getfield 45) 3 := o_180 ob_X4_steadyPairs rfl rfl rfl rfl
theorem dX4_steadyPairs_32 : dc cX4_steadyPairs 32 33 (.iconst 0) 1 := o_3 ob_X4_steadyPairs rfl rfl rfl
theorem dX4_steadyPairs_33 : dc cX4_steadyPairs 33 34 (.iload_n 2) 1 := o_28 ob_X4_steadyPairs rfl rfl rfl
theorem dX4_steadyPairs_34 : dc cX4_steadyPairs 34 35 (.iload_n 3) 1 := o_29 ob_X4_steadyPairs rfl rfl rfl
theorem dX4_steadyPairs_35 : dc cX4_steadyPairs 35 38 (.invokevirtual 69) 3 := o_182 ob_X4_steadyPairs rfl rfl rfl rfl
theorem dX4_steadyPairs_38 : dc cX4_steadyPairs 38 39 (.aload_n 0) 1 := o_42 ob_X4_steadyPairs rfl rfl rfl
theorem dX4_steadyPairs_39 : dc cX4_steadyPairs 39 40 (.iconst 0) 1 := o_3 ob_X4_steadyPairs rfl rfl rfl
theorem dX4_steadyPairs_40 : dc cX4_steadyPairs 40 41 (.iload_n 3) 1 := o_29 ob_X4_steadyPairs rfl rfl rfl
theorem dX4_steadyPairs_41 : dc cX4_steadyPairs 41 44 (.invokevirtual 62) 3 := o_182 ob_X4_steadyPairs rfl rfl rfl rfl
theorem dX4_steadyPairs_44 : dc cX4_steadyPairs 44 47 (.if_icmp .lt 32) 3 := o_161 ob_X4_steadyPairs rfl rfl rfl rfl
theorem dX4_steadyPairs_47 : dc cX4_steadyPairs 47 48 (.aload_n 0) 1 := o_42 ob_X4_steadyPairs rfl rfl rfl
theorem dX4_steadyPairs_48 : dc cX4_steadyPairs 48 51 (.getfield 45) 3 := o_180 ob_X4_steadyPairs rfl rfl rfl rfl
theorem dX4_steadyPairs_51 : dc cX4_steadyPairs 51 52 (.iconst 1) 1 := o_4 ob_X4_steadyPairs rfl rfl rfl
theorem dX4_steadyPairs_52 : dc cX4_steadyPairs 52 53 (.iload_n 2) 1 := o_28 ob_X4_steadyPairs rfl rfl rfl
theorem dX4_steadyPairs_53 : dc cX4_steadyPairs 53 54 (.iload_n 3) 1 := o_29 ob_X4_steadyPairs rfl rfl rfl
theorem dX4_steadyPairs_54 : dc cX4_steadyPairs 54 57 (.invokevirtual 69) 3 := o_182 ob_X4_steadyPairs rfl rfl rfl rfl
theorem dX4_steadyPairs_57 : dc cX4_steadyPairs 57 58 (.aload_n 0) 1 := o_42 ob_X4_steadyPairs rfl rfl rfl
theorem dX4_steadyPairs_58 : dc cX4_steadyPairs 58 59 (.iconst 1) 1 := o_4 ob_X4_steadyPairs rfl rfl rfl
theorem dX4_steadyPairs_59 : dc cX4_steadyPairs 59 60 (.iload_n 2) 1 := o_28 ob_X4_steadyPairs rfl rfl rfl
theorem dX4_steadyPairs_60 : dc cX4_steadyPairs 60 63 (.invokevirtual 62) 3 := o_182 ob_X4_steadyPairs rfl rfl rfl rfl
theorem dX4_steadyPairs_63 : dc cX4_steadyPairs 63 66 (.if_icmp .lt 13) 3 := o_161 ob_X4_steadyPairs rfl rfl rfl rfl
theorem dX4_steadyPairs_66 : dc cX4_steadyPairs 66 67 (.iload_n 1) 1 := o_27 ob_X4_steadyPairs rfl rfl rfl
theorem dX4_steadyPairs_67 : dc cX4_steadyPairs 67 68 (.iconst 1) 1 := o_4 ob_X4_steadyPairs rfl rfl rfl
theorem dX4_steadyPairs_68 : dc cX4_steadyPairs 68 69 (.iconst 3) 1 := o_6 ob_X4_steadyPairs rfl rfl rfl
theorem dX4_steadyPairs_69 : dc cX4_steadyPairs 69 70 (.iload_n 2) 1 := o_28 ob_X4_steadyPairs rfl rfl rfl
theorem dX4_steadyPairs_70 : dc cX4_steadyPairs 70 71 .imul 1 := o_104 ob_X4_steadyPairs rfl rfl rfl
theorem dX4_steadyPairs_71 : dc cX4_steadyPairs 71 72 (.iload_n 3) 1 := o_29 ob_X4_steadyPairs rfl rfl rfl
theorem dX4_steadyPairs_72 : dc cX4_steadyPairs 72 73 .iadd 1 := o_96 ob_X4_steadyPairs rfl rfl rfl
theorem dX4_steadyPairs_73 : dc cX4_steadyPairs 73 74 .ishl 1 := o_120 ob_X4_steadyPairs rfl rfl rfl
theorem dX4_steadyPairs_74 : dc cX4_steadyPairs 74 75 .ior 1 := o_128 ob_X4_steadyPairs rfl rfl rfl
theorem dX4_steadyPairs_75 : dc cX4_steadyPairs 75 76 (.istore_n 1) 1 := o_60 ob_X4_steadyPairs rfl rfl rfl
theorem dX4_steadyPairs_76 : dc cX4_steadyPairs 76 79 (.iinc 3 1) 3 := o_132 ob_X4_steadyPairs rfl rfl rfl rfl rfl
theorem dX4_steadyPairs_79 : dc cX4_steadyPairs 79 82 (.goto (-62)) 3 := o_167 ob_X4_steadyPairs rfl rfl rfl rfl
theorem dX4_steadyPairs_82 : dc cX4_steadyPairs 82 85 (.iinc 2 1) 3 := o_132 ob_X4_steadyPairs rfl rfl rfl rfl rfl
theorem dX4_steadyPairs_85 : dc cX4_steadyPairs 85 88 (.goto (-81)) 3 := o_167 ob_X4_steadyPairs rfl rfl rfl rfl
theorem dX4_steadyPairs_88 : dc cX4_steadyPairs 88 89 (.iload_n 1) 1 := o_27 ob_X4_steadyPairs rfl rfl rfl
theorem dX4_steadyPairs_89 : dc cX4_steadyPairs 89 90 .ireturn 1 := o_172 ob_X4_steadyPairs rfl rfl rfl
def F_Day_steadyPairs_b17 (x2 : Int32) (M : Mem) (z : Int32 × Int32) : Option ((Int32 × Int32) ⊕ ((Int32))) :=
  if (M.1 1 0) ≤ z.2 then some (.inr z.1) else (F_Well_bringsTo 0 x2 z.2 M).bind fun r1 => (F_Day_mostAgainst 0 z.2 M).bind fun r2 => if r1 < r2 then some (.inl ((z.1, z.2 + 1))) else (F_Well_bringsTo 1 x2 z.2 M).bind fun r3 => (F_Day_mostAgainst 1 x2 M).bind fun r4 => if r3 < r4 then some (.inl ((z.1, z.2 + 1))) else some (.inl ((z.1 ||| (1 <<< (((3 * x2) + z.2) &&& 31)), z.2 + 1)))
def F_Day_steadyPairs_l17 (x1 : Int32) (x2 : Int32) (x3 : Int32) (M : Mem) : Option ((Int32 × Int32) ⊕ ((Int32))) :=
  (iter (F_Day_steadyPairs_b17 x2 M) FUEL (x1, x3)).bind fun r => some (.inl ((r, x2 + 1)))
def F_Day_steadyPairs_b4 (M : Mem) (z : Int32 × Int32) : Option ((Int32 × Int32) ⊕ ((Int32))) :=
  if (M.1 1 0) ≤ z.2 then some (.inr z.1) else F_Day_steadyPairs_l17 z.1 z.2 0 M
def F_Day_steadyPairs_l4 (x1 : Int32) (x2 : Int32) (M : Mem) : Option (Int32) :=
  (iter (F_Day_steadyPairs_b4 M) FUEL (x1, x2)).bind fun r => some r
def F_Day_steadyPairs (M : Mem) : Option (Int32) :=
  F_Day_steadyPairs_l4 0 0 M
set_option maxRecDepth 100000 in
set_option maxHeartbeats 4000000 in
theorem K_Day_steadyPairs (l : Launch) (g : GB) (htr : l.stackTraces = false) (M : Mem) (rr : Int32) (h : F_Day_steadyPairs M = some rr) : CT l g yX4_steadyPairs (.code yX4_steadyPairs cX4_steadyPairs 4 (some .int) :: wAll) { frames := 3, cells := 0, slots := 0, locals := 68 } [.ref (g.2.1 68)] M (.inl (some (.int rr))) M := by
  refine CT.of [(0, .ref (g.2.1 68))] (by decide +kernel) (Nat.le_of_ble_eq_true rfl) rfl htr ?_
  intro p e s m args below meth c K hr ht
  skip
  obtain ⟨PHI, hPHI, h⟩ : ∃ PHI : Int32 → Prop, (∀ a, PHI a → a = rr) ∧ wpO (F_Day_steadyPairs M) PHI := ⟨fun a => a = rr, fun _ h => h, _, h, rfl⟩
  have J4 : ∀ (x1 : Int32) (x2 : Int32), wpO (F_Day_steadyPairs_l4 x1 x2 M) PHI → GG p l e { frames := 3, cells := 0, slots := 0, locals := 68 } s m args below meth c g 4 (vx_MQ below (Qn g s.heap.size (.inl (some (.int rr))) M) (QX g s.heap.size (.inl (some (.int rr))) M) args s 0 0 (AS g s.heap.size)) 0 0 4 [(0, .ref (g.2.1 68)), (1, .int x1), (2, .int x2)] [] M := by
    intro x1 x2 h
    unfold F_Day_steadyPairs_l4 at h
    refine loop_C2 (G := fun (x1 : Int32) (x2 : Int32) => GG p l e { frames := 3, cells := 0, slots := 0, locals := 68 } s m args below meth c g 4 (vx_MQ below (Qn g s.heap.size (.inl (some (.int rr))) M) (QX g s.heap.size (.inl (some (.int rr))) M) args s 0 0 (AS g s.heap.size)) 0 0 4 [(0, .ref (g.2.1 68)), (1, .int x1), (2, .int x2)] [] M) (body := F_Day_steadyPairs_b4 M) ?_ FUEL _ _ (wpO_bind h)
    intro P4 E4 X4
    have J17 : ∀ (x1 : Int32) (x2 : Int32) (x3 : Int32), wpO (F_Day_steadyPairs_l17 x1 x2 x3 M) P4 → GG p l e { frames := 3, cells := 0, slots := 0, locals := 68 } s m args below meth c g 4 (vx_MQ below (Qn g s.heap.size (.inl (some (.int rr))) M) (QX g s.heap.size (.inl (some (.int rr))) M) args s 0 0 (AS g s.heap.size)) 0 0 17 [(0, .ref (g.2.1 68)), (1, .int x1), (2, .int x2), (3, .int x3)] [] M := by
      intro x1 x2 x3 h
      unfold F_Day_steadyPairs_l17 at h
      refine loop_C2 (G := fun (x1 : Int32) (x3 : Int32) => GG p l e { frames := 3, cells := 0, slots := 0, locals := 68 } s m args below meth c g 4 (vx_MQ below (Qn g s.heap.size (.inl (some (.int rr))) M) (QX g s.heap.size (.inl (some (.int rr))) M) args s 0 0 (AS g s.heap.size)) 0 0 17 [(0, .ref (g.2.1 68)), (1, .int x1), (2, .int x2), (3, .int x3)] [] M) (body := F_Day_steadyPairs_b17 x2 M) ?_ FUEL _ _ (wpO_bind h)
      intro P17 E17 X17
      intro z h
      unfold F_Day_steadyPairs_b17 at h
      refine G_iload_n rfl 3 rfl K dX4_steadyPairs_17 ?_
      refine G_aload_n rfl 0 rfl K dX4_steadyPairs_18 ?_
      refine G_get (ci := 4) (k := 0) K rfl in_X4 wd_282 rfl dX4_steadyPairs_19 (Nat.le_of_ble_eq_true rfl) (sh_68 _ _) (Nat.le_of_ble_eq_true rfl) rfl ?_
      refine G_get (ci := 10) (k := 0) K rfl in_X10 wd_57 rfl dX4_steadyPairs_22 (Nat.le_of_ble_eq_true rfl) (sh_1 _ _) (Nat.le_of_ble_eq_true rfl) rfl ?_
      refine G_icmp_ge (tgt := 82) K dX4_steadyPairs_25 (by decide) (fun hc => ?_) (fun hc => ?_)
      · have h := wpO_t h hc
        have h := X17 _ (wpO_some h)
        try dsimp only at h
        refine G_iinc (v := x2 + 1) 2 rfl K dX4_steadyPairs_82 rfl (Nat.le_of_ble_eq_true rfl) rfl ?_
        refine G_goto (tgt := 4) K dX4_steadyPairs_85 (by decide) ?_
        exact G_lv (lv' := [(0, .ref (g.2.1 68)), (1, .int z.1), (2, .int (x2 + 1))]) [1, 2, 0] rfl (E4 z.1 (x2 + 1) (wpO_some h))
      · have h := wpO_f h hc
        refine G_aload_n rfl 0 rfl K dX4_steadyPairs_28 ?_
        refine G_get (ci := 4) (k := 0) K rfl in_X4 wd_282 rfl dX4_steadyPairs_29 (Nat.le_of_ble_eq_true rfl) (sh_68 _ _) (Nat.le_of_ble_eq_true rfl) rfl ?_
        refine G_iconst (v := 0) rfl K dX4_steadyPairs_32 ?_
        refine G_iload_n rfl 2 rfl K dX4_steadyPairs_33 ?_
        refine G_iload_n rfl 3 rfl K dX4_steadyPairs_34 ?_
        obtain ⟨r1, e1, h⟩ := wpO_bind h
        refine G_callVi (ci := 10) [.int 0, .int x2, .int z.2] [] K dX4_steadyPairs_35 wv_572 yd_X10_bringsTo (Nat.le_of_ble_eq_true rfl) (sh_1 _ _) rfl (by decide) (by decide) rfl rfl (Nat.le_of_ble_eq_true rfl) (K_Well_bringsTo l g htr 0 x2 z.2 M _ e1) ?_
        refine G_aload_n rfl 0 rfl K dX4_steadyPairs_38 ?_
        refine G_iconst (v := 0) rfl K dX4_steadyPairs_39 ?_
        refine G_iload_n rfl 3 rfl K dX4_steadyPairs_40 ?_
        obtain ⟨r2, e2, h⟩ := wpO_bind h
        refine G_callVi (ci := 4) [.int 0, .int z.2] [.int r1] K dX4_steadyPairs_41 wv_573 yd_X4_mostAgainst (Nat.le_of_ble_eq_true rfl) (sh_68 _ _) rfl (by decide) (by decide) rfl rfl (Nat.le_of_ble_eq_true rfl) (K_Day_mostAgainst l g htr 0 z.2 M _ e2) ?_
        refine G_icmp_lt (tgt := 76) K dX4_steadyPairs_44 (by decide) (fun hc => ?_) (fun hc => ?_)
        · have h := wpO_t h hc
          refine G_iinc (v := z.2 + 1) 3 rfl K dX4_steadyPairs_76 rfl (Nat.le_of_ble_eq_true rfl) rfl ?_
          refine G_goto (tgt := 17) K dX4_steadyPairs_79 (by decide) ?_
          exact G_lv (lv' := [(0, .ref (g.2.1 68)), (1, .int z.1), (2, .int x2), (3, .int (z.2 + 1))]) [1, 2, 3, 0] rfl (E17 z.1 (z.2 + 1) (wpO_some h))
        · have h := wpO_f h hc
          refine G_aload_n rfl 0 rfl K dX4_steadyPairs_47 ?_
          refine G_get (ci := 4) (k := 0) K rfl in_X4 wd_282 rfl dX4_steadyPairs_48 (Nat.le_of_ble_eq_true rfl) (sh_68 _ _) (Nat.le_of_ble_eq_true rfl) rfl ?_
          refine G_iconst (v := 1) rfl K dX4_steadyPairs_51 ?_
          refine G_iload_n rfl 2 rfl K dX4_steadyPairs_52 ?_
          refine G_iload_n rfl 3 rfl K dX4_steadyPairs_53 ?_
          obtain ⟨r3, e3, h⟩ := wpO_bind h
          refine G_callVi (ci := 10) [.int 1, .int x2, .int z.2] [] K dX4_steadyPairs_54 wv_572 yd_X10_bringsTo (Nat.le_of_ble_eq_true rfl) (sh_1 _ _) rfl (by decide) (by decide) rfl rfl (Nat.le_of_ble_eq_true rfl) (K_Well_bringsTo l g htr 1 x2 z.2 M _ e3) ?_
          refine G_aload_n rfl 0 rfl K dX4_steadyPairs_57 ?_
          refine G_iconst (v := 1) rfl K dX4_steadyPairs_58 ?_
          refine G_iload_n rfl 2 rfl K dX4_steadyPairs_59 ?_
          obtain ⟨r4, e4, h⟩ := wpO_bind h
          refine G_callVi (ci := 4) [.int 1, .int x2] [.int r3] K dX4_steadyPairs_60 wv_573 yd_X4_mostAgainst (Nat.le_of_ble_eq_true rfl) (sh_68 _ _) rfl (by decide) (by decide) rfl rfl (Nat.le_of_ble_eq_true rfl) (K_Day_mostAgainst l g htr 1 x2 M _ e4) ?_
          refine G_icmp_lt (tgt := 76) K dX4_steadyPairs_63 (by decide) (fun hc => ?_) (fun hc => ?_)
          · have h := wpO_t h hc
            refine G_iinc (v := z.2 + 1) 3 rfl K dX4_steadyPairs_76 rfl (Nat.le_of_ble_eq_true rfl) rfl ?_
            refine G_goto (tgt := 17) K dX4_steadyPairs_79 (by decide) ?_
            exact G_lv (lv' := [(0, .ref (g.2.1 68)), (1, .int z.1), (2, .int x2), (3, .int (z.2 + 1))]) [1, 2, 3, 0] rfl (E17 z.1 (z.2 + 1) (wpO_some h))
          · have h := wpO_f h hc
            refine G_iload_n rfl 1 rfl K dX4_steadyPairs_66 ?_
            refine G_iconst (v := 1) rfl K dX4_steadyPairs_67 ?_
            refine G_iconst (v := 3) rfl K dX4_steadyPairs_68 ?_
            refine G_iload_n rfl 2 rfl K dX4_steadyPairs_69 ?_
            refine G_imul K dX4_steadyPairs_70 ?_
            refine G_iload_n rfl 3 rfl K dX4_steadyPairs_71 ?_
            refine G_iadd K dX4_steadyPairs_72 ?_
            refine G_ishl K dX4_steadyPairs_73 ?_
            refine G_ior K dX4_steadyPairs_74 ?_
            refine G_istore_n rfl K dX4_steadyPairs_75 (Nat.le_of_ble_eq_true rfl) rfl ?_
            refine G_iinc (v := z.2 + 1) 3 rfl K dX4_steadyPairs_76 rfl (Nat.le_of_ble_eq_true rfl) rfl ?_
            refine G_goto (tgt := 17) K dX4_steadyPairs_79 (by decide) ?_
            exact G_lv (lv' := [(0, .ref (g.2.1 68)), (1, .int (z.1 ||| (1 <<< (((3 * x2) + z.2) &&& 31)))), (2, .int x2), (3, .int (z.2 + 1))]) [2, 1, 3, 0] rfl (E17 (z.1 ||| (1 <<< (((3 * x2) + z.2) &&& 31))) (z.2 + 1) (wpO_some h))
    intro z h
    unfold F_Day_steadyPairs_b4 at h
    refine G_iload_n rfl 2 rfl K dX4_steadyPairs_4 ?_
    refine G_aload_n rfl 0 rfl K dX4_steadyPairs_5 ?_
    refine G_get (ci := 4) (k := 0) K rfl in_X4 wd_282 rfl dX4_steadyPairs_6 (Nat.le_of_ble_eq_true rfl) (sh_68 _ _) (Nat.le_of_ble_eq_true rfl) rfl ?_
    refine G_get (ci := 10) (k := 0) K rfl in_X10 wd_57 rfl dX4_steadyPairs_9 (Nat.le_of_ble_eq_true rfl) (sh_1 _ _) (Nat.le_of_ble_eq_true rfl) rfl ?_
    refine G_icmp_ge (tgt := 88) K dX4_steadyPairs_12 (by decide) (fun hc => ?_) (fun hc => ?_)
    · have h := wpO_t h hc
      have h := X4 _ (wpO_some h)
      try dsimp only at h
      refine G_iload_n rfl 1 rfl K dX4_steadyPairs_88 ?_
      cases hPHI _ (wpO_some h)
      exact G_iret K hr rfl dX4_steadyPairs_89 (Nat.le_of_ble_eq_true rfl) (Nat.le_of_ble_eq_true rfl) ⟨rfl, rfl⟩
    · have h := wpO_f h hc
      refine G_iconst (v := 0) rfl K dX4_steadyPairs_15 ?_
      refine G_istore_n rfl K dX4_steadyPairs_16 (Nat.le_of_ble_eq_true rfl) rfl ?_
      exact G_lv (lv' := [(0, .ref (g.2.1 68)), (1, .int z.1), (2, .int z.2), (3, .int 0)]) [1, 2, 3, 0] rfl (J17 z.1 z.2 0 h)
  unfold F_Day_steadyPairs at h
  refine G_iconst (v := 0) rfl K dX4_steadyPairs_0 ?_
  refine G_istore_n rfl K dX4_steadyPairs_1 (Nat.le_of_ble_eq_true rfl) rfl ?_
  refine G_iconst (v := 0) rfl K dX4_steadyPairs_2 ?_
  refine G_istore_n rfl K dX4_steadyPairs_3 (Nat.le_of_ble_eq_true rfl) rfl ?_
  exact G_lv (lv' := [(0, .ref (g.2.1 68)), (1, .int 0), (2, .int 0)]) [2, 1, 0] rfl (J4 0 0 h)
theorem wv_1092 : wdV "KeptWell$Day" 96 yX7_setAll cX7_setAll 4 none := ⟨wd_1092, wd_502, wd_503, wd_3, wd_504⟩
theorem wv_1093 : wdV "KeptWell$Day" 100 yX7_add cX7_add 4 none := ⟨wd_1093, wd_1094, wd_1095, wd_3, wd_1096⟩
def on_X4_setWeights : Nat := 0xb16400b6051604151600b42a6400b6201b1600b42a6000b6091600b42a
theorem ob_X4_setWeights : OKB cX4_setWeights on_X4_setWeights 29 := ⟨by decide +kernel, by decide +kernel⟩
theorem dX4_setWeights_0 : dc cX4_setWeights 0 1 (.aload_n 0) 1 := o_42 ob_X4_setWeights rfl rfl rfl
theorem dX4_setWeights_1 : dc cX4_setWeights 1 4 (.getfield 22) 3 := o_180 ob_X4_setWeights rfl rfl rfl rfl
theorem dX4_setWeights_4 : dc cX4_setWeights 4 5 (.lconst 0) 1 := o_9 ob_X4_setWeights rfl rfl rfl
theorem dX4_setWeights_5 : dc cX4_setWeights 5 8 (.invokevirtual 96) 3 := o_182 ob_X4_setWeights rfl rfl rfl rfl
theorem dX4_setWeights_8 : dc cX4_setWeights 8 9 (.aload_n 0) 1 := o_42 ob_X4_setWeights rfl rfl rfl
theorem dX4_setWeights_9 : dc cX4_setWeights 9 12 (.getfield 22) 3 := o_180 ob_X4_setWeights rfl rfl rfl rfl
theorem dX4_setWeights_12 : dc cX4_setWeights 12 13 (.iload_n 1) 1 := o_27 ob_X4_setWeights rfl rfl rfl
theorem dX4_setWeights_13 : dc cX4_setWeights 13 14 (.lload_n 2) 1 := o_32 ob_X4_setWeights rfl rfl rfl
theorem dX4_setWeights_14 : dc cX4_setWeights 14 17 (.invokevirtual 100) 3 := o_182 ob_X4_setWeights rfl rfl rfl rfl
theorem dX4_setWeights_17 : dc cX4_setWeights 17 18 (.aload_n 0) 1 := o_42 ob_X4_setWeights rfl rfl rfl
theorem dX4_setWeights_18 : dc cX4_setWeights 18 21 (.getfield 22) 3 := o_180 ob_X4_setWeights rfl rfl rfl rfl
theorem dX4_setWeights_21 : dc cX4_setWeights 21 23 (.iload 4) 2 := o_21 ob_X4_setWeights rfl rfl rfl rfl
theorem dX4_setWeights_23 : dc cX4_setWeights 23 25 (.lload 5) 2 := o_22 ob_X4_setWeights rfl rfl rfl rfl
theorem dX4_setWeights_25 : dc cX4_setWeights 25 28 (.invokevirtual 100) 3 := o_182 ob_X4_setWeights rfl rfl rfl rfl
theorem dX4_setWeights_28 : dc cX4_setWeights 28 29 .return_ 1 := o_177 ob_X4_setWeights rfl rfl rfl
def F_Day_setWeights (x1 : Int32) (x2 : Int64) (x4 : Int32) (x5 : Int64) (M : Mem) : Option (Mem) :=
  (F_Row_setAll 72 3 0 M).bind fun r1 => (F_Row_add 72 3 x1 x2 r1).bind fun r2 => (F_Row_add 72 3 x4 x5 r2).bind fun r3 => some r3
set_option maxRecDepth 100000 in
set_option maxHeartbeats 4000000 in
theorem K_Day_setWeights (l : Launch) (g : GB) (htr : l.stackTraces = false) (x1 : Int32) (x2 : Int64) (x4 : Int32) (x5 : Int64) (M : Mem) (MZ : Mem) (h : F_Day_setWeights x1 x2 x4 x5 M = some MZ) : CT l g yX4_setWeights (.code yX4_setWeights cX4_setWeights 7 none :: wAll) { frames := 2, cells := 0, slots := 0, locals := 46 } [.ref (g.2.1 68), .int x1, .long x2, .int x4, .long x5] M (.inl none) MZ := by
  refine CT.of [(0, .ref (g.2.1 68)), (1, .int x1), (2, .long x2), (4, .int x4), (5, .long x5)] (by decide +kernel) (Nat.le_of_ble_eq_true rfl) rfl htr ?_
  intro p e s m args below meth c K hr ht
  skip
  obtain ⟨PHI, hPHI, h⟩ : ∃ PHI : Mem → Prop, (∀ a, PHI a → a = MZ) ∧ wpO (F_Day_setWeights x1 x2 x4 x5 M) PHI := ⟨fun a => a = MZ, fun _ h => h, _, h, rfl⟩
  unfold F_Day_setWeights at h
  refine G_aload_n rfl 0 rfl K dX4_setWeights_0 ?_
  refine G_get (ci := 4) (k := 2) K rfl in_X4 wd_284 rfl dX4_setWeights_1 (Nat.le_of_ble_eq_true rfl) (sh_68 _ _) (Nat.le_of_ble_eq_true rfl) rfl ?_
  refine G_lconst (v := 0) rfl K dX4_setWeights_4 ?_
  obtain ⟨r1, e1, h⟩ := wpO_bind h
  refine G_callVv (ci := 7) [.long 0] [] K dX4_setWeights_5 wv_1092 yd_X7_setAll (Nat.le_of_ble_eq_true rfl) (sh_71 _ _) rfl (by decide) (by decide) rfl rfl (Nat.le_of_ble_eq_true rfl) (K_Row_setAll l g htr 71 72 3 isRow_71 0 M _ e1) ?_
  refine G_aload_n rfl 0 rfl K dX4_setWeights_8 ?_
  refine G_get (ci := 4) (k := 2) K rfl in_X4 wd_284 rfl dX4_setWeights_9 (Nat.le_of_ble_eq_true rfl) (sh_68 _ _) (Nat.le_of_ble_eq_true rfl) rfl ?_
  refine G_iload_n rfl 1 rfl K dX4_setWeights_12 ?_
  refine G_lload_n rfl 2 rfl K dX4_setWeights_13 ?_
  obtain ⟨r2, e2, h⟩ := wpO_bind h
  refine G_callVv (ci := 7) [.int x1, .long x2] [] K dX4_setWeights_14 wv_1093 yd_X7_add (Nat.le_of_ble_eq_true rfl) (sh_71 _ _) rfl (by decide) (by decide) rfl rfl (Nat.le_of_ble_eq_true rfl) (K_Row_add l g htr 71 72 3 isRow_71 x1 x2 r1 _ e2) ?_
  refine G_aload_n rfl 0 rfl K dX4_setWeights_17 ?_
  refine G_get (ci := 4) (k := 2) K rfl in_X4 wd_284 rfl dX4_setWeights_18 (Nat.le_of_ble_eq_true rfl) (sh_68 _ _) (Nat.le_of_ble_eq_true rfl) rfl ?_
  refine G_iload 3 rfl K dX4_setWeights_21 ?_
  refine G_lload 4 rfl K dX4_setWeights_23 ?_
  obtain ⟨r3, e3, h⟩ := wpO_bind h
  refine G_callVv (ci := 7) [.int x4, .long x5] [] K dX4_setWeights_25 wv_1093 yd_X7_add (Nat.le_of_ble_eq_true rfl) (sh_71 _ _) rfl (by decide) (by decide) rfl rfl (Nat.le_of_ble_eq_true rfl) (K_Row_add l g htr 71 72 3 isRow_71 x4 x5 r2 _ e3) ?_
  cases hPHI _ (wpO_some h)
  exact G_vret K hr dX4_setWeights_28 (Nat.le_of_ble_eq_true rfl) (Nat.le_of_ble_eq_true rfl) ⟨rfl, rfl⟩
theorem wv_1102 : wdV "KeptWell$Day" 103 yX7_at cX7_at 2 (some .long) := ⟨wd_1102, wd_528, wd_529, wd_3, wd_530⟩
def on_X4_mixBrings : Nat := 0xad20d7ffa70104844161696700b6601b680415060e00b42a6700b604151600b42a202300a23500b42d00b42a04150436034109
theorem ob_X4_mixBrings : OKB cX4_mixBrings on_X4_mixBrings 51 := ⟨by decide +kernel, by decide +kernel⟩
theorem dX4_mixBrings_0 : dc cX4_mixBrings 0 1 (.lconst 0) 1 := o_9 ob_X4_mixBrings rfl rfl rfl
theorem dX4_mixBrings_1 : dc cX4_mixBrings 1 2 (.lstore_n 2) 1 := o_65 ob_X4_mixBrings rfl rfl rfl
theorem dX4_mixBrings_2 : dc cX4_mixBrings 2 3 (.iconst 0) 1 := o_3 ob_X4_mixBrings rfl rfl rfl
theorem dX4_mixBrings_3 : dc cX4_mixBrings 3 5 (.istore 4) 2 := o_54 ob_X4_mixBrings rfl rfl rfl rfl
theorem dX4_mixBrings_5 : dc cX4_mixBrings 5 7 (.iload 4) 2 := o_21 ob_X4_mixBrings rfl rfl rfl rfl
theorem dX4_mixBrings_7 : dc cX4_mixBrings 7 8 (.aload_n 0) 1 := o_42 ob_X4_mixBrings rfl rfl rfl
theorem dX4_mixBrings_8 : dc cX4_mixBrings 8 11 (.getfield 45) 3 := o_180 ob_X4_mixBrings rfl rfl rfl rfl
theorem dX4_mixBrings_11 : dc cX4_mixBrings 11 14 (.getfield 53) 3 := o_180 ob_X4_mixBrings rfl rfl rfl rfl
theorem dX4_mixBrings_14 : dc cX4_mixBrings 14 17 (.if_icmp .ge 35) 3 := o_162 ob_X4_mixBrings rfl rfl rfl rfl
theorem dX4_mixBrings_17 : dc cX4_mixBrings 17 18 (.lload_n 2) 1 := o_32 ob_X4_mixBrings rfl rfl rfl
theorem dX4_mixBrings_18 : dc cX4_mixBrings 18 19 (.aload_n 0) 1 := o_42 ob_X4_mixBrings rfl rfl rfl
theorem dX4_mixBrings_19 : dc cX4_mixBrings 19 22 (.getfield 22) 3 := o_180 ob_X4_mixBrings rfl rfl rfl rfl
theorem dX4_mixBrings_22 : dc cX4_mixBrings 22 24 (.iload 4) 2 := o_21 ob_X4_mixBrings rfl rfl rfl rfl
theorem dX4_mixBrings_24 : dc cX4_mixBrings 24 27 (.invokevirtual 103) 3 := o_182 ob_X4_mixBrings rfl rfl rfl rfl
theorem dX4_mixBrings_27 : dc cX4_mixBrings 27 28 (.aload_n 0) 1 := o_42 ob_X4_mixBrings rfl rfl rfl
theorem dX4_mixBrings_28 : dc cX4_mixBrings 28 31 (.getfield 14) 3 := o_180 ob_X4_mixBrings rfl rfl rfl rfl
theorem dX4_mixBrings_31 : dc cX4_mixBrings 31 32 (.iconst 3) 1 := o_6 ob_X4_mixBrings rfl rfl rfl
theorem dX4_mixBrings_32 : dc cX4_mixBrings 32 34 (.iload 4) 2 := o_21 ob_X4_mixBrings rfl rfl rfl rfl
theorem dX4_mixBrings_34 : dc cX4_mixBrings 34 35 .imul 1 := o_104 ob_X4_mixBrings rfl rfl rfl
theorem dX4_mixBrings_35 : dc cX4_mixBrings 35 36 (.iload_n 1) 1 := o_27 ob_X4_mixBrings rfl rfl rfl
theorem dX4_mixBrings_36 : dc cX4_mixBrings 36 37 .iadd 1 := o_96 ob_X4_mixBrings rfl rfl rfl
theorem dX4_mixBrings_37 : dc cX4_mixBrings 37 40 (.invokevirtual 103) 3 := o_182 ob_X4_mixBrings rfl rfl rfl rfl
theorem dX4_mixBrings_40 : dc cX4_mixBrings 40 41 .lmul 1 := o_105 ob_X4_mixBrings rfl rfl rfl
theorem dX4_mixBrings_41 : dc cX4_mixBrings 41 42 .ladd 1 := o_97 ob_X4_mixBrings rfl rfl rfl
theorem dX4_mixBrings_42 : dc cX4_mixBrings 42 43 (.lstore_n 2) 1 := o_65 ob_X4_mixBrings rfl rfl rfl
theorem dX4_mixBrings_43 : dc cX4_mixBrings 43 46 (.iinc 4 1) 3 := o_132 ob_X4_mixBrings rfl rfl rfl rfl rfl
theorem dX4_mixBrings_46 : dc cX4_mixBrings 46 49 (.goto (-41)) 3 := o_167 ob_X4_mixBrings rfl rfl rfl rfl
theorem dX4_mixBrings_49 : dc cX4_mixBrings 49 50 (.lload_n 2) 1 := o_32 ob_X4_mixBrings rfl rfl rfl
theorem dX4_mixBrings_50 : dc cX4_mixBrings 50 51 .lreturn 1 := o_173 ob_X4_mixBrings rfl rfl rfl
def F_Day_mixBrings_b5 (x1 : Int32) (M : Mem) (z : Int64 × Int32) : Option ((Int64 × Int32) ⊕ ((Int64))) :=
  if (M.1 1 0) ≤ z.2 then some (.inr z.1) else (F_Row_at 72 3 z.2 M).bind fun r1 => (F_Row_at 70 9 ((3 * z.2) + x1) M).bind fun r2 => some (.inl ((z.1 + (r1 * r2), z.2 + 1)))
def F_Day_mixBrings_l5 (x1 : Int32) (x2 : Int64) (x4 : Int32) (M : Mem) : Option (Int64) :=
  (iter (F_Day_mixBrings_b5 x1 M) FUEL (x2, x4)).bind fun r => some r
def F_Day_mixBrings (x1 : Int32) (M : Mem) : Option (Int64) :=
  F_Day_mixBrings_l5 x1 0 0 M
set_option maxRecDepth 100000 in
set_option maxHeartbeats 4000000 in
theorem K_Day_mixBrings (l : Launch) (g : GB) (htr : l.stackTraces = false) (x1 : Int32) (M : Mem) (rr : Int64) (h : F_Day_mixBrings x1 M = some rr) : CT l g yX4_mixBrings (.code yX4_mixBrings cX4_mixBrings 5 (some .long) :: wAll) { frames := 1, cells := 0, slots := 0, locals := 21 } [.ref (g.2.1 68), .int x1] M (.inl (some (.long rr))) M := by
  refine CT.of [(0, .ref (g.2.1 68)), (1, .int x1)] (by decide +kernel) (Nat.le_of_ble_eq_true rfl) rfl htr ?_
  intro p e s m args below meth c K hr ht
  skip
  obtain ⟨PHI, hPHI, h⟩ : ∃ PHI : Int64 → Prop, (∀ a, PHI a → a = rr) ∧ wpO (F_Day_mixBrings x1 M) PHI := ⟨fun a => a = rr, fun _ h => h, _, h, rfl⟩
  have J5 : ∀ (x1 : Int32) (x2 : Int64) (x4 : Int32), wpO (F_Day_mixBrings_l5 x1 x2 x4 M) PHI → GG p l e { frames := 1, cells := 0, slots := 0, locals := 21 } s m args below meth c g 5 (vx_MQ below (Qn g s.heap.size (.inl (some (.long rr))) M) (QX g s.heap.size (.inl (some (.long rr))) M) args s 0 0 (AS g s.heap.size)) 0 0 5 [(0, .ref (g.2.1 68)), (1, .int x1), (2, .long x2), (4, .int x4)] [] M := by
    intro x1 x2 x4 h
    unfold F_Day_mixBrings_l5 at h
    refine loop_C2 (G := fun (x2 : Int64) (x4 : Int32) => GG p l e { frames := 1, cells := 0, slots := 0, locals := 21 } s m args below meth c g 5 (vx_MQ below (Qn g s.heap.size (.inl (some (.long rr))) M) (QX g s.heap.size (.inl (some (.long rr))) M) args s 0 0 (AS g s.heap.size)) 0 0 5 [(0, .ref (g.2.1 68)), (1, .int x1), (2, .long x2), (4, .int x4)] [] M) (body := F_Day_mixBrings_b5 x1 M) ?_ FUEL _ _ (wpO_bind h)
    intro P5 E5 X5
    intro z h
    unfold F_Day_mixBrings_b5 at h
    refine G_iload 3 rfl K dX4_mixBrings_5 ?_
    refine G_aload_n rfl 0 rfl K dX4_mixBrings_7 ?_
    refine G_get (ci := 4) (k := 0) K rfl in_X4 wd_282 rfl dX4_mixBrings_8 (Nat.le_of_ble_eq_true rfl) (sh_68 _ _) (Nat.le_of_ble_eq_true rfl) rfl ?_
    refine G_get (ci := 10) (k := 0) K rfl in_X10 wd_57 rfl dX4_mixBrings_11 (Nat.le_of_ble_eq_true rfl) (sh_1 _ _) (Nat.le_of_ble_eq_true rfl) rfl ?_
    refine G_icmp_ge (tgt := 49) K dX4_mixBrings_14 (by decide) (fun hc => ?_) (fun hc => ?_)
    · have h := wpO_t h hc
      have h := X5 _ (wpO_some h)
      try dsimp only at h
      refine G_lload_n rfl 2 rfl K dX4_mixBrings_49 ?_
      cases hPHI _ (wpO_some h)
      exact G_lret K hr dX4_mixBrings_50 (Nat.le_of_ble_eq_true rfl) (Nat.le_of_ble_eq_true rfl) ⟨rfl, rfl⟩
    · have h := wpO_f h hc
      refine G_lload_n rfl 2 rfl K dX4_mixBrings_17 ?_
      refine G_aload_n rfl 0 rfl K dX4_mixBrings_18 ?_
      refine G_get (ci := 4) (k := 2) K rfl in_X4 wd_284 rfl dX4_mixBrings_19 (Nat.le_of_ble_eq_true rfl) (sh_68 _ _) (Nat.le_of_ble_eq_true rfl) rfl ?_
      refine G_iload 3 rfl K dX4_mixBrings_22 ?_
      obtain ⟨r1, e1, h⟩ := wpO_bind h
      refine G_callVl (ci := 7) [.int z.2] [.long z.1] K dX4_mixBrings_24 wv_1102 yd_X7_at (Nat.le_of_ble_eq_true rfl) (sh_71 _ _) rfl (by decide) (by decide) rfl rfl (Nat.le_of_ble_eq_true rfl) (K_Row_at l g htr 71 72 3 isRow_71 z.2 M _ e1) ?_
      refine G_aload_n rfl 0 rfl K dX4_mixBrings_27 ?_
      refine G_get (ci := 4) (k := 1) K rfl in_X4 wd_283 rfl dX4_mixBrings_28 (Nat.le_of_ble_eq_true rfl) (sh_68 _ _) (Nat.le_of_ble_eq_true rfl) rfl ?_
      refine G_iconst (v := 3) rfl K dX4_mixBrings_31 ?_
      refine G_iload 3 rfl K dX4_mixBrings_32 ?_
      refine G_imul K dX4_mixBrings_34 ?_
      refine G_iload_n rfl 1 rfl K dX4_mixBrings_35 ?_
      refine G_iadd K dX4_mixBrings_36 ?_
      obtain ⟨r2, e2, h⟩ := wpO_bind h
      refine G_callVl (ci := 7) [.int ((3 * z.2) + x1)] [.long r1, .long z.1] K dX4_mixBrings_37 wv_1102 yd_X7_at (Nat.le_of_ble_eq_true rfl) (sh_69 _ _) rfl (by decide) (by decide) rfl rfl (Nat.le_of_ble_eq_true rfl) (K_Row_at l g htr 69 70 9 isRow_69 ((3 * z.2) + x1) M _ e2) ?_
      refine G_lmul K dX4_mixBrings_40 ?_
      refine G_ladd K dX4_mixBrings_41 ?_
      refine G_lstore_n rfl K dX4_mixBrings_42 (Nat.le_of_ble_eq_true rfl) rfl ?_
      refine G_iinc (v := z.2 + 1) 3 rfl K dX4_mixBrings_43 rfl (Nat.le_of_ble_eq_true rfl) rfl ?_
      refine G_goto (tgt := 5) K dX4_mixBrings_46 (by decide) ?_
      exact G_lv (lv' := [(0, .ref (g.2.1 68)), (1, .int x1), (2, .long (z.1 + (r1 * r2))), (4, .int (z.2 + 1))]) [2, 3, 1, 0] rfl (E5 (z.1 + (r1 * r2)) (z.2 + 1) (wpO_some h))
  unfold F_Day_mixBrings at h
  refine G_lconst (v := 0) rfl K dX4_mixBrings_0 ?_
  refine G_lstore_n rfl K dX4_mixBrings_1 (Nat.le_of_ble_eq_true rfl) rfl ?_
  refine G_iconst (v := 0) rfl K dX4_mixBrings_2 ?_
  refine G_istore K dX4_mixBrings_3 (Nat.le_of_ble_eq_true rfl) rfl ?_
  exact G_lv (lv' := [(0, .ref (g.2.1 68)), (1, .int x1), (2, .long 0), (4, .int 0)]) [2, 3, 1, 0] rfl (J5 x1 0 0 h)
def on_J9_min_f86c9 : Nat := 0xad200400a71e07009d94201e
theorem ob_J9_min_f86c9 : OKB cJ9_min_f86c9 on_J9_min_f86c9 12 := ⟨by decide +kernel, by decide +kernel⟩
theorem dJ9_min_f86c9_0 : dc cJ9_min_f86c9 0 1 (.lload_n 0) 1 := o_30 ob_J9_min_f86c9 rfl rfl rfl
theorem dJ9_min_f86c9_1 : dc cJ9_min_f86c9 1 2 (.lload_n 2) 1 := o_32 ob_J9_min_f86c9 rfl rfl rfl
theorem dJ9_min_f86c9_2 : dc cJ9_min_f86c9 2 3 .lcmp 1 := o_148 ob_J9_min_f86c9 rfl rfl rfl
theorem dJ9_min_f86c9_3 : dc cJ9_min_f86c9 3 6 (.ifCond .gt 7) 3 := o_157 ob_J9_min_f86c9 rfl rfl rfl rfl
theorem dJ9_min_f86c9_6 : dc cJ9_min_f86c9 6 7 (.lload_n 0) 1 := o_30 ob_J9_min_f86c9 rfl rfl rfl
theorem dJ9_min_f86c9_7 : dc cJ9_min_f86c9 7 10 (.goto 4) 3 := o_167 ob_J9_min_f86c9 rfl rfl rfl rfl
theorem dJ9_min_f86c9_10 : dc cJ9_min_f86c9 10 11 (.lload_n 2) 1 := o_32 ob_J9_min_f86c9 rfl rfl rfl
theorem dJ9_min_f86c9_11 : dc cJ9_min_f86c9 11 12 .lreturn 1 := o_173 ob_J9_min_f86c9 rfl rfl rfl
def F_Math_min_JJJ (x0 : Int64) (x2 : Int64) (M : Mem) : Option (Int64) :=
  if x2 < x0 then some x2 else some x0
set_option maxRecDepth 100000 in
set_option maxHeartbeats 4000000 in
theorem K_Math_min_JJJ (l : Launch) (g : GB) (htr : l.stackTraces = false) (x0 : Int64) (x2 : Int64) (M : Mem) (rr : Int64) (h : F_Math_min_JJJ x0 x2 M = some rr) : CT l g yJ9_min_f86c9 (.code yJ9_min_f86c9 cJ9_min_f86c9 4 (some .long) :: wAll) { frames := 0, cells := 0, slots := 0, locals := 0 } [.long x0, .long x2] M (.inl (some (.long rr))) M := by
  refine CT.of [(0, .long x0), (2, .long x2)] pf_J9_min_f86c9 (Nat.le_of_ble_eq_true rfl) rfl htr ?_
  intro p e s m args below meth c K hr ht
  skip
  obtain ⟨PHI, hPHI, h⟩ : ∃ PHI : Int64 → Prop, (∀ a, PHI a → a = rr) ∧ wpO (F_Math_min_JJJ x0 x2 M) PHI := ⟨fun a => a = rr, fun _ h => h, _, h, rfl⟩
  unfold F_Math_min_JJJ at h
  refine G_lload_n rfl 0 rfl K dJ9_min_f86c9_0 ?_
  refine G_lload_n rfl 1 rfl K dJ9_min_f86c9_1 ?_
  refine G_lcmp_gt (tgt := 10) K dJ9_min_f86c9_2 dJ9_min_f86c9_3 (by decide) (fun hc => ?_) (fun hc => ?_)
  · have h := wpO_t h hc
    refine G_lload_n rfl 1 rfl K dJ9_min_f86c9_10 ?_
    cases hPHI _ (wpO_some h)
    exact G_lret K hr dJ9_min_f86c9_11 (Nat.le_of_ble_eq_true rfl) (Nat.le_of_ble_eq_true rfl) ⟨rfl, rfl⟩
  · have h := wpO_f h hc
    refine G_lload_n rfl 0 rfl K dJ9_min_f86c9_6 ?_
    refine G_goto (tgt := 11) K dJ9_min_f86c9_7 (by decide) ?_
    cases hPHI _ (wpO_some h)
    exact G_lret K hr dJ9_min_f86c9_11 (Nat.le_of_ble_eq_true rfl) (Nat.le_of_ble_eq_true rfl) ⟨rfl, rfl⟩
theorem yd_J9_min_f86c9 : ydN yJ9_min_f86c9 2 := ⟨by decide, by decide, by decide +kernel⟩
theorem yd_X4_mixBrings : ydN yX4_mixBrings 1 := ⟨by decide, by decide, by decide +kernel⟩
theorem wv_1103 : wdV "KeptWell$Day" 107 yX4_mixBrings cX4_mixBrings 5 (some .long) := ⟨wd_1103, wd_1105, ws_X4_mixBrings, wd_9, wd_1106⟩
theorem wv_1107 : wdS "KeptWell$Day" 110 yJ9_min_f86c9 cJ9_min_f86c9 4 (some .long) := ⟨wd_1107, wd_1108, wd_4, wd_1109⟩
def on_X4_tryMix : Nat := 0xb11d00b504162a1900b506162a0f009e946904161900b42a691d00b42a061615009994091d00b42ae1ffa701088406376e00b8696b00b608152a851d06161900a23500b42d00b42a08150836040637696b00b6032a851d0437691f851db104009c9409696700b6051600b42a851d13009b9409696700b6041600b42a851d23009b9409696700b6031600b42a851d33009994091f3e040400a70207009c94091f40616700b6051600b42a616700b6041600b42a6700b6031600b42a
theorem ob_X4_tryMix : OKB cX4_tryMix on_X4_tryMix 187 := ⟨by decide +kernel, by decide +kernel⟩
theorem dX4_tryMix_0 : dc cX4_tryMix 0 1 (.aload_n 0) 1 := o_42 ob_X4_tryMix rfl rfl rfl
theorem dX4_tryMix_1 : dc cX4_tryMix 1 4 (.getfield 22) 3 := o_180 ob_X4_tryMix rfl rfl rfl rfl
theorem dX4_tryMix_4 : dc cX4_tryMix 4 5 (.iconst 0) 1 := o_3 ob_X4_tryMix rfl rfl rfl
theorem dX4_tryMix_5 : dc cX4_tryMix 5 8 (.invokevirtual 103) 3 := o_182 ob_X4_tryMix rfl rfl rfl rfl
theorem dX4_tryMix_8 : dc cX4_tryMix 8 9 (.aload_n 0) 1 := o_42 ob_X4_tryMix rfl rfl rfl
theorem dX4_tryMix_9 : dc cX4_tryMix 9 12 (.getfield 22) 3 := o_180 ob_X4_tryMix rfl rfl rfl rfl
theorem dX4_tryMix_12 : dc cX4_tryMix 12 13 (.iconst 1) 1 := o_4 ob_X4_tryMix rfl rfl rfl
theorem dX4_tryMix_13 : dc cX4_tryMix 13 16 (.invokevirtual 103) 3 := o_182 ob_X4_tryMix rfl rfl rfl rfl
theorem dX4_tryMix_16 : dc cX4_tryMix 16 17 .ladd 1 := o_97 ob_X4_tryMix rfl rfl rfl
theorem dX4_tryMix_17 : dc cX4_tryMix 17 18 (.aload_n 0) 1 := o_42 ob_X4_tryMix rfl rfl rfl
theorem dX4_tryMix_18 : dc cX4_tryMix 18 21 (.getfield 22) 3 := o_180 ob_X4_tryMix rfl rfl rfl rfl
theorem dX4_tryMix_21 : dc cX4_tryMix 21 22 (.iconst 2) 1 := o_5 ob_X4_tryMix rfl rfl rfl
theorem dX4_tryMix_22 : dc cX4_tryMix 22 25 (.invokevirtual 103) 3 := o_182 ob_X4_tryMix rfl rfl rfl rfl
theorem dX4_tryMix_25 : dc cX4_tryMix 25 26 .ladd 1 := o_97 ob_X4_tryMix rfl rfl rfl
theorem dX4_tryMix_26 : dc cX4_tryMix 26 27 (.lstore_n 1) 1 := o_64 ob_X4_tryMix rfl rfl rfl
theorem dX4_tryMix_27 : dc cX4_tryMix 27 28 (.lload_n 1) 1 := o_31 ob_X4_tryMix rfl rfl rfl
theorem dX4_tryMix_28 : dc cX4_tryMix 28 29 (.lconst 0) 1 := o_9 ob_X4_tryMix rfl rfl rfl
theorem dX4_tryMix_29 : dc cX4_tryMix 29 30 .lcmp 1 := o_148 ob_X4_tryMix rfl rfl rfl
theorem dX4_tryMix_30 : dc cX4_tryMix 30 33 (.ifCond .ge 7) 3 := o_156 ob_X4_tryMix rfl rfl rfl rfl
theorem dX4_tryMix_33 : dc cX4_tryMix 33 34 (.iconst (-1)) 1 := o_2 ob_X4_tryMix rfl rfl rfl
theorem dX4_tryMix_34 : dc cX4_tryMix 34 37 (.goto 4) 3 := o_167 ob_X4_tryMix rfl rfl rfl rfl
theorem dX4_tryMix_37 : dc cX4_tryMix 37 38 (.iconst 1) 1 := o_4 ob_X4_tryMix rfl rfl rfl
theorem dX4_tryMix_38 : dc cX4_tryMix 38 39 (.istore_n 3) 1 := o_62 ob_X4_tryMix rfl rfl rfl
theorem dX4_tryMix_39 : dc cX4_tryMix 39 40 (.lload_n 1) 1 := o_31 ob_X4_tryMix rfl rfl rfl
theorem dX4_tryMix_40 : dc cX4_tryMix 40 41 (.lconst 0) 1 := o_9 ob_X4_tryMix rfl rfl rfl
theorem dX4_tryMix_41 : dc cX4_tryMix 41 42 .lcmp 1 := o_148 ob_X4_tryMix rfl rfl rfl
theorem dX4_tryMix_42 : dc cX4_tryMix 42 45 (.ifCond .eq 51) 3 := o_153 ob_X4_tryMix rfl rfl rfl rfl
theorem dX4_tryMix_45 : dc cX4_tryMix 45 46 (.iload_n 3) 1 := o_29 ob_X4_tryMix rfl rfl rfl
theorem dX4_tryMix_46 : dc cX4_tryMix 46 47 .i2l 1 := o_133 ob_X4_tryMix rfl rfl rfl
theorem dX4_tryMix_47 : dc cX4_tryMix 47 48 (.aload_n 0) 1 := o_42 ob_X4_tryMix rfl rfl rfl
theorem dX4_tryMix_48 : dc cX4_tryMix 48 51 (.getfield 22) 3 := o_180 ob_X4_tryMix rfl rfl rfl rfl
theorem dX4_tryMix_51 : dc cX4_tryMix 51 52 (.iconst 0) 1 := o_3 ob_X4_tryMix rfl rfl rfl
theorem dX4_tryMix_52 : dc cX4_tryMix 52 55 (.invokevirtual 103) 3 := o_182 ob_X4_tryMix rfl rfl rfl rfl
theorem dX4_tryMix_55 : dc cX4_tryMix 55 56 .lmul 1 := o_105 ob_X4_tryMix rfl rfl rfl
theorem dX4_tryMix_56 : dc cX4_tryMix 56 57 (.lconst 0) 1 := o_9 ob_X4_tryMix rfl rfl rfl
theorem dX4_tryMix_57 : dc cX4_tryMix 57 58 .lcmp 1 := o_148 ob_X4_tryMix rfl rfl rfl
theorem dX4_tryMix_58 : dc cX4_tryMix 58 61 (.ifCond .lt 35) 3 := o_155 ob_X4_tryMix rfl rfl rfl rfl
theorem dX4_tryMix_61 : dc cX4_tryMix 61 62 (.iload_n 3) 1 := o_29 ob_X4_tryMix rfl rfl rfl
theorem dX4_tryMix_62 : dc cX4_tryMix 62 63 .i2l 1 := o_133 ob_X4_tryMix rfl rfl rfl
theorem dX4_tryMix_63 : dc cX4_tryMix 63 64 (.aload_n 0) 1 := o_42 ob_X4_tryMix rfl rfl rfl
theorem dX4_tryMix_64 : dc cX4_tryMix 64 67 (.getfield 22) 3 := o_180 ob_X4_tryMix rfl rfl rfl rfl
theorem dX4_tryMix_67 : dc cX4_tryMix 67 68 (.iconst 1) 1 := o_4 ob_X4_tryMix rfl rfl rfl
theorem dX4_tryMix_68 : dc cX4_tryMix 68 71 (.invokevirtual 103) 3 := o_182 ob_X4_tryMix rfl rfl rfl rfl
theorem dX4_tryMix_71 : dc cX4_tryMix 71 72 .lmul 1 := o_105 ob_X4_tryMix rfl rfl rfl
theorem dX4_tryMix_72 : dc cX4_tryMix 72 73 (.lconst 0) 1 := o_9 ob_X4_tryMix rfl rfl rfl
theorem dX4_tryMix_73 : dc cX4_tryMix 73 74 .lcmp 1 := o_148 ob_X4_tryMix rfl rfl rfl
theorem dX4_tryMix_74 : dc cX4_tryMix 74 77 (.ifCond .lt 19) 3 := o_155 ob_X4_tryMix rfl rfl rfl rfl
theorem dX4_tryMix_77 : dc cX4_tryMix 77 78 (.iload_n 3) 1 := o_29 ob_X4_tryMix rfl rfl rfl
theorem dX4_tryMix_78 : dc cX4_tryMix 78 79 .i2l 1 := o_133 ob_X4_tryMix rfl rfl rfl
theorem dX4_tryMix_79 : dc cX4_tryMix 79 80 (.aload_n 0) 1 := o_42 ob_X4_tryMix rfl rfl rfl
theorem dX4_tryMix_80 : dc cX4_tryMix 80 83 (.getfield 22) 3 := o_180 ob_X4_tryMix rfl rfl rfl rfl
theorem dX4_tryMix_83 : dc cX4_tryMix 83 84 (.iconst 2) 1 := o_5 ob_X4_tryMix rfl rfl rfl
theorem dX4_tryMix_84 : dc cX4_tryMix 84 87 (.invokevirtual 103) 3 := o_182 ob_X4_tryMix rfl rfl rfl rfl
theorem dX4_tryMix_87 : dc cX4_tryMix 87 88 .lmul 1 := o_105 ob_X4_tryMix rfl rfl rfl
theorem dX4_tryMix_88 : dc cX4_tryMix 88 89 (.lconst 0) 1 := o_9 ob_X4_tryMix rfl rfl rfl
theorem dX4_tryMix_89 : dc cX4_tryMix 89 90 .lcmp 1 := o_148 ob_X4_tryMix rfl rfl rfl
theorem dX4_tryMix_90 : dc cX4_tryMix 90 93 (.ifCond .ge 4) 3 := o_156 ob_X4_tryMix rfl rfl rfl rfl
theorem dX4_tryMix_93 : dc cX4_tryMix 93 94 .return_ 1 := o_177 ob_X4_tryMix rfl rfl rfl
theorem dX4_tryMix_94 : dc cX4_tryMix 94 95 (.iload_n 3) 1 := o_29 ob_X4_tryMix rfl rfl rfl
theorem dX4_tryMix_95 : dc cX4_tryMix 95 96 .i2l 1 := o_133 ob_X4_tryMix rfl rfl rfl
theorem dX4_tryMix_96 : dc cX4_tryMix 96 97 (.lload_n 1) 1 := o_31 ob_X4_tryMix rfl rfl rfl
theorem dX4_tryMix_97 : dc cX4_tryMix 97 98 .lmul 1 := o_105 ob_X4_tryMix rfl rfl rfl
theorem dX4_tryMix_98 : dc cX4_tryMix 98 100 (.lstore 4) 2 := o_55 ob_X4_tryMix rfl rfl rfl rfl
theorem dX4_tryMix_100 : dc cX4_tryMix 100 101 (.iload_n 3) 1 := o_29 ob_X4_tryMix rfl rfl rfl
theorem dX4_tryMix_101 : dc cX4_tryMix 101 102 .i2l 1 := o_133 ob_X4_tryMix rfl rfl rfl
theorem dX4_tryMix_102 : dc cX4_tryMix 102 103 (.aload_n 0) 1 := o_42 ob_X4_tryMix rfl rfl rfl
theorem dX4_tryMix_103 : dc cX4_tryMix 103 104 (.iconst 0) 1 := o_3 ob_X4_tryMix rfl rfl rfl
theorem dX4_tryMix_104 : dc cX4_tryMix 104 107 (.invokevirtual 107) 3 := o_182 ob_X4_tryMix rfl rfl rfl rfl
theorem dX4_tryMix_107 : dc cX4_tryMix 107 108 .lmul 1 := o_105 ob_X4_tryMix rfl rfl rfl
theorem dX4_tryMix_108 : dc cX4_tryMix 108 110 (.lstore 6) 2 := o_55 ob_X4_tryMix rfl rfl rfl rfl
theorem dX4_tryMix_110 : dc cX4_tryMix 110 111 (.iconst 1) 1 := o_4 ob_X4_tryMix rfl rfl rfl
theorem dX4_tryMix_111 : dc cX4_tryMix 111 113 (.istore 8) 2 := o_54 ob_X4_tryMix rfl rfl rfl rfl
theorem dX4_tryMix_113 : dc cX4_tryMix 113 115 (.iload 8) 2 := o_21 ob_X4_tryMix rfl rfl rfl rfl
theorem dX4_tryMix_115 : dc cX4_tryMix 115 116 (.aload_n 0) 1 := o_42 ob_X4_tryMix rfl rfl rfl
theorem dX4_tryMix_116 : dc cX4_tryMix 116 119 (.getfield 45) 3 := o_180 ob_X4_tryMix rfl rfl rfl rfl
theorem dX4_tryMix_119 : dc cX4_tryMix 119 122 (.getfield 53) 3 := o_180 ob_X4_tryMix rfl rfl rfl rfl
theorem dX4_tryMix_122 : dc cX4_tryMix 122 125 (.if_icmp .ge 25) 3 := o_162 ob_X4_tryMix rfl rfl rfl rfl
theorem dX4_tryMix_125 : dc cX4_tryMix 125 127 (.lload 6) 2 := o_22 ob_X4_tryMix rfl rfl rfl rfl
theorem dX4_tryMix_127 : dc cX4_tryMix 127 128 (.iload_n 3) 1 := o_29 ob_X4_tryMix rfl rfl rfl
theorem dX4_tryMix_128 : dc cX4_tryMix 128 129 .i2l 1 := o_133 ob_X4_tryMix rfl rfl rfl
theorem dX4_tryMix_129 : dc cX4_tryMix 129 130 (.aload_n 0) 1 := o_42 ob_X4_tryMix rfl rfl rfl
theorem dX4_tryMix_130 : dc cX4_tryMix 130 132 (.iload 8) 2 := o_21 ob_X4_tryMix rfl rfl rfl rfl
theorem dX4_tryMix_132 : dc cX4_tryMix 132 135 (.invokevirtual 107) 3 := o_182 ob_X4_tryMix rfl rfl rfl rfl
theorem dX4_tryMix_135 : dc cX4_tryMix 135 136 .lmul 1 := o_105 ob_X4_tryMix rfl rfl rfl
theorem dX4_tryMix_136 : dc cX4_tryMix 136 139 (.invokestatic 110) 3 := o_184 ob_X4_tryMix rfl rfl rfl rfl
theorem dX4_tryMix_139 : dc cX4_tryMix 139 141 (.lstore 6) 2 := o_55 ob_X4_tryMix rfl rfl rfl rfl
theorem dX4_tryMix_141 : dc cX4_tryMix 141 144 (.iinc 8 1) 3 := o_132 ob_X4_tryMix rfl rfl rfl rfl rfl
theorem dX4_tryMix_144 : dc cX4_tryMix 144 147 (.goto (-31)) 3 := o_167 ob_X4_tryMix rfl rfl rfl rfl
theorem dX4_tryMix_147 : dc cX4_tryMix 147 148 (.aload_n 0) 1 := o_42 ob_X4_tryMix rfl rfl rfl
theorem dX4_tryMix_148 : dc cX4_tryMix 148 151 (.getfield 29) 3 := o_180 ob_X4_tryMix rfl rfl rfl rfl
theorem dX4_tryMix_151 : dc cX4_tryMix 151 152 (.lconst 0) 1 := o_9 ob_X4_tryMix rfl rfl rfl
theorem dX4_tryMix_152 : dc cX4_tryMix 152 153 .lcmp 1 := o_148 ob_X4_tryMix rfl rfl rfl
theorem dX4_tryMix_153 : dc cX4_tryMix 153 156 (.ifCond .eq 21) 3 := o_153 ob_X4_tryMix rfl rfl rfl rfl
theorem dX4_tryMix_156 : dc cX4_tryMix 156 158 (.lload 6) 2 := o_22 ob_X4_tryMix rfl rfl rfl rfl
theorem dX4_tryMix_158 : dc cX4_tryMix 158 159 (.aload_n 0) 1 := o_42 ob_X4_tryMix rfl rfl rfl
theorem dX4_tryMix_159 : dc cX4_tryMix 159 162 (.getfield 29) 3 := o_180 ob_X4_tryMix rfl rfl rfl rfl
theorem dX4_tryMix_162 : dc cX4_tryMix 162 163 .lmul 1 := o_105 ob_X4_tryMix rfl rfl rfl
theorem dX4_tryMix_163 : dc cX4_tryMix 163 164 (.aload_n 0) 1 := o_42 ob_X4_tryMix rfl rfl rfl
theorem dX4_tryMix_164 : dc cX4_tryMix 164 167 (.getfield 25) 3 := o_180 ob_X4_tryMix rfl rfl rfl rfl
theorem dX4_tryMix_167 : dc cX4_tryMix 167 169 (.lload 4) 2 := o_22 ob_X4_tryMix rfl rfl rfl rfl
theorem dX4_tryMix_169 : dc cX4_tryMix 169 170 .lmul 1 := o_105 ob_X4_tryMix rfl rfl rfl
theorem dX4_tryMix_170 : dc cX4_tryMix 170 171 .lcmp 1 := o_148 ob_X4_tryMix rfl rfl rfl
theorem dX4_tryMix_171 : dc cX4_tryMix 171 174 (.ifCond .le 15) 3 := o_158 ob_X4_tryMix rfl rfl rfl rfl
theorem dX4_tryMix_174 : dc cX4_tryMix 174 175 (.aload_n 0) 1 := o_42 ob_X4_tryMix rfl rfl rfl
theorem dX4_tryMix_175 : dc cX4_tryMix 175 177 (.lload 6) 2 := o_22 ob_X4_tryMix rfl rfl rfl rfl
theorem dX4_tryMix_177 : dc cX4_tryMix 177 180 (.putfield 25) 3 := o_181 ob_X4_tryMix rfl rfl rfl rfl
theorem dX4_tryMix_180 : dc cX4_tryMix 180 181 (.aload_n 0) 1 := o_42 ob_X4_tryMix rfl rfl rfl
theorem dX4_tryMix_181 : dc cX4_tryMix 181 183 (.lload 4) 2 := o_22 ob_X4_tryMix rfl rfl rfl rfl
theorem dX4_tryMix_183 : dc cX4_tryMix 183 186 (.putfield 29) 3 := o_181 ob_X4_tryMix rfl rfl rfl rfl
theorem dX4_tryMix_186 : dc cX4_tryMix 186 187 .return_ 1 := o_177 ob_X4_tryMix rfl rfl rfl
def F_Day_tryMix_j147 (x4 : Int64) (x6 : Int64) (M : Mem) : Option (Mem) :=
  if (M.2 68 4) = 0 then some (mSL (mSL M 68 3 x6) 68 4 x4) else if (x6 * (M.2 68 4)) ≤ ((M.2 68 3) * x4) then some M else some (mSL (mSL M 68 3 x6) 68 4 x4)
def F_Day_tryMix_b113 (x3 : Int32) (x4 : Int64) (M : Mem) (z : Int64 × Int32) : Option ((Int64 × Int32) ⊕ ((Int64))) :=
  if (M.1 1 0) ≤ z.2 then some (.inr z.1) else (F_Day_mixBrings z.2 M).bind fun r8 => (F_Math_min_JJJ z.1 (x3.toInt64 * r8) M).bind fun r9 => some (.inl ((r9, z.2 + 1)))
def F_Day_tryMix_l113 (x3 : Int32) (x4 : Int64) (x6 : Int64) (x8 : Int32) (M : Mem) : Option (Mem) :=
  (iter (F_Day_tryMix_b113 x3 x4 M) FUEL (x6, x8)).bind fun r => F_Day_tryMix_j147 x4 r M
def F_Day_tryMix_j38 (x1 : Int64) (s0 : Int32) (M : Mem) : Option (Mem) :=
  if x1 = 0 then some M else (F_Row_at 72 3 0 M).bind fun r4 => if (s0.toInt64 * r4) < 0 then some M else (F_Row_at 72 3 1 M).bind fun r5 => if (s0.toInt64 * r5) < 0 then some M else (F_Row_at 72 3 2 M).bind fun r6 => if 0 ≤ (s0.toInt64 * r6) then (F_Day_mixBrings 0 M).bind fun r7 => F_Day_tryMix_l113 s0 (s0.toInt64 * x1) (s0.toInt64 * r7) 1 M else some M
def F_Day_tryMix (M : Mem) : Option (Mem) :=
  (F_Row_at 72 3 0 M).bind fun r1 => (F_Row_at 72 3 1 M).bind fun r2 => (F_Row_at 72 3 2 M).bind fun r3 => if 0 ≤ ((r1 + r2) + r3) then F_Day_tryMix_j38 ((r1 + r2) + r3) 1 M else F_Day_tryMix_j38 ((r1 + r2) + r3) ((-1)) M
set_option maxRecDepth 100000 in
set_option maxHeartbeats 4000000 in
theorem K_Day_tryMix (l : Launch) (g : GB) (htr : l.stackTraces = false) (M : Mem) (MZ : Mem) (h : F_Day_tryMix M = some MZ) : CT l g yX4_tryMix (.code yX4_tryMix cX4_tryMix 9 none :: wAll) { frames := 2, cells := 0, slots := 0, locals := 45 } [.ref (g.2.1 68)] M (.inl none) MZ := by
  refine CT.of [(0, .ref (g.2.1 68))] (by decide +kernel) (Nat.le_of_ble_eq_true rfl) rfl htr ?_
  intro p e s m args below meth c K hr ht
  skip
  obtain ⟨PHI, hPHI, h⟩ : ∃ PHI : Mem → Prop, (∀ a, PHI a → a = MZ) ∧ wpO (F_Day_tryMix M) PHI := ⟨fun a => a = MZ, fun _ h => h, _, h, rfl⟩
  have J147 : ∀ (x4 : Int64) (x6 : Int64) (M : Mem), wpO (F_Day_tryMix_j147 x4 x6 M) PHI → GG p l e { frames := 2, cells := 0, slots := 0, locals := 45 } s m args below meth c g 9 (vx_MQ below (Qn g s.heap.size (.inl none) MZ) (QX g s.heap.size (.inl none) MZ) args s 0 0 (AS g s.heap.size)) 0 0 147 [(0, .ref (g.2.1 68)), (4, .long x4), (6, .long x6)] [] M := by
    intro x4 x6 M h
    unfold F_Day_tryMix_j147 at h
    refine G_aload_n rfl 0 rfl K dX4_tryMix_147 ?_
    refine G_get (ci := 4) (k := 4) K rfl in_X4 wd_286 rfl dX4_tryMix_148 (Nat.le_of_ble_eq_true rfl) (sh_68 _ _) (Nat.le_of_ble_eq_true rfl) rfl ?_
    refine G_lconst (v := 0) rfl K dX4_tryMix_151 ?_
    refine G_lcmp_eq (tgt := 174) K dX4_tryMix_152 dX4_tryMix_153 (by decide) (fun hc => ?_) (fun hc => ?_)
    · have h := wpO_t h hc
      refine G_aload_n rfl 0 rfl K dX4_tryMix_174 ?_
      refine G_lload 2 rfl K dX4_tryMix_175 ?_
      refine G_putL (ci := 4) (k := 3) (ty := .long) K rfl in_X4 tyX4 tyX4_ok nmX4 wd_285 rfl rfl rfl rfl rfl dX4_tryMix_177 (Nat.le_of_ble_eq_true rfl) (sh_68 _ _) (sh_68 _ _) (Nat.le_of_ble_eq_true rfl) (Nat.le_of_ble_eq_true rfl) rfl ?_
      refine G_aload_n rfl 0 rfl K dX4_tryMix_180 ?_
      refine G_lload 1 rfl K dX4_tryMix_181 ?_
      refine G_putL (ci := 4) (k := 4) (ty := .long) K rfl in_X4 tyX4 tyX4_ok nmX4 wd_286 rfl rfl rfl rfl rfl dX4_tryMix_183 (Nat.le_of_ble_eq_true rfl) (sh_68 _ _) (sh_68 _ _) (Nat.le_of_ble_eq_true rfl) (Nat.le_of_ble_eq_true rfl) rfl ?_
      cases hPHI _ (wpO_some h)
      exact G_vret K hr dX4_tryMix_186 (Nat.le_of_ble_eq_true rfl) (Nat.le_of_ble_eq_true rfl) ⟨rfl, rfl⟩
    · have h := wpO_f h hc
      refine G_lload 2 rfl K dX4_tryMix_156 ?_
      refine G_aload_n rfl 0 rfl K dX4_tryMix_158 ?_
      refine G_get (ci := 4) (k := 4) K rfl in_X4 wd_286 rfl dX4_tryMix_159 (Nat.le_of_ble_eq_true rfl) (sh_68 _ _) (Nat.le_of_ble_eq_true rfl) rfl ?_
      refine G_lmul K dX4_tryMix_162 ?_
      refine G_aload_n rfl 0 rfl K dX4_tryMix_163 ?_
      refine G_get (ci := 4) (k := 3) K rfl in_X4 wd_285 rfl dX4_tryMix_164 (Nat.le_of_ble_eq_true rfl) (sh_68 _ _) (Nat.le_of_ble_eq_true rfl) rfl ?_
      refine G_lload 1 rfl K dX4_tryMix_167 ?_
      refine G_lmul K dX4_tryMix_169 ?_
      refine G_lcmp_le (tgt := 186) K dX4_tryMix_170 dX4_tryMix_171 (by decide) (fun hc => ?_) (fun hc => ?_)
      · have h := wpO_t h hc
        cases hPHI _ (wpO_some h)
        exact G_vret K hr dX4_tryMix_186 (Nat.le_of_ble_eq_true rfl) (Nat.le_of_ble_eq_true rfl) ⟨rfl, rfl⟩
      · have h := wpO_f h hc
        refine G_aload_n rfl 0 rfl K dX4_tryMix_174 ?_
        refine G_lload 2 rfl K dX4_tryMix_175 ?_
        refine G_putL (ci := 4) (k := 3) (ty := .long) K rfl in_X4 tyX4 tyX4_ok nmX4 wd_285 rfl rfl rfl rfl rfl dX4_tryMix_177 (Nat.le_of_ble_eq_true rfl) (sh_68 _ _) (sh_68 _ _) (Nat.le_of_ble_eq_true rfl) (Nat.le_of_ble_eq_true rfl) rfl ?_
        refine G_aload_n rfl 0 rfl K dX4_tryMix_180 ?_
        refine G_lload 1 rfl K dX4_tryMix_181 ?_
        refine G_putL (ci := 4) (k := 4) (ty := .long) K rfl in_X4 tyX4 tyX4_ok nmX4 wd_286 rfl rfl rfl rfl rfl dX4_tryMix_183 (Nat.le_of_ble_eq_true rfl) (sh_68 _ _) (sh_68 _ _) (Nat.le_of_ble_eq_true rfl) (Nat.le_of_ble_eq_true rfl) rfl ?_
        cases hPHI _ (wpO_some h)
        exact G_vret K hr dX4_tryMix_186 (Nat.le_of_ble_eq_true rfl) (Nat.le_of_ble_eq_true rfl) ⟨rfl, rfl⟩
  have J113 : ∀ (x3 : Int32) (x4 : Int64) (x6 : Int64) (x8 : Int32) (M : Mem), wpO (F_Day_tryMix_l113 x3 x4 x6 x8 M) PHI → GG p l e { frames := 2, cells := 0, slots := 0, locals := 45 } s m args below meth c g 9 (vx_MQ below (Qn g s.heap.size (.inl none) MZ) (QX g s.heap.size (.inl none) MZ) args s 0 0 (AS g s.heap.size)) 0 0 113 [(0, .ref (g.2.1 68)), (3, .int x3), (4, .long x4), (6, .long x6), (8, .int x8)] [] M := by
    intro x3 x4 x6 x8 M h
    unfold F_Day_tryMix_l113 at h
    refine loop_C2 (G := fun (x6 : Int64) (x8 : Int32) => GG p l e { frames := 2, cells := 0, slots := 0, locals := 45 } s m args below meth c g 9 (vx_MQ below (Qn g s.heap.size (.inl none) MZ) (QX g s.heap.size (.inl none) MZ) args s 0 0 (AS g s.heap.size)) 0 0 113 [(0, .ref (g.2.1 68)), (3, .int x3), (4, .long x4), (6, .long x6), (8, .int x8)] [] M) (body := F_Day_tryMix_b113 x3 x4 M) ?_ FUEL _ _ (wpO_bind h)
    intro P113 E113 X113
    intro z h
    unfold F_Day_tryMix_b113 at h
    refine G_iload 4 rfl K dX4_tryMix_113 ?_
    refine G_aload_n rfl 0 rfl K dX4_tryMix_115 ?_
    refine G_get (ci := 4) (k := 0) K rfl in_X4 wd_282 rfl dX4_tryMix_116 (Nat.le_of_ble_eq_true rfl) (sh_68 _ _) (Nat.le_of_ble_eq_true rfl) rfl ?_
    refine G_get (ci := 10) (k := 0) K rfl in_X10 wd_57 rfl dX4_tryMix_119 (Nat.le_of_ble_eq_true rfl) (sh_1 _ _) (Nat.le_of_ble_eq_true rfl) rfl ?_
    refine G_icmp_ge (tgt := 147) K dX4_tryMix_122 (by decide) (fun hc => ?_) (fun hc => ?_)
    · have h := wpO_t h hc
      have h := X113 _ (wpO_some h)
      try dsimp only at h
      exact G_lv (lv' := [(0, .ref (g.2.1 68)), (4, .long x4), (6, .long z.1)]) [0, 2, 3] rfl (J147 x4 z.1 M h)
    · have h := wpO_f h hc
      refine G_lload 3 rfl K dX4_tryMix_125 ?_
      refine G_iload_n rfl 1 rfl K dX4_tryMix_127 ?_
      refine G_i2l K dX4_tryMix_128 ?_
      refine G_aload_n rfl 0 rfl K dX4_tryMix_129 ?_
      refine G_iload 4 rfl K dX4_tryMix_130 ?_
      obtain ⟨r8, e8, h⟩ := wpO_bind h
      refine G_callVl (ci := 4) [.int z.2] [.long x3.toInt64, .long z.1] K dX4_tryMix_132 wv_1103 yd_X4_mixBrings (Nat.le_of_ble_eq_true rfl) (sh_68 _ _) rfl (by decide) (by decide) rfl rfl (Nat.le_of_ble_eq_true rfl) (K_Day_mixBrings l g htr z.2 M _ e8) ?_
      refine G_lmul K dX4_tryMix_135 ?_
      obtain ⟨r9, e9, h⟩ := wpO_bind h
      refine G_callSl [.long z.1, .long (x3.toInt64 * r8)] [] K dX4_tryMix_136 wv_1107 yd_J9_min_f86c9 (by decide) (by decide) rfl rfl (Nat.le_of_ble_eq_true rfl) (K_Math_min_JJJ l g htr z.1 (x3.toInt64 * r8) M _ e9) ?_
      refine G_lstore K dX4_tryMix_139 (Nat.le_of_ble_eq_true rfl) rfl ?_
      refine G_iinc (v := z.2 + 1) 4 rfl K dX4_tryMix_141 rfl (Nat.le_of_ble_eq_true rfl) rfl ?_
      refine G_goto (tgt := 113) K dX4_tryMix_144 (by decide) ?_
      exact G_lv (lv' := [(0, .ref (g.2.1 68)), (3, .int x3), (4, .long x4), (6, .long r9), (8, .int (z.2 + 1))]) [2, 3, 4, 1, 0] rfl (E113 r9 (z.2 + 1) (wpO_some h))
  have J38 : ∀ (x1 : Int64) (s0 : Int32) (M : Mem), wpO (F_Day_tryMix_j38 x1 s0 M) PHI → GG p l e { frames := 2, cells := 0, slots := 0, locals := 45 } s m args below meth c g 9 (vx_MQ below (Qn g s.heap.size (.inl none) MZ) (QX g s.heap.size (.inl none) MZ) args s 0 0 (AS g s.heap.size)) 0 0 38 [(0, .ref (g.2.1 68)), (1, .long x1)] [.int s0] M := by
    intro x1 s0 M h
    unfold F_Day_tryMix_j38 at h
    refine G_istore_n rfl K dX4_tryMix_38 (Nat.le_of_ble_eq_true rfl) rfl ?_
    refine G_lload_n rfl 2 rfl K dX4_tryMix_39 ?_
    refine G_lconst (v := 0) rfl K dX4_tryMix_40 ?_
    refine G_lcmp_eq (tgt := 93) K dX4_tryMix_41 dX4_tryMix_42 (by decide) (fun hc => ?_) (fun hc => ?_)
    · have h := wpO_t h hc
      cases hPHI _ (wpO_some h)
      exact G_vret K hr dX4_tryMix_93 (Nat.le_of_ble_eq_true rfl) (Nat.le_of_ble_eq_true rfl) ⟨rfl, rfl⟩
    · have h := wpO_f h hc
      refine G_iload_n rfl 0 rfl K dX4_tryMix_45 ?_
      refine G_i2l K dX4_tryMix_46 ?_
      refine G_aload_n rfl 1 rfl K dX4_tryMix_47 ?_
      refine G_get (ci := 4) (k := 2) K rfl in_X4 wd_284 rfl dX4_tryMix_48 (Nat.le_of_ble_eq_true rfl) (sh_68 _ _) (Nat.le_of_ble_eq_true rfl) rfl ?_
      refine G_iconst (v := 0) rfl K dX4_tryMix_51 ?_
      obtain ⟨r4, e4, h⟩ := wpO_bind h
      refine G_callVl (ci := 7) [.int 0] [.long s0.toInt64] K dX4_tryMix_52 wv_1102 yd_X7_at (Nat.le_of_ble_eq_true rfl) (sh_71 _ _) rfl (by decide) (by decide) rfl rfl (Nat.le_of_ble_eq_true rfl) (K_Row_at l g htr 71 72 3 isRow_71 0 M _ e4) ?_
      refine G_lmul K dX4_tryMix_55 ?_
      refine G_lconst (v := 0) rfl K dX4_tryMix_56 ?_
      refine G_lcmp_lt (tgt := 93) K dX4_tryMix_57 dX4_tryMix_58 (by decide) (fun hc => ?_) (fun hc => ?_)
      · have h := wpO_t h hc
        cases hPHI _ (wpO_some h)
        exact G_vret K hr dX4_tryMix_93 (Nat.le_of_ble_eq_true rfl) (Nat.le_of_ble_eq_true rfl) ⟨rfl, rfl⟩
      · have h := wpO_f h hc
        refine G_iload_n rfl 0 rfl K dX4_tryMix_61 ?_
        refine G_i2l K dX4_tryMix_62 ?_
        refine G_aload_n rfl 1 rfl K dX4_tryMix_63 ?_
        refine G_get (ci := 4) (k := 2) K rfl in_X4 wd_284 rfl dX4_tryMix_64 (Nat.le_of_ble_eq_true rfl) (sh_68 _ _) (Nat.le_of_ble_eq_true rfl) rfl ?_
        refine G_iconst (v := 1) rfl K dX4_tryMix_67 ?_
        obtain ⟨r5, e5, h⟩ := wpO_bind h
        refine G_callVl (ci := 7) [.int 1] [.long s0.toInt64] K dX4_tryMix_68 wv_1102 yd_X7_at (Nat.le_of_ble_eq_true rfl) (sh_71 _ _) rfl (by decide) (by decide) rfl rfl (Nat.le_of_ble_eq_true rfl) (K_Row_at l g htr 71 72 3 isRow_71 1 M _ e5) ?_
        refine G_lmul K dX4_tryMix_71 ?_
        refine G_lconst (v := 0) rfl K dX4_tryMix_72 ?_
        refine G_lcmp_lt (tgt := 93) K dX4_tryMix_73 dX4_tryMix_74 (by decide) (fun hc => ?_) (fun hc => ?_)
        · have h := wpO_t h hc
          cases hPHI _ (wpO_some h)
          exact G_vret K hr dX4_tryMix_93 (Nat.le_of_ble_eq_true rfl) (Nat.le_of_ble_eq_true rfl) ⟨rfl, rfl⟩
        · have h := wpO_f h hc
          refine G_iload_n rfl 0 rfl K dX4_tryMix_77 ?_
          refine G_i2l K dX4_tryMix_78 ?_
          refine G_aload_n rfl 1 rfl K dX4_tryMix_79 ?_
          refine G_get (ci := 4) (k := 2) K rfl in_X4 wd_284 rfl dX4_tryMix_80 (Nat.le_of_ble_eq_true rfl) (sh_68 _ _) (Nat.le_of_ble_eq_true rfl) rfl ?_
          refine G_iconst (v := 2) rfl K dX4_tryMix_83 ?_
          obtain ⟨r6, e6, h⟩ := wpO_bind h
          refine G_callVl (ci := 7) [.int 2] [.long s0.toInt64] K dX4_tryMix_84 wv_1102 yd_X7_at (Nat.le_of_ble_eq_true rfl) (sh_71 _ _) rfl (by decide) (by decide) rfl rfl (Nat.le_of_ble_eq_true rfl) (K_Row_at l g htr 71 72 3 isRow_71 2 M _ e6) ?_
          refine G_lmul K dX4_tryMix_87 ?_
          refine G_lconst (v := 0) rfl K dX4_tryMix_88 ?_
          refine G_lcmp_ge (tgt := 94) K dX4_tryMix_89 dX4_tryMix_90 (by decide) (fun hc => ?_) (fun hc => ?_)
          · have h := wpO_t h hc
            refine G_iload_n rfl 0 rfl K dX4_tryMix_94 ?_
            refine G_i2l K dX4_tryMix_95 ?_
            refine G_lload_n rfl 2 rfl K dX4_tryMix_96 ?_
            refine G_lmul K dX4_tryMix_97 ?_
            refine G_lstore K dX4_tryMix_98 (Nat.le_of_ble_eq_true rfl) rfl ?_
            refine G_iload_n rfl 1 rfl K dX4_tryMix_100 ?_
            refine G_i2l K dX4_tryMix_101 ?_
            refine G_aload_n rfl 2 rfl K dX4_tryMix_102 ?_
            refine G_iconst (v := 0) rfl K dX4_tryMix_103 ?_
            obtain ⟨r7, e7, h⟩ := wpO_bind h
            refine G_callVl (ci := 4) [.int 0] [.long s0.toInt64] K dX4_tryMix_104 wv_1103 yd_X4_mixBrings (Nat.le_of_ble_eq_true rfl) (sh_68 _ _) rfl (by decide) (by decide) rfl rfl (Nat.le_of_ble_eq_true rfl) (K_Day_mixBrings l g htr 0 M _ e7) ?_
            refine G_lmul K dX4_tryMix_107 ?_
            refine G_lstore K dX4_tryMix_108 (Nat.le_of_ble_eq_true rfl) rfl ?_
            refine G_iconst (v := 1) rfl K dX4_tryMix_110 ?_
            refine G_istore K dX4_tryMix_111 (Nat.le_of_ble_eq_true rfl) rfl ?_
            exact G_lv (lv' := [(0, .ref (g.2.1 68)), (3, .int s0), (4, .long (s0.toInt64 * x1)), (6, .long (s0.toInt64 * r7)), (8, .int 1)]) [4, 3, 2, 1, 0] rfl (J113 s0 (s0.toInt64 * x1) (s0.toInt64 * r7) 1 M h)
          · have h := wpO_f h hc
            cases hPHI _ (wpO_some h)
            exact G_vret K hr dX4_tryMix_93 (Nat.le_of_ble_eq_true rfl) (Nat.le_of_ble_eq_true rfl) ⟨rfl, rfl⟩
  unfold F_Day_tryMix at h
  refine G_aload_n rfl 0 rfl K dX4_tryMix_0 ?_
  refine G_get (ci := 4) (k := 2) K rfl in_X4 wd_284 rfl dX4_tryMix_1 (Nat.le_of_ble_eq_true rfl) (sh_68 _ _) (Nat.le_of_ble_eq_true rfl) rfl ?_
  refine G_iconst (v := 0) rfl K dX4_tryMix_4 ?_
  obtain ⟨r1, e1, h⟩ := wpO_bind h
  refine G_callVl (ci := 7) [.int 0] [] K dX4_tryMix_5 wv_1102 yd_X7_at (Nat.le_of_ble_eq_true rfl) (sh_71 _ _) rfl (by decide) (by decide) rfl rfl (Nat.le_of_ble_eq_true rfl) (K_Row_at l g htr 71 72 3 isRow_71 0 M _ e1) ?_
  refine G_aload_n rfl 0 rfl K dX4_tryMix_8 ?_
  refine G_get (ci := 4) (k := 2) K rfl in_X4 wd_284 rfl dX4_tryMix_9 (Nat.le_of_ble_eq_true rfl) (sh_68 _ _) (Nat.le_of_ble_eq_true rfl) rfl ?_
  refine G_iconst (v := 1) rfl K dX4_tryMix_12 ?_
  obtain ⟨r2, e2, h⟩ := wpO_bind h
  refine G_callVl (ci := 7) [.int 1] [.long r1] K dX4_tryMix_13 wv_1102 yd_X7_at (Nat.le_of_ble_eq_true rfl) (sh_71 _ _) rfl (by decide) (by decide) rfl rfl (Nat.le_of_ble_eq_true rfl) (K_Row_at l g htr 71 72 3 isRow_71 1 M _ e2) ?_
  refine G_ladd K dX4_tryMix_16 ?_
  refine G_aload_n rfl 0 rfl K dX4_tryMix_17 ?_
  refine G_get (ci := 4) (k := 2) K rfl in_X4 wd_284 rfl dX4_tryMix_18 (Nat.le_of_ble_eq_true rfl) (sh_68 _ _) (Nat.le_of_ble_eq_true rfl) rfl ?_
  refine G_iconst (v := 2) rfl K dX4_tryMix_21 ?_
  obtain ⟨r3, e3, h⟩ := wpO_bind h
  refine G_callVl (ci := 7) [.int 2] [.long (r1 + r2)] K dX4_tryMix_22 wv_1102 yd_X7_at (Nat.le_of_ble_eq_true rfl) (sh_71 _ _) rfl (by decide) (by decide) rfl rfl (Nat.le_of_ble_eq_true rfl) (K_Row_at l g htr 71 72 3 isRow_71 2 M _ e3) ?_
  refine G_ladd K dX4_tryMix_25 ?_
  refine G_lstore_n rfl K dX4_tryMix_26 (Nat.le_of_ble_eq_true rfl) rfl ?_
  refine G_lload_n rfl 0 rfl K dX4_tryMix_27 ?_
  refine G_lconst (v := 0) rfl K dX4_tryMix_28 ?_
  refine G_lcmp_ge (tgt := 37) K dX4_tryMix_29 dX4_tryMix_30 (by decide) (fun hc => ?_) (fun hc => ?_)
  · have h := wpO_t h hc
    refine G_iconst (v := 1) rfl K dX4_tryMix_37 ?_
    exact G_lv (lv' := [(0, .ref (g.2.1 68)), (1, .long ((r1 + r2) + r3))]) [1, 0] rfl (J38 ((r1 + r2) + r3) 1 M h)
  · have h := wpO_f h hc
    refine G_iconst (v := (-1)) rfl K dX4_tryMix_33 ?_
    refine G_goto (tgt := 38) K dX4_tryMix_34 (by decide) ?_
    exact G_lv (lv' := [(0, .ref (g.2.1 68)), (1, .long ((r1 + r2) + r3))]) [1, 0] rfl (J38 ((r1 + r2) + r3) ((-1)) M h)
theorem yd_X4_setWeights : ydN yX4_setWeights 4 := ⟨by decide, by decide, by decide +kernel⟩
theorem yd_X4_tryMix : ydN yX4_tryMix 0 := ⟨by decide, by decide, by decide +kernel⟩
theorem wv_1088 : wdV "KeptWell$Day" 76 yX4_setWeights cX4_setWeights 7 none := ⟨wd_1088, wd_1090, ws_X4_setWeights, wd_9, wd_1091⟩
theorem wv_1098 : wdV "KeptWell$Day" 80 yX4_tryMix cX4_tryMix 9 none := ⟨wd_1098, wd_1100, ws_X4_tryMix, wd_9, wd_1101⟩
def on_X4_tryMixesOfTwo : Nat := 0xb19dffa7010384b3ffa70104845000b62a4c00b6656700b6600415681b060e00b42a6700b6601d681b060e00b42a1c656700b6601d681c060e00b42a6700b6600415681c060e00b42a1b2a4700a23500b42d00b42a0415043660041d5e00a23500b42d00b42a1d3e03
theorem ob_X4_tryMixesOfTwo : OKB cX4_tryMixesOfTwo on_X4_tryMixesOfTwo 105 := ⟨by decide +kernel, by decide +kernel⟩
theorem dX4_tryMixesOfTwo_0 : dc cX4_tryMixesOfTwo 0 1 (.iconst 0) 1 := o_3 ob_X4_tryMixesOfTwo rfl rfl rfl
theorem dX4_tryMixesOfTwo_1 : dc cX4_tryMixesOfTwo 1 2 (.istore_n 3) 1 := o_62 ob_X4_tryMixesOfTwo rfl rfl rfl
theorem dX4_tryMixesOfTwo_2 : dc cX4_tryMixesOfTwo 2 3 (.iload_n 3) 1 := o_29 ob_X4_tryMixesOfTwo rfl rfl rfl
theorem dX4_tryMixesOfTwo_3 : dc cX4_tryMixesOfTwo 3 4 (.aload_n 0) 1 := o_42 ob_X4_tryMixesOfTwo rfl rfl rfl
theorem dX4_tryMixesOfTwo_4 : dc cX4_tryMixesOfTwo 4 7 (.getfield 45) 3 := o_180 ob_X4_tryMixesOfTwo rfl rfl rfl rfl
theorem dX4_tryMixesOfTwo_7 : dc cX4_tryMixesOfTwo 7 10 (.getfield 53) 3 := o_180 ob_X4_tryMixesOfTwo rfl rfl rfl rfl
theorem dX4_tryMixesOfTwo_10 : dc cX4_tryMixesOfTwo 10 13 (.if_icmp .ge 94) 3 := o_162 ob_X4_tryMixesOfTwo rfl rfl rfl rfl
theorem dX4_tryMixesOfTwo_13 : dc cX4_tryMixesOfTwo 13 14 (.iload_n 3) 1 := o_29 ob_X4_tryMixesOfTwo rfl rfl rfl
theorem dX4_tryMixesOfTwo_14 : dc cX4_tryMixesOfTwo 14 15 (.iconst 1) 1 := o_4 ob_X4_tryMixesOfTwo rfl rfl rfl
theorem dX4_tryMixesOfTwo_15 : dc cX4_tryMixesOfTwo 15 16 .iadd 1 := o_96 ob_X4_tryMixesOfTwo rfl rfl rfl
theorem dX4_tryMixesOfTwo_16 : dc cX4_tryMixesOfTwo 16 18 (.istore 4) 2 := o_54 ob_X4_tryMixesOfTwo rfl rfl rfl rfl
theorem dX4_tryMixesOfTwo_18 : dc cX4_tryMixesOfTwo 18 20 (.iload 4) 2 := o_21 ob_X4_tryMixesOfTwo rfl rfl rfl rfl
theorem dX4_tryMixesOfTwo_20 : dc cX4_tryMixesOfTwo 20 21 (.aload_n 0) 1 := o_42 ob_X4_tryMixesOfTwo rfl rfl rfl
theorem dX4_tryMixesOfTwo_21 : dc cX4_tryMixesOfTwo 21 24 (.getfield 45) 3 := o_180 ob_X4_tryMixesOfTwo rfl rfl rfl rfl
theorem dX4_tryMixesOfTwo_24 : dc cX4_tryMixesOfTwo 24 27 (.getfield 53) 3 := o_180 ob_X4_tryMixesOfTwo rfl rfl rfl rfl
theorem dX4_tryMixesOfTwo_27 : dc cX4_tryMixesOfTwo 27 30 (.if_icmp .ge 71) 3 := o_162 ob_X4_tryMixesOfTwo rfl rfl rfl rfl
theorem dX4_tryMixesOfTwo_30 : dc cX4_tryMixesOfTwo 30 31 (.aload_n 0) 1 := o_42 ob_X4_tryMixesOfTwo rfl rfl rfl
theorem dX4_tryMixesOfTwo_31 : dc cX4_tryMixesOfTwo 31 32 (.iload_n 1) 1 := o_27 ob_X4_tryMixesOfTwo rfl rfl rfl
theorem dX4_tryMixesOfTwo_32 : dc cX4_tryMixesOfTwo 32 33 (.aload_n 0) 1 := o_42 ob_X4_tryMixesOfTwo rfl rfl rfl
theorem dX4_tryMixesOfTwo_33 : dc cX4_tryMixesOfTwo 33 36 (.getfield 14) 3 := o_180 ob_X4_tryMixesOfTwo rfl rfl rfl rfl
theorem dX4_tryMixesOfTwo_36 : dc cX4_tryMixesOfTwo 36 37 (.iconst 3) 1 := o_6 ob_X4_tryMixesOfTwo rfl rfl rfl
theorem dX4_tryMixesOfTwo_37 : dc cX4_tryMixesOfTwo 37 38 (.iload_n 2) 1 := o_28 ob_X4_tryMixesOfTwo rfl rfl rfl
theorem dX4_tryMixesOfTwo_38 : dc cX4_tryMixesOfTwo 38 39 .imul 1 := o_104 ob_X4_tryMixesOfTwo rfl rfl rfl
theorem dX4_tryMixesOfTwo_39 : dc cX4_tryMixesOfTwo 39 41 (.iload 4) 2 := o_21 ob_X4_tryMixesOfTwo rfl rfl rfl rfl
theorem dX4_tryMixesOfTwo_41 : dc cX4_tryMixesOfTwo 41 42 .iadd 1 := o_96 ob_X4_tryMixesOfTwo rfl rfl rfl
theorem dX4_tryMixesOfTwo_42 : dc cX4_tryMixesOfTwo 42 45 (.invokevirtual 103) 3 := o_182 ob_X4_tryMixesOfTwo rfl rfl rfl rfl
theorem dX4_tryMixesOfTwo_45 : dc cX4_tryMixesOfTwo 45 46 (.aload_n 0) 1 := o_42 ob_X4_tryMixesOfTwo rfl rfl rfl
theorem dX4_tryMixesOfTwo_46 : dc cX4_tryMixesOfTwo 46 49 (.getfield 14) 3 := o_180 ob_X4_tryMixesOfTwo rfl rfl rfl rfl
theorem dX4_tryMixesOfTwo_49 : dc cX4_tryMixesOfTwo 49 50 (.iconst 3) 1 := o_6 ob_X4_tryMixesOfTwo rfl rfl rfl
theorem dX4_tryMixesOfTwo_50 : dc cX4_tryMixesOfTwo 50 51 (.iload_n 2) 1 := o_28 ob_X4_tryMixesOfTwo rfl rfl rfl
theorem dX4_tryMixesOfTwo_51 : dc cX4_tryMixesOfTwo 51 52 .imul 1 := o_104 ob_X4_tryMixesOfTwo rfl rfl rfl
theorem dX4_tryMixesOfTwo_52 : dc cX4_tryMixesOfTwo 52 53 (.iload_n 3) 1 := o_29 ob_X4_tryMixesOfTwo rfl rfl rfl
theorem dX4_tryMixesOfTwo_53 : dc cX4_tryMixesOfTwo 53 54 .iadd 1 := o_96 ob_X4_tryMixesOfTwo rfl rfl rfl
theorem dX4_tryMixesOfTwo_54 : dc cX4_tryMixesOfTwo 54 57 (.invokevirtual 103) 3 := o_182 ob_X4_tryMixesOfTwo rfl rfl rfl rfl
theorem dX4_tryMixesOfTwo_57 : dc cX4_tryMixesOfTwo 57 58 .lsub 1 := o_101 ob_X4_tryMixesOfTwo rfl rfl rfl
theorem dX4_tryMixesOfTwo_58 : dc cX4_tryMixesOfTwo 58 59 (.iload_n 2) 1 := o_28 ob_X4_tryMixesOfTwo rfl rfl rfl
theorem dX4_tryMixesOfTwo_59 : dc cX4_tryMixesOfTwo 59 60 (.aload_n 0) 1 := o_42 ob_X4_tryMixesOfTwo rfl rfl rfl
theorem dX4_tryMixesOfTwo_60 : dc cX4_tryMixesOfTwo 60 63 (.getfield 14) 3 := o_180 ob_X4_tryMixesOfTwo rfl rfl rfl rfl
theorem dX4_tryMixesOfTwo_63 : dc cX4_tryMixesOfTwo 63 64 (.iconst 3) 1 := o_6 ob_X4_tryMixesOfTwo rfl rfl rfl
theorem dX4_tryMixesOfTwo_64 : dc cX4_tryMixesOfTwo 64 65 (.iload_n 1) 1 := o_27 ob_X4_tryMixesOfTwo rfl rfl rfl
theorem dX4_tryMixesOfTwo_65 : dc cX4_tryMixesOfTwo 65 66 .imul 1 := o_104 ob_X4_tryMixesOfTwo rfl rfl rfl
theorem dX4_tryMixesOfTwo_66 : dc cX4_tryMixesOfTwo 66 67 (.iload_n 3) 1 := o_29 ob_X4_tryMixesOfTwo rfl rfl rfl
theorem dX4_tryMixesOfTwo_67 : dc cX4_tryMixesOfTwo 67 68 .iadd 1 := o_96 ob_X4_tryMixesOfTwo rfl rfl rfl
theorem dX4_tryMixesOfTwo_68 : dc cX4_tryMixesOfTwo 68 71 (.invokevirtual 103) 3 := o_182 ob_X4_tryMixesOfTwo rfl rfl rfl rfl
theorem dX4_tryMixesOfTwo_71 : dc cX4_tryMixesOfTwo 71 72 (.aload_n 0) 1 := o_42 ob_X4_tryMixesOfTwo rfl rfl rfl
theorem dX4_tryMixesOfTwo_72 : dc cX4_tryMixesOfTwo 72 75 (.getfield 14) 3 := o_180 ob_X4_tryMixesOfTwo rfl rfl rfl rfl
theorem dX4_tryMixesOfTwo_75 : dc cX4_tryMixesOfTwo 75 76 (.iconst 3) 1 := o_6 ob_X4_tryMixesOfTwo rfl rfl rfl
theorem dX4_tryMixesOfTwo_76 : dc cX4_tryMixesOfTwo 76 77 (.iload_n 1) 1 := o_27 ob_X4_tryMixesOfTwo rfl rfl rfl
theorem dX4_tryMixesOfTwo_77 : dc cX4_tryMixesOfTwo 77 78 .imul 1 := o_104 ob_X4_tryMixesOfTwo rfl rfl rfl
theorem dX4_tryMixesOfTwo_78 : dc cX4_tryMixesOfTwo 78 80 (.iload 4) 2 := o_21 ob_X4_tryMixesOfTwo rfl rfl rfl rfl
theorem dX4_tryMixesOfTwo_80 : dc cX4_tryMixesOfTwo 80 81 .iadd 1 := o_96 ob_X4_tryMixesOfTwo rfl rfl rfl
theorem dX4_tryMixesOfTwo_81 : dc cX4_tryMixesOfTwo 81 84 (.invokevirtual 103) 3 := o_182 ob_X4_tryMixesOfTwo rfl rfl rfl rfl
theorem dX4_tryMixesOfTwo_84 : dc cX4_tryMixesOfTwo 84 85 .lsub 1 := o_101 ob_X4_tryMixesOfTwo rfl rfl rfl
theorem dX4_tryMixesOfTwo_85 : dc cX4_tryMixesOfTwo 85 88 (.invokevirtual 76) 3 := o_182 ob_X4_tryMixesOfTwo rfl rfl rfl rfl
theorem dX4_tryMixesOfTwo_88 : dc cX4_tryMixesOfTwo 88 89 (.aload_n 0) 1 := o_42 ob_X4_tryMixesOfTwo rfl rfl rfl
theorem dX4_tryMixesOfTwo_89 : dc cX4_tryMixesOfTwo 89 92 (.invokevirtual 80) 3 := o_182 ob_X4_tryMixesOfTwo rfl rfl rfl rfl
theorem dX4_tryMixesOfTwo_92 : dc cX4_tryMixesOfTwo 92 95 (.iinc 4 1) 3 := o_132 ob_X4_tryMixesOfTwo rfl rfl rfl rfl rfl
theorem dX4_tryMixesOfTwo_95 : dc cX4_tryMixesOfTwo 95 98 (.goto (-77)) 3 := o_167 ob_X4_tryMixesOfTwo rfl rfl rfl rfl
theorem dX4_tryMixesOfTwo_98 : dc cX4_tryMixesOfTwo 98 101 (.iinc 3 1) 3 := o_132 ob_X4_tryMixesOfTwo rfl rfl rfl rfl rfl
theorem dX4_tryMixesOfTwo_101 : dc cX4_tryMixesOfTwo 101 104 (.goto (-99)) 3 := o_167 ob_X4_tryMixesOfTwo rfl rfl rfl rfl
theorem dX4_tryMixesOfTwo_104 : dc cX4_tryMixesOfTwo 104 105 .return_ 1 := o_177 ob_X4_tryMixesOfTwo rfl rfl rfl
def F_Day_tryMixesOfTwo_b18 (x1 : Int32) (x2 : Int32) (x3 : Int32) (z : Int32 × Mem) : Option ((Int32 × Mem) ⊕ ((Mem))) :=
  if (z.2.1 1 0) ≤ z.1 then some (.inr z.2) else (F_Row_at 70 9 ((3 * x2) + z.1) z.2).bind fun r1 => (F_Row_at 70 9 ((3 * x2) + x3) z.2).bind fun r2 => (F_Row_at 70 9 ((3 * x1) + x3) z.2).bind fun r3 => (F_Row_at 70 9 ((3 * x1) + z.1) z.2).bind fun r4 => (F_Day_setWeights x1 (r1 - r2) x2 (r3 - r4) z.2).bind fun r5 => (F_Day_tryMix r5).bind fun r6 => some (.inl ((z.1 + 1, r6)))
def F_Day_tryMixesOfTwo_l18 (x1 : Int32) (x2 : Int32) (x3 : Int32) (x4 : Int32) (M : Mem) : Option ((Int32 × Mem) ⊕ ((Mem))) :=
  (iter (F_Day_tryMixesOfTwo_b18 x1 x2 x3) FUEL (x4, M)).bind fun r => some (.inl ((x3 + 1, r)))
def F_Day_tryMixesOfTwo_b2 (x1 : Int32) (x2 : Int32) (z : Int32 × Mem) : Option ((Int32 × Mem) ⊕ ((Mem))) :=
  if (z.2.1 1 0) ≤ z.1 then some (.inr z.2) else F_Day_tryMixesOfTwo_l18 x1 x2 z.1 (z.1 + 1) z.2
def F_Day_tryMixesOfTwo_l2 (x1 : Int32) (x2 : Int32) (x3 : Int32) (M : Mem) : Option (Mem) :=
  (iter (F_Day_tryMixesOfTwo_b2 x1 x2) FUEL (x3, M)).bind fun r => some r
def F_Day_tryMixesOfTwo (x1 : Int32) (x2 : Int32) (M : Mem) : Option (Mem) :=
  F_Day_tryMixesOfTwo_l2 x1 x2 0 M
set_option maxRecDepth 100000 in
set_option maxHeartbeats 4000000 in
theorem K_Day_tryMixesOfTwo (l : Launch) (g : GB) (htr : l.stackTraces = false) (x1 : Int32) (x2 : Int32) (M : Mem) (MZ : Mem) (h : F_Day_tryMixesOfTwo x1 x2 M = some MZ) : CT l g yX4_tryMixesOfTwo (.code yX4_tryMixesOfTwo cX4_tryMixesOfTwo 5 none :: wAll) { frames := 3, cells := 0, slots := 0, locals := 73 } [.ref (g.2.1 68), .int x1, .int x2] M (.inl none) MZ := by
  refine CT.of [(0, .ref (g.2.1 68)), (1, .int x1), (2, .int x2)] (by decide +kernel) (Nat.le_of_ble_eq_true rfl) rfl htr ?_
  intro p e s m args below meth c K hr ht
  skip
  obtain ⟨PHI, hPHI, h⟩ : ∃ PHI : Mem → Prop, (∀ a, PHI a → a = MZ) ∧ wpO (F_Day_tryMixesOfTwo x1 x2 M) PHI := ⟨fun a => a = MZ, fun _ h => h, _, h, rfl⟩
  have J2 : ∀ (x1 : Int32) (x2 : Int32) (x3 : Int32) (M : Mem), wpO (F_Day_tryMixesOfTwo_l2 x1 x2 x3 M) PHI → GG p l e { frames := 3, cells := 0, slots := 0, locals := 73 } s m args below meth c g 5 (vx_MQ below (Qn g s.heap.size (.inl none) MZ) (QX g s.heap.size (.inl none) MZ) args s 0 0 (AS g s.heap.size)) 0 0 2 [(0, .ref (g.2.1 68)), (1, .int x1), (2, .int x2), (3, .int x3)] [] M := by
    intro x1 x2 x3 M h
    unfold F_Day_tryMixesOfTwo_l2 at h
    refine loop_C2 (G := fun (x3 : Int32) (M : Mem) => GG p l e { frames := 3, cells := 0, slots := 0, locals := 73 } s m args below meth c g 5 (vx_MQ below (Qn g s.heap.size (.inl none) MZ) (QX g s.heap.size (.inl none) MZ) args s 0 0 (AS g s.heap.size)) 0 0 2 [(0, .ref (g.2.1 68)), (1, .int x1), (2, .int x2), (3, .int x3)] [] M) (body := F_Day_tryMixesOfTwo_b2 x1 x2) ?_ FUEL _ _ (wpO_bind h)
    intro P2 E2 X2
    have J18 : ∀ (x3 : Int32) (x4 : Int32) (M : Mem), wpO (F_Day_tryMixesOfTwo_l18 x1 x2 x3 x4 M) P2 → GG p l e { frames := 3, cells := 0, slots := 0, locals := 73 } s m args below meth c g 5 (vx_MQ below (Qn g s.heap.size (.inl none) MZ) (QX g s.heap.size (.inl none) MZ) args s 0 0 (AS g s.heap.size)) 0 0 18 [(0, .ref (g.2.1 68)), (1, .int x1), (2, .int x2), (3, .int x3), (4, .int x4)] [] M := by
      intro x3 x4 M h
      unfold F_Day_tryMixesOfTwo_l18 at h
      refine loop_C2 (G := fun (x4 : Int32) (M : Mem) => GG p l e { frames := 3, cells := 0, slots := 0, locals := 73 } s m args below meth c g 5 (vx_MQ below (Qn g s.heap.size (.inl none) MZ) (QX g s.heap.size (.inl none) MZ) args s 0 0 (AS g s.heap.size)) 0 0 18 [(0, .ref (g.2.1 68)), (1, .int x1), (2, .int x2), (3, .int x3), (4, .int x4)] [] M) (body := F_Day_tryMixesOfTwo_b18 x1 x2 x3) ?_ FUEL _ _ (wpO_bind h)
      intro P18 E18 X18
      intro z h
      unfold F_Day_tryMixesOfTwo_b18 at h
      refine G_iload 4 rfl K dX4_tryMixesOfTwo_18 ?_
      refine G_aload_n rfl 0 rfl K dX4_tryMixesOfTwo_20 ?_
      refine G_get (ci := 4) (k := 0) K rfl in_X4 wd_282 rfl dX4_tryMixesOfTwo_21 (Nat.le_of_ble_eq_true rfl) (sh_68 _ _) (Nat.le_of_ble_eq_true rfl) rfl ?_
      refine G_get (ci := 10) (k := 0) K rfl in_X10 wd_57 rfl dX4_tryMixesOfTwo_24 (Nat.le_of_ble_eq_true rfl) (sh_1 _ _) (Nat.le_of_ble_eq_true rfl) rfl ?_
      refine G_icmp_ge (tgt := 98) K dX4_tryMixesOfTwo_27 (by decide) (fun hc => ?_) (fun hc => ?_)
      · have h := wpO_t h hc
        have h := X18 _ (wpO_some h)
        try dsimp only at h
        refine G_iinc (v := x3 + 1) 3 rfl K dX4_tryMixesOfTwo_98 rfl (Nat.le_of_ble_eq_true rfl) rfl ?_
        refine G_goto (tgt := 2) K dX4_tryMixesOfTwo_101 (by decide) ?_
        exact G_lv (lv' := [(0, .ref (g.2.1 68)), (1, .int x1), (2, .int x2), (3, .int (x3 + 1))]) [1, 2, 3, 0] rfl (E2 (x3 + 1) z.2 (wpO_some h))
      · have h := wpO_f h hc
        refine G_aload_n rfl 0 rfl K dX4_tryMixesOfTwo_30 ?_
        refine G_iload_n rfl 1 rfl K dX4_tryMixesOfTwo_31 ?_
        refine G_aload_n rfl 0 rfl K dX4_tryMixesOfTwo_32 ?_
        refine G_get (ci := 4) (k := 1) K rfl in_X4 wd_283 rfl dX4_tryMixesOfTwo_33 (Nat.le_of_ble_eq_true rfl) (sh_68 _ _) (Nat.le_of_ble_eq_true rfl) rfl ?_
        refine G_iconst (v := 3) rfl K dX4_tryMixesOfTwo_36 ?_
        refine G_iload_n rfl 2 rfl K dX4_tryMixesOfTwo_37 ?_
        refine G_imul K dX4_tryMixesOfTwo_38 ?_
        refine G_iload 4 rfl K dX4_tryMixesOfTwo_39 ?_
        refine G_iadd K dX4_tryMixesOfTwo_41 ?_
        obtain ⟨r1, e1, h⟩ := wpO_bind h
        refine G_callVl (ci := 7) [.int ((3 * x2) + z.1)] [.int x1, .ref (g.2.1 68)] K dX4_tryMixesOfTwo_42 wv_1102 yd_X7_at (Nat.le_of_ble_eq_true rfl) (sh_69 _ _) rfl (by decide) (by decide) rfl rfl (Nat.le_of_ble_eq_true rfl) (K_Row_at l g htr 69 70 9 isRow_69 ((3 * x2) + z.1) z.2 _ e1) ?_
        refine G_aload_n rfl 0 rfl K dX4_tryMixesOfTwo_45 ?_
        refine G_get (ci := 4) (k := 1) K rfl in_X4 wd_283 rfl dX4_tryMixesOfTwo_46 (Nat.le_of_ble_eq_true rfl) (sh_68 _ _) (Nat.le_of_ble_eq_true rfl) rfl ?_
        refine G_iconst (v := 3) rfl K dX4_tryMixesOfTwo_49 ?_
        refine G_iload_n rfl 2 rfl K dX4_tryMixesOfTwo_50 ?_
        refine G_imul K dX4_tryMixesOfTwo_51 ?_
        refine G_iload_n rfl 3 rfl K dX4_tryMixesOfTwo_52 ?_
        refine G_iadd K dX4_tryMixesOfTwo_53 ?_
        obtain ⟨r2, e2, h⟩ := wpO_bind h
        refine G_callVl (ci := 7) [.int ((3 * x2) + x3)] [.long r1, .int x1, .ref (g.2.1 68)] K dX4_tryMixesOfTwo_54 wv_1102 yd_X7_at (Nat.le_of_ble_eq_true rfl) (sh_69 _ _) rfl (by decide) (by decide) rfl rfl (Nat.le_of_ble_eq_true rfl) (K_Row_at l g htr 69 70 9 isRow_69 ((3 * x2) + x3) z.2 _ e2) ?_
        refine G_lsub K dX4_tryMixesOfTwo_57 ?_
        refine G_iload_n rfl 2 rfl K dX4_tryMixesOfTwo_58 ?_
        refine G_aload_n rfl 0 rfl K dX4_tryMixesOfTwo_59 ?_
        refine G_get (ci := 4) (k := 1) K rfl in_X4 wd_283 rfl dX4_tryMixesOfTwo_60 (Nat.le_of_ble_eq_true rfl) (sh_68 _ _) (Nat.le_of_ble_eq_true rfl) rfl ?_
        refine G_iconst (v := 3) rfl K dX4_tryMixesOfTwo_63 ?_
        refine G_iload_n rfl 1 rfl K dX4_tryMixesOfTwo_64 ?_
        refine G_imul K dX4_tryMixesOfTwo_65 ?_
        refine G_iload_n rfl 3 rfl K dX4_tryMixesOfTwo_66 ?_
        refine G_iadd K dX4_tryMixesOfTwo_67 ?_
        obtain ⟨r3, e3, h⟩ := wpO_bind h
        refine G_callVl (ci := 7) [.int ((3 * x1) + x3)] [.int x2, .long (r1 - r2), .int x1, .ref (g.2.1 68)] K dX4_tryMixesOfTwo_68 wv_1102 yd_X7_at (Nat.le_of_ble_eq_true rfl) (sh_69 _ _) rfl (by decide) (by decide) rfl rfl (Nat.le_of_ble_eq_true rfl) (K_Row_at l g htr 69 70 9 isRow_69 ((3 * x1) + x3) z.2 _ e3) ?_
        refine G_aload_n rfl 0 rfl K dX4_tryMixesOfTwo_71 ?_
        refine G_get (ci := 4) (k := 1) K rfl in_X4 wd_283 rfl dX4_tryMixesOfTwo_72 (Nat.le_of_ble_eq_true rfl) (sh_68 _ _) (Nat.le_of_ble_eq_true rfl) rfl ?_
        refine G_iconst (v := 3) rfl K dX4_tryMixesOfTwo_75 ?_
        refine G_iload_n rfl 1 rfl K dX4_tryMixesOfTwo_76 ?_
        refine G_imul K dX4_tryMixesOfTwo_77 ?_
        refine G_iload 4 rfl K dX4_tryMixesOfTwo_78 ?_
        refine G_iadd K dX4_tryMixesOfTwo_80 ?_
        obtain ⟨r4, e4, h⟩ := wpO_bind h
        refine G_callVl (ci := 7) [.int ((3 * x1) + z.1)] [.long r3, .int x2, .long (r1 - r2), .int x1, .ref (g.2.1 68)] K dX4_tryMixesOfTwo_81 wv_1102 yd_X7_at (Nat.le_of_ble_eq_true rfl) (sh_69 _ _) rfl (by decide) (by decide) rfl rfl (Nat.le_of_ble_eq_true rfl) (K_Row_at l g htr 69 70 9 isRow_69 ((3 * x1) + z.1) z.2 _ e4) ?_
        refine G_lsub K dX4_tryMixesOfTwo_84 ?_
        obtain ⟨r5, e5, h⟩ := wpO_bind h
        refine G_callVv (ci := 4) [.int x1, .long (r1 - r2), .int x2, .long (r3 - r4)] [] K dX4_tryMixesOfTwo_85 wv_1088 yd_X4_setWeights (Nat.le_of_ble_eq_true rfl) (sh_68 _ _) rfl (by decide) (by decide) rfl rfl (Nat.le_of_ble_eq_true rfl) (K_Day_setWeights l g htr x1 (r1 - r2) x2 (r3 - r4) z.2 _ e5) ?_
        refine G_aload_n rfl 0 rfl K dX4_tryMixesOfTwo_88 ?_
        obtain ⟨r6, e6, h⟩ := wpO_bind h
        refine G_callVv (ci := 4) [] [] K dX4_tryMixesOfTwo_89 wv_1098 yd_X4_tryMix (Nat.le_of_ble_eq_true rfl) (sh_68 _ _) rfl (by decide) (by decide) rfl rfl (Nat.le_of_ble_eq_true rfl) (K_Day_tryMix l g htr  r5 _ e6) ?_
        refine G_iinc (v := z.1 + 1) 4 rfl K dX4_tryMixesOfTwo_92 rfl (Nat.le_of_ble_eq_true rfl) rfl ?_
        refine G_goto (tgt := 18) K dX4_tryMixesOfTwo_95 (by decide) ?_
        exact G_lv (lv' := [(0, .ref (g.2.1 68)), (1, .int x1), (2, .int x2), (3, .int x3), (4, .int (z.1 + 1))]) [1, 2, 3, 4, 0] rfl (E18 (z.1 + 1) r6 (wpO_some h))
    intro z h
    unfold F_Day_tryMixesOfTwo_b2 at h
    refine G_iload_n rfl 3 rfl K dX4_tryMixesOfTwo_2 ?_
    refine G_aload_n rfl 0 rfl K dX4_tryMixesOfTwo_3 ?_
    refine G_get (ci := 4) (k := 0) K rfl in_X4 wd_282 rfl dX4_tryMixesOfTwo_4 (Nat.le_of_ble_eq_true rfl) (sh_68 _ _) (Nat.le_of_ble_eq_true rfl) rfl ?_
    refine G_get (ci := 10) (k := 0) K rfl in_X10 wd_57 rfl dX4_tryMixesOfTwo_7 (Nat.le_of_ble_eq_true rfl) (sh_1 _ _) (Nat.le_of_ble_eq_true rfl) rfl ?_
    refine G_icmp_ge (tgt := 104) K dX4_tryMixesOfTwo_10 (by decide) (fun hc => ?_) (fun hc => ?_)
    · have h := wpO_t h hc
      have h := X2 _ (wpO_some h)
      try dsimp only at h
      cases hPHI _ (wpO_some h)
      exact G_vret K hr dX4_tryMixesOfTwo_104 (Nat.le_of_ble_eq_true rfl) (Nat.le_of_ble_eq_true rfl) ⟨rfl, rfl⟩
    · have h := wpO_f h hc
      refine G_iload_n rfl 3 rfl K dX4_tryMixesOfTwo_13 ?_
      refine G_iconst (v := 1) rfl K dX4_tryMixesOfTwo_14 ?_
      refine G_iadd K dX4_tryMixesOfTwo_15 ?_
      refine G_istore K dX4_tryMixesOfTwo_16 (Nat.le_of_ble_eq_true rfl) rfl ?_
      exact G_lv (lv' := [(0, .ref (g.2.1 68)), (1, .int x1), (2, .int x2), (3, .int z.1), (4, .int (z.1 + 1))]) [1, 2, 3, 4, 0] rfl (J18 z.1 (z.1 + 1) z.2 h)
  unfold F_Day_tryMixesOfTwo at h
  refine G_iconst (v := 0) rfl K dX4_tryMixesOfTwo_0 ?_
  refine G_istore_n rfl K dX4_tryMixesOfTwo_1 (Nat.le_of_ble_eq_true rfl) rfl ?_
  exact G_lv (lv' := [(0, .ref (g.2.1 68)), (1, .int x1), (2, .int x2), (3, .int 0)]) [1, 2, 3, 0] rfl (J2 x1 x2 0 M h)
theorem wv_606 : wdV "KeptWell$Day" 72 yX7_put cX7_put 4 none := ⟨wd_606, wd_452, wd_453, wd_3, wd_454⟩
def on_X4_tryMixOfThree : Nat := 0xb15000b62a88ffa70101844800b604161b1600b42ab3ffa701068404376165696700b66007151d0e00b42a6700b66008151c0e00b42a696700b66008151d0e00b42a6700b66007151c0e00b42a0416083670066005061507367006600406154d00a20606150636030437093e68700660051b063d68700660041b067900a2061b3c03
theorem ob_X4_tryMixOfThree : OKB cX4_tryMixOfThree on_X4_tryMixOfThree 130 := ⟨by decide +kernel, by decide +kernel⟩
theorem dX4_tryMixOfThree_0 : dc cX4_tryMixOfThree 0 1 (.iconst 0) 1 := o_3 ob_X4_tryMixOfThree rfl rfl rfl
theorem dX4_tryMixOfThree_1 : dc cX4_tryMixOfThree 1 2 (.istore_n 1) 1 := o_60 ob_X4_tryMixOfThree rfl rfl rfl
theorem dX4_tryMixOfThree_2 : dc cX4_tryMixOfThree 2 3 (.iload_n 1) 1 := o_27 ob_X4_tryMixOfThree rfl rfl rfl
theorem dX4_tryMixOfThree_3 : dc cX4_tryMixOfThree 3 4 (.iconst 3) 1 := o_6 ob_X4_tryMixOfThree rfl rfl rfl
theorem dX4_tryMixOfThree_4 : dc cX4_tryMixOfThree 4 7 (.if_icmp .ge 121) 3 := o_162 ob_X4_tryMixOfThree rfl rfl rfl rfl
theorem dX4_tryMixOfThree_7 : dc cX4_tryMixOfThree 7 8 (.iconst 3) 1 := o_6 ob_X4_tryMixOfThree rfl rfl rfl
theorem dX4_tryMixOfThree_8 : dc cX4_tryMixOfThree 8 9 (.iload_n 1) 1 := o_27 ob_X4_tryMixOfThree rfl rfl rfl
theorem dX4_tryMixOfThree_9 : dc cX4_tryMixOfThree 9 10 (.iconst 1) 1 := o_4 ob_X4_tryMixOfThree rfl rfl rfl
theorem dX4_tryMixOfThree_10 : dc cX4_tryMixOfThree 10 11 .iadd 1 := o_96 ob_X4_tryMixOfThree rfl rfl rfl
theorem dX4_tryMixOfThree_11 : dc cX4_tryMixOfThree 11 12 (.iconst 3) 1 := o_6 ob_X4_tryMixOfThree rfl rfl rfl
theorem dX4_tryMixOfThree_12 : dc cX4_tryMixOfThree 12 13 .irem 1 := o_112 ob_X4_tryMixOfThree rfl rfl rfl
theorem dX4_tryMixOfThree_13 : dc cX4_tryMixOfThree 13 14 .imul 1 := o_104 ob_X4_tryMixOfThree rfl rfl rfl
theorem dX4_tryMixOfThree_14 : dc cX4_tryMixOfThree 14 15 (.istore_n 2) 1 := o_61 ob_X4_tryMixOfThree rfl rfl rfl
theorem dX4_tryMixOfThree_15 : dc cX4_tryMixOfThree 15 16 (.iconst 3) 1 := o_6 ob_X4_tryMixOfThree rfl rfl rfl
theorem dX4_tryMixOfThree_16 : dc cX4_tryMixOfThree 16 17 (.iload_n 1) 1 := o_27 ob_X4_tryMixOfThree rfl rfl rfl
theorem dX4_tryMixOfThree_17 : dc cX4_tryMixOfThree 17 18 (.iconst 2) 1 := o_5 ob_X4_tryMixOfThree rfl rfl rfl
theorem dX4_tryMixOfThree_18 : dc cX4_tryMixOfThree 18 19 .iadd 1 := o_96 ob_X4_tryMixOfThree rfl rfl rfl
theorem dX4_tryMixOfThree_19 : dc cX4_tryMixOfThree 19 20 (.iconst 3) 1 := o_6 ob_X4_tryMixOfThree rfl rfl rfl
theorem dX4_tryMixOfThree_20 : dc cX4_tryMixOfThree 20 21 .irem 1 := o_112 ob_X4_tryMixOfThree rfl rfl rfl
theorem dX4_tryMixOfThree_21 : dc cX4_tryMixOfThree 21 22 .imul 1 := o_104 ob_X4_tryMixOfThree rfl rfl rfl
theorem dX4_tryMixOfThree_22 : dc cX4_tryMixOfThree 22 23 (.istore_n 3) 1 := o_62 ob_X4_tryMixOfThree rfl rfl rfl
theorem dX4_tryMixOfThree_23 : dc cX4_tryMixOfThree 23 24 (.lconst 0) 1 := o_9 ob_X4_tryMixOfThree rfl rfl rfl
theorem dX4_tryMixOfThree_24 : dc cX4_tryMixOfThree 24 26 (.lstore 4) 2 := o_55 ob_X4_tryMixOfThree rfl rfl rfl rfl
theorem dX4_tryMixOfThree_26 : dc cX4_tryMixOfThree 26 27 (.iconst 0) 1 := o_3 ob_X4_tryMixOfThree rfl rfl rfl
theorem dX4_tryMixOfThree_27 : dc cX4_tryMixOfThree 27 29 (.istore 6) 2 := o_54 ob_X4_tryMixOfThree rfl rfl rfl rfl
theorem dX4_tryMixOfThree_29 : dc cX4_tryMixOfThree 29 31 (.iload 6) 2 := o_21 ob_X4_tryMixOfThree rfl rfl rfl rfl
theorem dX4_tryMixOfThree_31 : dc cX4_tryMixOfThree 31 32 (.iconst 3) 1 := o_6 ob_X4_tryMixOfThree rfl rfl rfl
theorem dX4_tryMixOfThree_32 : dc cX4_tryMixOfThree 32 35 (.if_icmp .ge 77) 3 := o_162 ob_X4_tryMixOfThree rfl rfl rfl rfl
theorem dX4_tryMixOfThree_35 : dc cX4_tryMixOfThree 35 37 (.iload 6) 2 := o_21 ob_X4_tryMixOfThree rfl rfl rfl rfl
theorem dX4_tryMixOfThree_37 : dc cX4_tryMixOfThree 37 38 (.iconst 1) 1 := o_4 ob_X4_tryMixOfThree rfl rfl rfl
theorem dX4_tryMixOfThree_38 : dc cX4_tryMixOfThree 38 39 .iadd 1 := o_96 ob_X4_tryMixOfThree rfl rfl rfl
theorem dX4_tryMixOfThree_39 : dc cX4_tryMixOfThree 39 40 (.iconst 3) 1 := o_6 ob_X4_tryMixOfThree rfl rfl rfl
theorem dX4_tryMixOfThree_40 : dc cX4_tryMixOfThree 40 41 .irem 1 := o_112 ob_X4_tryMixOfThree rfl rfl rfl
theorem dX4_tryMixOfThree_41 : dc cX4_tryMixOfThree 41 43 (.istore 7) 2 := o_54 ob_X4_tryMixOfThree rfl rfl rfl rfl
theorem dX4_tryMixOfThree_43 : dc cX4_tryMixOfThree 43 45 (.iload 6) 2 := o_21 ob_X4_tryMixOfThree rfl rfl rfl rfl
theorem dX4_tryMixOfThree_45 : dc cX4_tryMixOfThree 45 46 (.iconst 2) 1 := o_5 ob_X4_tryMixOfThree rfl rfl rfl
theorem dX4_tryMixOfThree_46 : dc cX4_tryMixOfThree 46 47 .iadd 1 := o_96 ob_X4_tryMixOfThree rfl rfl rfl
theorem dX4_tryMixOfThree_47 : dc cX4_tryMixOfThree 47 48 (.iconst 3) 1 := o_6 ob_X4_tryMixOfThree rfl rfl rfl
theorem dX4_tryMixOfThree_48 : dc cX4_tryMixOfThree 48 49 .irem 1 := o_112 ob_X4_tryMixOfThree rfl rfl rfl
theorem dX4_tryMixOfThree_49 : dc cX4_tryMixOfThree 49 51 (.istore 8) 2 := o_54 ob_X4_tryMixOfThree rfl rfl rfl rfl
theorem dX4_tryMixOfThree_51 : dc cX4_tryMixOfThree 51 53 (.lload 4) 2 := o_22 ob_X4_tryMixOfThree rfl rfl rfl rfl
theorem dX4_tryMixOfThree_53 : dc cX4_tryMixOfThree 53 54 (.aload_n 0) 1 := o_42 ob_X4_tryMixOfThree rfl rfl rfl
theorem dX4_tryMixOfThree_54 : dc cX4_tryMixOfThree 54 57 (.getfield 14) 3 := o_180 ob_X4_tryMixOfThree rfl rfl rfl rfl
theorem dX4_tryMixOfThree_57 : dc cX4_tryMixOfThree 57 58 (.iload_n 2) 1 := o_28 ob_X4_tryMixOfThree rfl rfl rfl
theorem dX4_tryMixOfThree_58 : dc cX4_tryMixOfThree 58 60 (.iload 7) 2 := o_21 ob_X4_tryMixOfThree rfl rfl rfl rfl
theorem dX4_tryMixOfThree_60 : dc cX4_tryMixOfThree 60 61 .iadd 1 := o_96 ob_X4_tryMixOfThree rfl rfl rfl
theorem dX4_tryMixOfThree_61 : dc cX4_tryMixOfThree 61 64 (.invokevirtual 103) 3 := o_182 ob_X4_tryMixOfThree rfl rfl rfl rfl
theorem dX4_tryMixOfThree_64 : dc cX4_tryMixOfThree 64 65 (.aload_n 0) 1 := o_42 ob_X4_tryMixOfThree rfl rfl rfl
theorem dX4_tryMixOfThree_65 : dc cX4_tryMixOfThree 65 68 (.getfield 14) 3 := o_180 ob_X4_tryMixOfThree rfl rfl rfl rfl
theorem dX4_tryMixOfThree_68 : dc cX4_tryMixOfThree 68 69 (.iload_n 3) 1 := o_29 ob_X4_tryMixOfThree rfl rfl rfl
theorem dX4_tryMixOfThree_69 : dc cX4_tryMixOfThree 69 71 (.iload 8) 2 := o_21 ob_X4_tryMixOfThree rfl rfl rfl rfl
theorem dX4_tryMixOfThree_71 : dc cX4_tryMixOfThree 71 72 .iadd 1 := o_96 ob_X4_tryMixOfThree rfl rfl rfl
theorem dX4_tryMixOfThree_72 : dc cX4_tryMixOfThree 72 75 (.invokevirtual 103) 3 := o_182 ob_X4_tryMixOfThree rfl rfl rfl rfl
theorem dX4_tryMixOfThree_75 : dc cX4_tryMixOfThree 75 76 .lmul 1 := o_105 ob_X4_tryMixOfThree rfl rfl rfl
theorem dX4_tryMixOfThree_76 : dc cX4_tryMixOfThree 76 77 (.aload_n 0) 1 := o_42 ob_X4_tryMixOfThree rfl rfl rfl
theorem dX4_tryMixOfThree_77 : dc cX4_tryMixOfThree 77 80 (.getfield 14) 3 := o_180 ob_X4_tryMixOfThree rfl rfl rfl rfl
theorem dX4_tryMixOfThree_80 : dc cX4_tryMixOfThree 80 81 (.iload_n 2) 1 := o_28 ob_X4_tryMixOfThree rfl rfl rfl
theorem dX4_tryMixOfThree_81 : dc cX4_tryMixOfThree 81 83 (.iload 8) 2 := o_21 ob_X4_tryMixOfThree rfl rfl rfl rfl
theorem dX4_tryMixOfThree_83 : dc cX4_tryMixOfThree 83 84 .iadd 1 := o_96 ob_X4_tryMixOfThree rfl rfl rfl
theorem dX4_tryMixOfThree_84 : dc cX4_tryMixOfThree 84 87 (.invokevirtual 103) 3 := o_182 ob_X4_tryMixOfThree rfl rfl rfl rfl
theorem dX4_tryMixOfThree_87 : dc cX4_tryMixOfThree 87 88 (.aload_n 0) 1 := o_42 ob_X4_tryMixOfThree rfl rfl rfl
theorem dX4_tryMixOfThree_88 : dc cX4_tryMixOfThree 88 91 (.getfield 14) 3 := o_180 ob_X4_tryMixOfThree rfl rfl rfl rfl
theorem dX4_tryMixOfThree_91 : dc cX4_tryMixOfThree 91 92 (.iload_n 3) 1 := o_29 ob_X4_tryMixOfThree rfl rfl rfl
theorem dX4_tryMixOfThree_92 : dc cX4_tryMixOfThree 92 94 (.iload 7) 2 := o_21 ob_X4_tryMixOfThree rfl rfl rfl rfl
theorem dX4_tryMixOfThree_94 : dc cX4_tryMixOfThree 94 95 .iadd 1 := o_96 ob_X4_tryMixOfThree rfl rfl rfl
theorem dX4_tryMixOfThree_95 : dc cX4_tryMixOfThree 95 98 (.invokevirtual 103) 3 := o_182 ob_X4_tryMixOfThree rfl rfl rfl rfl
theorem dX4_tryMixOfThree_98 : dc cX4_tryMixOfThree 98 99 .lmul 1 := o_105 ob_X4_tryMixOfThree rfl rfl rfl
theorem dX4_tryMixOfThree_99 : dc cX4_tryMixOfThree 99 100 .lsub 1 := o_101 ob_X4_tryMixOfThree rfl rfl rfl
theorem dX4_tryMixOfThree_100 : dc cX4_tryMixOfThree 100 101 .ladd 1 := o_97 ob_X4_tryMixOfThree rfl rfl rfl
theorem dX4_tryMixOfThree_101 : dc cX4_tryMixOfThree 101 103 (.lstore 4) 2 := o_55 ob_X4_tryMixOfThree rfl rfl rfl rfl
theorem dX4_tryMixOfThree_103 : dc cX4_tryMixOfThree 103 106 (.iinc 6 1) 3 := o_132 ob_X4_tryMixOfThree rfl rfl rfl rfl rfl
theorem dX4_tryMixOfThree_106 : dc cX4_tryMixOfThree 106 109 (.goto (-77)) 3 := o_167 ob_X4_tryMixOfThree rfl rfl rfl rfl
theorem dX4_tryMixOfThree_109 : dc cX4_tryMixOfThree 109 110 (.aload_n 0) 1 := o_42 ob_X4_tryMixOfThree rfl rfl rfl
theorem dX4_tryMixOfThree_110 : dc cX4_tryMixOfThree 110 113 (.getfield 22) 3 := o_180 ob_X4_tryMixOfThree rfl rfl rfl rfl
theorem dX4_tryMixOfThree_113 : dc cX4_tryMixOfThree 113 114 (.iload_n 1) 1 := o_27 ob_X4_tryMixOfThree rfl rfl rfl
theorem dX4_tryMixOfThree_114 : dc cX4_tryMixOfThree 114 116 (.lload 4) 2 := o_22 ob_X4_tryMixOfThree rfl rfl rfl rfl
theorem dX4_tryMixOfThree_116 : dc cX4_tryMixOfThree 116 119 (.invokevirtual 72) 3 := o_182 ob_X4_tryMixOfThree rfl rfl rfl rfl
theorem dX4_tryMixOfThree_119 : dc cX4_tryMixOfThree 119 122 (.iinc 1 1) 3 := o_132 ob_X4_tryMixOfThree rfl rfl rfl rfl rfl
theorem dX4_tryMixOfThree_122 : dc cX4_tryMixOfThree 122 125 (.goto (-120)) 3 := o_167 ob_X4_tryMixOfThree rfl rfl rfl rfl
theorem dX4_tryMixOfThree_125 : dc cX4_tryMixOfThree 125 126 (.aload_n 0) 1 := o_42 ob_X4_tryMixOfThree rfl rfl rfl
theorem dX4_tryMixOfThree_126 : dc cX4_tryMixOfThree 126 129 (.invokevirtual 80) 3 := o_182 ob_X4_tryMixOfThree rfl rfl rfl rfl
theorem dX4_tryMixOfThree_129 : dc cX4_tryMixOfThree 129 130 .return_ 1 := o_177 ob_X4_tryMixOfThree rfl rfl rfl
def F_Day_tryMixOfThree_j125 (M : Mem) : Option (Mem) :=
  (F_Day_tryMix M).bind fun r1 => some r1
def F_Day_tryMixOfThree_j109 (x1 : Int32) (x4 : Int64) (M : Mem) : Option ((Int32 × Mem) ⊕ ((Mem))) :=
  (F_Row_put 72 3 x1 x4 M).bind fun r2 => some (.inl ((x1 + 1, r2)))
def F_Day_tryMixOfThree_b29 (x1 : Int32) (x2 : Int32) (x3 : Int32) (M : Mem) (z : Int64 × Int32) : Option ((Int64 × Int32) ⊕ ((Int64))) :=
  if 3 ≤ z.2 then some (.inr z.1) else (F_Row_at 70 9 (x2 + (irm (z.2 + 1) 3)) M).bind fun r3 => (F_Row_at 70 9 (x3 + (irm (z.2 + 2) 3)) M).bind fun r4 => (F_Row_at 70 9 (x2 + (irm (z.2 + 2) 3)) M).bind fun r5 => (F_Row_at 70 9 (x3 + (irm (z.2 + 1) 3)) M).bind fun r6 => some (.inl ((z.1 + ((r3 * r4) - (r5 * r6)), z.2 + 1)))
def F_Day_tryMixOfThree_l29 (x1 : Int32) (x2 : Int32) (x3 : Int32) (x4 : Int64) (x6 : Int32) (M : Mem) : Option ((Int32 × Mem) ⊕ ((Mem))) :=
  (iter (F_Day_tryMixOfThree_b29 x1 x2 x3 M) FUEL (x4, x6)).bind fun r => F_Day_tryMixOfThree_j109 x1 r M
def F_Day_tryMixOfThree_b2 (z : Int32 × Mem) : Option ((Int32 × Mem) ⊕ ((Mem))) :=
  if 3 ≤ z.1 then some (.inr z.2) else F_Day_tryMixOfThree_l29 z.1 (3 * (irm (z.1 + 1) 3)) (3 * (irm (z.1 + 2) 3)) 0 0 z.2
def F_Day_tryMixOfThree_l2 (x1 : Int32) (M : Mem) : Option (Mem) :=
  (iter (F_Day_tryMixOfThree_b2) FUEL (x1, M)).bind fun r => F_Day_tryMixOfThree_j125 r
def F_Day_tryMixOfThree (M : Mem) : Option (Mem) :=
  F_Day_tryMixOfThree_l2 0 M
set_option maxRecDepth 100000 in
set_option maxHeartbeats 4000000 in
theorem K_Day_tryMixOfThree (l : Launch) (g : GB) (htr : l.stackTraces = false) (M : Mem) (MZ : Mem) (h : F_Day_tryMixOfThree M = some MZ) : CT l g yX4_tryMixOfThree (.code yX4_tryMixOfThree cX4_tryMixOfThree 9 none :: wAll) { frames := 3, cells := 0, slots := 0, locals := 73 } [.ref (g.2.1 68)] M (.inl none) MZ := by
  refine CT.of [(0, .ref (g.2.1 68))] (by decide +kernel) (Nat.le_of_ble_eq_true rfl) rfl htr ?_
  intro p e s m args below meth c K hr ht
  skip
  obtain ⟨PHI, hPHI, h⟩ : ∃ PHI : Mem → Prop, (∀ a, PHI a → a = MZ) ∧ wpO (F_Day_tryMixOfThree M) PHI := ⟨fun a => a = MZ, fun _ h => h, _, h, rfl⟩
  have J125 : ∀ (M : Mem), wpO (F_Day_tryMixOfThree_j125 M) PHI → GG p l e { frames := 3, cells := 0, slots := 0, locals := 73 } s m args below meth c g 9 (vx_MQ below (Qn g s.heap.size (.inl none) MZ) (QX g s.heap.size (.inl none) MZ) args s 0 0 (AS g s.heap.size)) 0 0 125 [(0, .ref (g.2.1 68))] [] M := by
    intro M h
    unfold F_Day_tryMixOfThree_j125 at h
    refine G_aload_n rfl 0 rfl K dX4_tryMixOfThree_125 ?_
    obtain ⟨r1, e1, h⟩ := wpO_bind h
    refine G_callVv (ci := 4) [] [] K dX4_tryMixOfThree_126 wv_1098 yd_X4_tryMix (Nat.le_of_ble_eq_true rfl) (sh_68 _ _) rfl (by decide) (by decide) rfl rfl (Nat.le_of_ble_eq_true rfl) (K_Day_tryMix l g htr  M _ e1) ?_
    cases hPHI _ (wpO_some h)
    exact G_vret K hr dX4_tryMixOfThree_129 (Nat.le_of_ble_eq_true rfl) (Nat.le_of_ble_eq_true rfl) ⟨rfl, rfl⟩
  have J2 : ∀ (x1 : Int32) (M : Mem), wpO (F_Day_tryMixOfThree_l2 x1 M) PHI → GG p l e { frames := 3, cells := 0, slots := 0, locals := 73 } s m args below meth c g 9 (vx_MQ below (Qn g s.heap.size (.inl none) MZ) (QX g s.heap.size (.inl none) MZ) args s 0 0 (AS g s.heap.size)) 0 0 2 [(0, .ref (g.2.1 68)), (1, .int x1)] [] M := by
    intro x1 M h
    unfold F_Day_tryMixOfThree_l2 at h
    refine loop_C2 (G := fun (x1 : Int32) (M : Mem) => GG p l e { frames := 3, cells := 0, slots := 0, locals := 73 } s m args below meth c g 9 (vx_MQ below (Qn g s.heap.size (.inl none) MZ) (QX g s.heap.size (.inl none) MZ) args s 0 0 (AS g s.heap.size)) 0 0 2 [(0, .ref (g.2.1 68)), (1, .int x1)] [] M) (body := F_Day_tryMixOfThree_b2) ?_ FUEL _ _ (wpO_bind h)
    intro P2 E2 X2
    have J109 : ∀ (x1 : Int32) (x4 : Int64) (M : Mem), wpO (F_Day_tryMixOfThree_j109 x1 x4 M) P2 → GG p l e { frames := 3, cells := 0, slots := 0, locals := 73 } s m args below meth c g 9 (vx_MQ below (Qn g s.heap.size (.inl none) MZ) (QX g s.heap.size (.inl none) MZ) args s 0 0 (AS g s.heap.size)) 0 0 109 [(0, .ref (g.2.1 68)), (1, .int x1), (4, .long x4)] [] M := by
      intro x1 x4 M h
      unfold F_Day_tryMixOfThree_j109 at h
      refine G_aload_n rfl 0 rfl K dX4_tryMixOfThree_109 ?_
      refine G_get (ci := 4) (k := 2) K rfl in_X4 wd_284 rfl dX4_tryMixOfThree_110 (Nat.le_of_ble_eq_true rfl) (sh_68 _ _) (Nat.le_of_ble_eq_true rfl) rfl ?_
      refine G_iload_n rfl 1 rfl K dX4_tryMixOfThree_113 ?_
      refine G_lload 2 rfl K dX4_tryMixOfThree_114 ?_
      obtain ⟨r2, e2, h⟩ := wpO_bind h
      refine G_callVv (ci := 7) [.int x1, .long x4] [] K dX4_tryMixOfThree_116 wv_606 yd_X7_put (Nat.le_of_ble_eq_true rfl) (sh_71 _ _) rfl (by decide) (by decide) rfl rfl (Nat.le_of_ble_eq_true rfl) (K_Row_put l g htr 71 72 3 isRow_71 x1 x4 M _ e2) ?_
      refine G_iinc (v := x1 + 1) 1 rfl K dX4_tryMixOfThree_119 rfl (Nat.le_of_ble_eq_true rfl) rfl ?_
      refine G_goto (tgt := 2) K dX4_tryMixOfThree_122 (by decide) ?_
      exact G_lv (lv' := [(0, .ref (g.2.1 68)), (1, .int (x1 + 1))]) [1, 0] rfl (E2 (x1 + 1) r2 (wpO_some h))
    have J29 : ∀ (x1 : Int32) (x2 : Int32) (x3 : Int32) (x4 : Int64) (x6 : Int32) (M : Mem), wpO (F_Day_tryMixOfThree_l29 x1 x2 x3 x4 x6 M) P2 → GG p l e { frames := 3, cells := 0, slots := 0, locals := 73 } s m args below meth c g 9 (vx_MQ below (Qn g s.heap.size (.inl none) MZ) (QX g s.heap.size (.inl none) MZ) args s 0 0 (AS g s.heap.size)) 0 0 29 [(0, .ref (g.2.1 68)), (1, .int x1), (2, .int x2), (3, .int x3), (4, .long x4), (6, .int x6)] [] M := by
      intro x1 x2 x3 x4 x6 M h
      unfold F_Day_tryMixOfThree_l29 at h
      refine loop_C2 (G := fun (x4 : Int64) (x6 : Int32) => GG p l e { frames := 3, cells := 0, slots := 0, locals := 73 } s m args below meth c g 9 (vx_MQ below (Qn g s.heap.size (.inl none) MZ) (QX g s.heap.size (.inl none) MZ) args s 0 0 (AS g s.heap.size)) 0 0 29 [(0, .ref (g.2.1 68)), (1, .int x1), (2, .int x2), (3, .int x3), (4, .long x4), (6, .int x6)] [] M) (body := F_Day_tryMixOfThree_b29 x1 x2 x3 M) ?_ FUEL _ _ (wpO_bind h)
      intro P29 E29 X29
      intro z h
      unfold F_Day_tryMixOfThree_b29 at h
      refine G_iload 5 rfl K dX4_tryMixOfThree_29 ?_
      refine G_iconst (v := 3) rfl K dX4_tryMixOfThree_31 ?_
      refine G_icmp_ge (tgt := 109) K dX4_tryMixOfThree_32 (by decide) (fun hc => ?_) (fun hc => ?_)
      · have h := wpO_t h hc
        have h := X29 _ (wpO_some h)
        try dsimp only at h
        exact G_lv (lv' := [(0, .ref (g.2.1 68)), (1, .int x1), (4, .long z.1)]) [0, 1, 4] rfl (J109 x1 z.1 M h)
      · have h := wpO_f h hc
        refine G_iload 5 rfl K dX4_tryMixOfThree_35 ?_
        refine G_iconst (v := 1) rfl K dX4_tryMixOfThree_37 ?_
        refine G_iadd K dX4_tryMixOfThree_38 ?_
        refine G_iconst (v := 3) rfl K dX4_tryMixOfThree_39 ?_
        refine G_irem (by decide) K dX4_tryMixOfThree_40 ?_
        refine G_istore K dX4_tryMixOfThree_41 (Nat.le_of_ble_eq_true rfl) rfl ?_
        refine G_iload 6 rfl K dX4_tryMixOfThree_43 ?_
        refine G_iconst (v := 2) rfl K dX4_tryMixOfThree_45 ?_
        refine G_iadd K dX4_tryMixOfThree_46 ?_
        refine G_iconst (v := 3) rfl K dX4_tryMixOfThree_47 ?_
        refine G_irem (by decide) K dX4_tryMixOfThree_48 ?_
        refine G_istore K dX4_tryMixOfThree_49 (Nat.le_of_ble_eq_true rfl) rfl ?_
        refine G_lload 6 rfl K dX4_tryMixOfThree_51 ?_
        refine G_aload_n rfl 2 rfl K dX4_tryMixOfThree_53 ?_
        refine G_get (ci := 4) (k := 1) K rfl in_X4 wd_283 rfl dX4_tryMixOfThree_54 (Nat.le_of_ble_eq_true rfl) (sh_68 _ _) (Nat.le_of_ble_eq_true rfl) rfl ?_
        refine G_iload_n rfl 4 rfl K dX4_tryMixOfThree_57 ?_
        refine G_iload 1 rfl K dX4_tryMixOfThree_58 ?_
        refine G_iadd K dX4_tryMixOfThree_60 ?_
        obtain ⟨r3, e3, h⟩ := wpO_bind h
        refine G_callVl (ci := 7) [.int (x2 + (irm (z.2 + 1) 3))] [.long z.1] K dX4_tryMixOfThree_61 wv_1102 yd_X7_at (Nat.le_of_ble_eq_true rfl) (sh_69 _ _) rfl (by decide) (by decide) rfl rfl (Nat.le_of_ble_eq_true rfl) (K_Row_at l g htr 69 70 9 isRow_69 (x2 + (irm (z.2 + 1) 3)) M _ e3) ?_
        refine G_aload_n rfl 2 rfl K dX4_tryMixOfThree_64 ?_
        refine G_get (ci := 4) (k := 1) K rfl in_X4 wd_283 rfl dX4_tryMixOfThree_65 (Nat.le_of_ble_eq_true rfl) (sh_68 _ _) (Nat.le_of_ble_eq_true rfl) rfl ?_
        refine G_iload_n rfl 5 rfl K dX4_tryMixOfThree_68 ?_
        refine G_iload 0 rfl K dX4_tryMixOfThree_69 ?_
        refine G_iadd K dX4_tryMixOfThree_71 ?_
        obtain ⟨r4, e4, h⟩ := wpO_bind h
        refine G_callVl (ci := 7) [.int (x3 + (irm (z.2 + 2) 3))] [.long r3, .long z.1] K dX4_tryMixOfThree_72 wv_1102 yd_X7_at (Nat.le_of_ble_eq_true rfl) (sh_69 _ _) rfl (by decide) (by decide) rfl rfl (Nat.le_of_ble_eq_true rfl) (K_Row_at l g htr 69 70 9 isRow_69 (x3 + (irm (z.2 + 2) 3)) M _ e4) ?_
        refine G_lmul K dX4_tryMixOfThree_75 ?_
        refine G_aload_n rfl 2 rfl K dX4_tryMixOfThree_76 ?_
        refine G_get (ci := 4) (k := 1) K rfl in_X4 wd_283 rfl dX4_tryMixOfThree_77 (Nat.le_of_ble_eq_true rfl) (sh_68 _ _) (Nat.le_of_ble_eq_true rfl) rfl ?_
        refine G_iload_n rfl 4 rfl K dX4_tryMixOfThree_80 ?_
        refine G_iload 0 rfl K dX4_tryMixOfThree_81 ?_
        refine G_iadd K dX4_tryMixOfThree_83 ?_
        obtain ⟨r5, e5, h⟩ := wpO_bind h
        refine G_callVl (ci := 7) [.int (x2 + (irm (z.2 + 2) 3))] [.long (r3 * r4), .long z.1] K dX4_tryMixOfThree_84 wv_1102 yd_X7_at (Nat.le_of_ble_eq_true rfl) (sh_69 _ _) rfl (by decide) (by decide) rfl rfl (Nat.le_of_ble_eq_true rfl) (K_Row_at l g htr 69 70 9 isRow_69 (x2 + (irm (z.2 + 2) 3)) M _ e5) ?_
        refine G_aload_n rfl 2 rfl K dX4_tryMixOfThree_87 ?_
        refine G_get (ci := 4) (k := 1) K rfl in_X4 wd_283 rfl dX4_tryMixOfThree_88 (Nat.le_of_ble_eq_true rfl) (sh_68 _ _) (Nat.le_of_ble_eq_true rfl) rfl ?_
        refine G_iload_n rfl 5 rfl K dX4_tryMixOfThree_91 ?_
        refine G_iload 1 rfl K dX4_tryMixOfThree_92 ?_
        refine G_iadd K dX4_tryMixOfThree_94 ?_
        obtain ⟨r6, e6, h⟩ := wpO_bind h
        refine G_callVl (ci := 7) [.int (x3 + (irm (z.2 + 1) 3))] [.long r5, .long (r3 * r4), .long z.1] K dX4_tryMixOfThree_95 wv_1102 yd_X7_at (Nat.le_of_ble_eq_true rfl) (sh_69 _ _) rfl (by decide) (by decide) rfl rfl (Nat.le_of_ble_eq_true rfl) (K_Row_at l g htr 69 70 9 isRow_69 (x3 + (irm (z.2 + 1) 3)) M _ e6) ?_
        refine G_lmul K dX4_tryMixOfThree_98 ?_
        refine G_lsub K dX4_tryMixOfThree_99 ?_
        refine G_ladd K dX4_tryMixOfThree_100 ?_
        refine G_lstore K dX4_tryMixOfThree_101 (Nat.le_of_ble_eq_true rfl) rfl ?_
        refine G_iinc (v := z.2 + 1) 7 rfl K dX4_tryMixOfThree_103 rfl (Nat.le_of_ble_eq_true rfl) rfl ?_
        refine G_goto (tgt := 29) K dX4_tryMixOfThree_106 (by decide) ?_
        exact G_lv (lv' := [(0, .ref (g.2.1 68)), (1, .int x1), (2, .int x2), (3, .int x3), (4, .long (z.1 + ((r3 * r4) - (r5 * r6)))), (6, .int (z.2 + 1))]) [4, 5, 6, 7, 1, 0] rfl (E29 (z.1 + ((r3 * r4) - (r5 * r6))) (z.2 + 1) (wpO_some h))
    intro z h
    unfold F_Day_tryMixOfThree_b2 at h
    refine G_iload_n rfl 1 rfl K dX4_tryMixOfThree_2 ?_
    refine G_iconst (v := 3) rfl K dX4_tryMixOfThree_3 ?_
    refine G_icmp_ge (tgt := 125) K dX4_tryMixOfThree_4 (by decide) (fun hc => ?_) (fun hc => ?_)
    · have h := wpO_t h hc
      have h := X2 _ (wpO_some h)
      try dsimp only at h
      exact G_lv (lv' := [(0, .ref (g.2.1 68))]) [0] rfl (J125 z.2 h)
    · have h := wpO_f h hc
      refine G_iconst (v := 3) rfl K dX4_tryMixOfThree_7 ?_
      refine G_iload_n rfl 1 rfl K dX4_tryMixOfThree_8 ?_
      refine G_iconst (v := 1) rfl K dX4_tryMixOfThree_9 ?_
      refine G_iadd K dX4_tryMixOfThree_10 ?_
      refine G_iconst (v := 3) rfl K dX4_tryMixOfThree_11 ?_
      refine G_irem (by decide) K dX4_tryMixOfThree_12 ?_
      refine G_imul K dX4_tryMixOfThree_13 ?_
      refine G_istore_n rfl K dX4_tryMixOfThree_14 (Nat.le_of_ble_eq_true rfl) rfl ?_
      refine G_iconst (v := 3) rfl K dX4_tryMixOfThree_15 ?_
      refine G_iload_n rfl 2 rfl K dX4_tryMixOfThree_16 ?_
      refine G_iconst (v := 2) rfl K dX4_tryMixOfThree_17 ?_
      refine G_iadd K dX4_tryMixOfThree_18 ?_
      refine G_iconst (v := 3) rfl K dX4_tryMixOfThree_19 ?_
      refine G_irem (by decide) K dX4_tryMixOfThree_20 ?_
      refine G_imul K dX4_tryMixOfThree_21 ?_
      refine G_istore_n rfl K dX4_tryMixOfThree_22 (Nat.le_of_ble_eq_true rfl) rfl ?_
      refine G_lconst (v := 0) rfl K dX4_tryMixOfThree_23 ?_
      refine G_lstore K dX4_tryMixOfThree_24 (Nat.le_of_ble_eq_true rfl) rfl ?_
      refine G_iconst (v := 0) rfl K dX4_tryMixOfThree_26 ?_
      refine G_istore K dX4_tryMixOfThree_27 (Nat.le_of_ble_eq_true rfl) rfl ?_
      exact G_lv (lv' := [(0, .ref (g.2.1 68)), (1, .int z.1), (2, .int (3 * (irm (z.1 + 1) 3))), (3, .int (3 * (irm (z.1 + 2) 3))), (4, .long 0), (6, .int 0)]) [4, 5, 3, 2, 1, 0] rfl (J29 z.1 (3 * (irm (z.1 + 1) 3)) (3 * (irm (z.1 + 2) 3)) 0 0 z.2 h)
  unfold F_Day_tryMixOfThree at h
  refine G_iconst (v := 0) rfl K dX4_tryMixOfThree_0 ?_
  refine G_istore_n rfl K dX4_tryMixOfThree_1 (Nat.le_of_ble_eq_true rfl) rfl ?_
  exact G_lv (lv' := [(0, .ref (g.2.1 68)), (1, .int 0)]) [1, 0] rfl (J2 0 M h)
theorem yd_X4_tryMixesOfTwo : ydN yX4_tryMixesOfTwo 2 := ⟨by decide, by decide, by decide +kernel⟩
theorem yd_X4_tryMixOfThree : ydN yX4_tryMixOfThree 0 := ⟨by decide, by decide, by decide +kernel⟩
theorem wv_1118 : wdV "KeptWell$Day" 90 yX5_be cX5_be 7 none := ⟨wd_1118, wd_970, wd_971, wd_13, wd_972⟩
theorem wv_1114 : wdV "KeptWell$Day" 87 yX4_tryMixOfThree cX4_tryMixOfThree 9 none := ⟨wd_1114, wd_1116, ws_X4_tryMixOfThree, wd_9, wd_1117⟩
theorem wv_1110 : wdV "KeptWell$Day" 83 yX4_tryMixesOfTwo cX4_tryMixesOfTwo 5 none := ⟨wd_1110, wd_1112, ws_X4_tryMixesOfTwo, wd_9, wd_1113⟩
def on_X4_tellLots : Nat := 0xb15a00b61d00b42a1900b42a2c5700b62a0700a0063500b42d00b42ac8ffa7010384eaffa70104845300b604151d2a1000a23500b42d00b42a0415043660041d5000b62a4c00b6091d0a1d2a3300a23500b42d00b42a1d3e031d00b5092ae0ffa70103844800b6853100b670061d6c061d1b2d00b42a1d0e00b42a2000a209101d3e03
theorem ob_X4_tellLots : OKB cX4_tellLots on_X4_tellLots 131 := ⟨by decide +kernel, by decide +kernel⟩
theorem dX4_tellLots_0 : dc cX4_tellLots 0 1 (.iconst 0) 1 := o_3 ob_X4_tellLots rfl rfl rfl
theorem dX4_tellLots_1 : dc cX4_tellLots 1 2 (.istore_n 3) 1 := o_62 ob_X4_tellLots rfl rfl rfl
theorem dX4_tellLots_2 : dc cX4_tellLots 2 3 (.iload_n 3) 1 := o_29 ob_X4_tellLots rfl rfl rfl
theorem dX4_tellLots_3 : dc cX4_tellLots 3 5 (.bipush 9) 2 := o_16 ob_X4_tellLots rfl rfl rfl rfl
theorem dX4_tellLots_5 : dc cX4_tellLots 5 8 (.if_icmp .ge 32) 3 := o_162 ob_X4_tellLots rfl rfl rfl rfl
theorem dX4_tellLots_8 : dc cX4_tellLots 8 9 (.aload_n 0) 1 := o_42 ob_X4_tellLots rfl rfl rfl
theorem dX4_tellLots_9 : dc cX4_tellLots 9 12 (.getfield 14) 3 := o_180 ob_X4_tellLots rfl rfl rfl rfl
theorem dX4_tellLots_12 : dc cX4_tellLots 12 13 (.iload_n 3) 1 := o_29 ob_X4_tellLots rfl rfl rfl
theorem dX4_tellLots_13 : dc cX4_tellLots 13 14 (.aload_n 0) 1 := o_42 ob_X4_tellLots rfl rfl rfl
theorem dX4_tellLots_14 : dc cX4_tellLots 14 17 (.getfield 45) 3 := o_180 ob_X4_tellLots rfl rfl rfl rfl
theorem dX4_tellLots_17 : dc cX4_tellLots 17 18 (.iload_n 1) 1 := o_27 ob_X4_tellLots rfl rfl rfl
theorem dX4_tellLots_18 : dc cX4_tellLots 18 19 (.iload_n 3) 1 := o_29 ob_X4_tellLots rfl rfl rfl
theorem dX4_tellLots_19 : dc cX4_tellLots 19 20 (.iconst 3) 1 := o_6 ob_X4_tellLots rfl rfl rfl
theorem dX4_tellLots_20 : dc cX4_tellLots 20 21 .idiv 1 := o_108 ob_X4_tellLots rfl rfl rfl
theorem dX4_tellLots_21 : dc cX4_tellLots 21 22 (.iload_n 3) 1 := o_29 ob_X4_tellLots rfl rfl rfl
theorem dX4_tellLots_22 : dc cX4_tellLots 22 23 (.iconst 3) 1 := o_6 ob_X4_tellLots rfl rfl rfl
theorem dX4_tellLots_23 : dc cX4_tellLots 23 24 .irem 1 := o_112 ob_X4_tellLots rfl rfl rfl
theorem dX4_tellLots_24 : dc cX4_tellLots 24 27 (.invokevirtual 49) 3 := o_182 ob_X4_tellLots rfl rfl rfl rfl
theorem dX4_tellLots_27 : dc cX4_tellLots 27 28 .i2l 1 := o_133 ob_X4_tellLots rfl rfl rfl
theorem dX4_tellLots_28 : dc cX4_tellLots 28 31 (.invokevirtual 72) 3 := o_182 ob_X4_tellLots rfl rfl rfl rfl
theorem dX4_tellLots_31 : dc cX4_tellLots 31 34 (.iinc 3 1) 3 := o_132 ob_X4_tellLots rfl rfl rfl rfl rfl
theorem dX4_tellLots_34 : dc cX4_tellLots 34 37 (.goto (-32)) 3 := o_167 ob_X4_tellLots rfl rfl rfl rfl
theorem dX4_tellLots_37 : dc cX4_tellLots 37 38 (.aload_n 0) 1 := o_42 ob_X4_tellLots rfl rfl rfl
theorem dX4_tellLots_38 : dc cX4_tellLots 38 39 (.lconst 0) 1 := o_9 ob_X4_tellLots rfl rfl rfl
theorem dX4_tellLots_39 : dc cX4_tellLots 39 42 (.putfield 29) 3 := o_181 ob_X4_tellLots rfl rfl rfl rfl
theorem dX4_tellLots_42 : dc cX4_tellLots 42 43 (.iconst 0) 1 := o_3 ob_X4_tellLots rfl rfl rfl
theorem dX4_tellLots_43 : dc cX4_tellLots 43 44 (.istore_n 3) 1 := o_62 ob_X4_tellLots rfl rfl rfl
theorem dX4_tellLots_44 : dc cX4_tellLots 44 45 (.iload_n 3) 1 := o_29 ob_X4_tellLots rfl rfl rfl
theorem dX4_tellLots_45 : dc cX4_tellLots 45 46 (.aload_n 0) 1 := o_42 ob_X4_tellLots rfl rfl rfl
theorem dX4_tellLots_46 : dc cX4_tellLots 46 49 (.getfield 45) 3 := o_180 ob_X4_tellLots rfl rfl rfl rfl
theorem dX4_tellLots_49 : dc cX4_tellLots 49 52 (.getfield 53) 3 := o_180 ob_X4_tellLots rfl rfl rfl rfl
theorem dX4_tellLots_52 : dc cX4_tellLots 52 55 (.if_icmp .ge 51) 3 := o_162 ob_X4_tellLots rfl rfl rfl rfl
theorem dX4_tellLots_55 : dc cX4_tellLots 55 56 (.aload_n 0) 1 := o_42 ob_X4_tellLots rfl rfl rfl
theorem dX4_tellLots_56 : dc cX4_tellLots 56 57 (.iload_n 3) 1 := o_29 ob_X4_tellLots rfl rfl rfl
theorem dX4_tellLots_57 : dc cX4_tellLots 57 58 (.lconst 1) 1 := o_10 ob_X4_tellLots rfl rfl rfl
theorem dX4_tellLots_58 : dc cX4_tellLots 58 59 (.iload_n 3) 1 := o_29 ob_X4_tellLots rfl rfl rfl
theorem dX4_tellLots_59 : dc cX4_tellLots 59 60 (.lconst 0) 1 := o_9 ob_X4_tellLots rfl rfl rfl
theorem dX4_tellLots_60 : dc cX4_tellLots 60 63 (.invokevirtual 76) 3 := o_182 ob_X4_tellLots rfl rfl rfl rfl
theorem dX4_tellLots_63 : dc cX4_tellLots 63 64 (.aload_n 0) 1 := o_42 ob_X4_tellLots rfl rfl rfl
theorem dX4_tellLots_64 : dc cX4_tellLots 64 67 (.invokevirtual 80) 3 := o_182 ob_X4_tellLots rfl rfl rfl rfl
theorem dX4_tellLots_67 : dc cX4_tellLots 67 68 (.iload_n 3) 1 := o_29 ob_X4_tellLots rfl rfl rfl
theorem dX4_tellLots_68 : dc cX4_tellLots 68 69 (.iconst 1) 1 := o_4 ob_X4_tellLots rfl rfl rfl
theorem dX4_tellLots_69 : dc cX4_tellLots 69 70 .iadd 1 := o_96 ob_X4_tellLots rfl rfl rfl
theorem dX4_tellLots_70 : dc cX4_tellLots 70 72 (.istore 4) 2 := o_54 ob_X4_tellLots rfl rfl rfl rfl
theorem dX4_tellLots_72 : dc cX4_tellLots 72 74 (.iload 4) 2 := o_21 ob_X4_tellLots rfl rfl rfl rfl
theorem dX4_tellLots_74 : dc cX4_tellLots 74 75 (.aload_n 0) 1 := o_42 ob_X4_tellLots rfl rfl rfl
theorem dX4_tellLots_75 : dc cX4_tellLots 75 78 (.getfield 45) 3 := o_180 ob_X4_tellLots rfl rfl rfl rfl
theorem dX4_tellLots_78 : dc cX4_tellLots 78 81 (.getfield 53) 3 := o_180 ob_X4_tellLots rfl rfl rfl rfl
theorem dX4_tellLots_81 : dc cX4_tellLots 81 84 (.if_icmp .ge 16) 3 := o_162 ob_X4_tellLots rfl rfl rfl rfl
theorem dX4_tellLots_84 : dc cX4_tellLots 84 85 (.aload_n 0) 1 := o_42 ob_X4_tellLots rfl rfl rfl
theorem dX4_tellLots_85 : dc cX4_tellLots 85 86 (.iload_n 3) 1 := o_29 ob_X4_tellLots rfl rfl rfl
theorem dX4_tellLots_86 : dc cX4_tellLots 86 88 (.iload 4) 2 := o_21 ob_X4_tellLots rfl rfl rfl rfl
theorem dX4_tellLots_88 : dc cX4_tellLots 88 91 (.invokevirtual 83) 3 := o_182 ob_X4_tellLots rfl rfl rfl rfl
theorem dX4_tellLots_91 : dc cX4_tellLots 91 94 (.iinc 4 1) 3 := o_132 ob_X4_tellLots rfl rfl rfl rfl rfl
theorem dX4_tellLots_94 : dc cX4_tellLots 94 97 (.goto (-22)) 3 := o_167 ob_X4_tellLots rfl rfl rfl rfl
theorem dX4_tellLots_97 : dc cX4_tellLots 97 100 (.iinc 3 1) 3 := o_132 ob_X4_tellLots rfl rfl rfl rfl rfl
theorem dX4_tellLots_100 : dc cX4_tellLots 100 103 (.goto (-56)) 3 := o_167 ob_X4_tellLots rfl rfl rfl rfl
theorem dX4_tellLots_103 : dc cX4_tellLots 103 104 (.aload_n 0) 1 := o_42 ob_X4_tellLots rfl rfl rfl
theorem dX4_tellLots_104 : dc cX4_tellLots 104 107 (.getfield 45) 3 := o_180 ob_X4_tellLots rfl rfl rfl rfl
theorem dX4_tellLots_107 : dc cX4_tellLots 107 110 (.getfield 53) 3 := o_180 ob_X4_tellLots rfl rfl rfl rfl
theorem dX4_tellLots_110 : dc cX4_tellLots 110 111 (.iconst 3) 1 := o_6 ob_X4_tellLots rfl rfl rfl
theorem dX4_tellLots_111 : dc cX4_tellLots 111 114 (.if_icmp .ne 7) 3 := o_160 ob_X4_tellLots rfl rfl rfl rfl
theorem dX4_tellLots_114 : dc cX4_tellLots 114 115 (.aload_n 0) 1 := o_42 ob_X4_tellLots rfl rfl rfl
theorem dX4_tellLots_115 : dc cX4_tellLots 115 118 (.invokevirtual 87) 3 := o_182 ob_X4_tellLots rfl rfl rfl rfl
theorem dX4_tellLots_118 : dc cX4_tellLots 118 119 (.aload_n 2) 1 := o_44 ob_X4_tellLots rfl rfl rfl
theorem dX4_tellLots_119 : dc cX4_tellLots 119 120 (.aload_n 0) 1 := o_42 ob_X4_tellLots rfl rfl rfl
theorem dX4_tellLots_120 : dc cX4_tellLots 120 123 (.getfield 25) 3 := o_180 ob_X4_tellLots rfl rfl rfl rfl
theorem dX4_tellLots_123 : dc cX4_tellLots 123 124 (.aload_n 0) 1 := o_42 ob_X4_tellLots rfl rfl rfl
theorem dX4_tellLots_124 : dc cX4_tellLots 124 127 (.getfield 29) 3 := o_180 ob_X4_tellLots rfl rfl rfl rfl
theorem dX4_tellLots_127 : dc cX4_tellLots 127 130 (.invokevirtual 90) 3 := o_182 ob_X4_tellLots rfl rfl rfl rfl
theorem dX4_tellLots_130 : dc cX4_tellLots 130 131 .return_ 1 := o_177 ob_X4_tellLots rfl rfl rfl
def F_Day_tellLots_j118 (o2 : Nat) (M : Mem) : Option (Mem) :=
  (F_Fraction_be o2 (M.2 68 3) (M.2 68 4) M).bind fun r1 => some r1
def F_Day_tellLots_j103 (o2 : Nat) (M : Mem) : Option (Mem) :=
  if (M.1 1 0) = 3 then (F_Day_tryMixOfThree M).bind fun r2 => F_Day_tellLots_j118 o2 r2 else F_Day_tellLots_j118 o2 M
def F_Day_tellLots_b72 (o2 : Nat) (x3 : Int32) (z : Int32 × Mem) : Option ((Int32 × Mem) ⊕ ((Mem))) :=
  if (z.2.1 1 0) ≤ z.1 then some (.inr z.2) else (F_Day_tryMixesOfTwo x3 z.1 z.2).bind fun r5 => some (.inl ((z.1 + 1, r5)))
def F_Day_tellLots_l72 (o2 : Nat) (x3 : Int32) (x4 : Int32) (M : Mem) : Option ((Int32 × Mem) ⊕ ((Mem))) :=
  (iter (F_Day_tellLots_b72 o2 x3) FUEL (x4, M)).bind fun r => some (.inl ((x3 + 1, r)))
def F_Day_tellLots_b44 (o2 : Nat) (z : Int32 × Mem) : Option ((Int32 × Mem) ⊕ ((Mem))) :=
  if (z.2.1 1 0) ≤ z.1 then some (.inr z.2) else (F_Day_setWeights z.1 1 z.1 0 z.2).bind fun r3 => (F_Day_tryMix r3).bind fun r4 => F_Day_tellLots_l72 o2 z.1 (z.1 + 1) r4
def F_Day_tellLots_l44 (o2 : Nat) (x3 : Int32) (M : Mem) : Option (Mem) :=
  (iter (F_Day_tellLots_b44 o2) FUEL (x3, M)).bind fun r => F_Day_tellLots_j103 o2 r
def F_Day_tellLots_b2 (o2 : Nat) (x1 : Int32) (z : Int32 × Mem) : Option ((Int32 × Mem) ⊕ ((Mem))) :=
  if 9 ≤ z.1 then some (.inr z.2) else (F_Well_bringsOwn x1 (z.1 / 3) (irm z.1 3) z.2).bind fun r6 => (F_Row_put 70 9 z.1 r6.toInt64 z.2).bind fun r7 => some (.inl ((z.1 + 1, r7)))
def F_Day_tellLots_l2 (o2 : Nat) (x1 : Int32) (x3 : Int32) (M : Mem) : Option (Mem) :=
  (iter (F_Day_tellLots_b2 o2 x1) FUEL (x3, M)).bind fun r => F_Day_tellLots_l44 o2 0 (mSL r 68 4 0)
def F_Day_tellLots (o2 : Nat) (x1 : Int32) (M : Mem) : Option (Mem) :=
  F_Day_tellLots_l2 o2 x1 0 M
set_option maxRecDepth 100000 in
set_option maxHeartbeats 4000000 in
theorem K_Day_tellLots (l : Launch) (g : GB) (htr : l.stackTraces = false) (o2 : Nat) (ho2 : isFrac o2) (x1 : Int32) (M : Mem) (MZ : Mem) (h : F_Day_tellLots o2 x1 M = some MZ) : CT l g yX4_tellLots (.code yX4_tellLots cX4_tellLots 5 none :: wAll) { frames := 4, cells := 0, slots := 0, locals := 101 } [.ref (g.2.1 68), .int x1, .ref (g.2.1 o2)] M (.inl none) MZ := by
  refine CT.of [(0, .ref (g.2.1 68)), (1, .int x1), (2, .ref (g.2.1 o2))] (by decide +kernel) (Nat.le_of_ble_eq_true rfl) rfl htr ?_
  intro p e s m args below meth c K hr ht
  skip
  obtain ⟨PHI, hPHI, h⟩ : ∃ PHI : Mem → Prop, (∀ a, PHI a → a = MZ) ∧ wpO (F_Day_tellLots o2 x1 M) PHI := ⟨fun a => a = MZ, fun _ h => h, _, h, rfl⟩
  have J118 : ∀ (M : Mem), wpO (F_Day_tellLots_j118 o2 M) PHI → GG p l e { frames := 4, cells := 0, slots := 0, locals := 101 } s m args below meth c g 5 (vx_MQ below (Qn g s.heap.size (.inl none) MZ) (QX g s.heap.size (.inl none) MZ) args s 0 0 (AS g s.heap.size)) 0 0 118 [(0, .ref (g.2.1 68)), (2, .ref (g.2.1 o2))] [] M := by
    intro M h
    unfold F_Day_tellLots_j118 at h
    refine G_aload_n rfl 1 rfl K dX4_tellLots_118 ?_
    refine G_aload_n rfl 0 rfl K dX4_tellLots_119 ?_
    refine G_get (ci := 4) (k := 3) K rfl in_X4 wd_285 rfl dX4_tellLots_120 (Nat.le_of_ble_eq_true rfl) (sh_68 _ _) (Nat.le_of_ble_eq_true rfl) rfl ?_
    refine G_aload_n rfl 0 rfl K dX4_tellLots_123 ?_
    refine G_get (ci := 4) (k := 4) K rfl in_X4 wd_286 rfl dX4_tellLots_124 (Nat.le_of_ble_eq_true rfl) (sh_68 _ _) (Nat.le_of_ble_eq_true rfl) rfl ?_
    obtain ⟨r1, e1, h⟩ := wpO_bind h
    refine G_callVv (ci := 5) [.long (M.2 68 3), .long (M.2 68 4)] [] K dX4_tellLots_127 wv_1118 yd_X5_be ho2.1 (ho2.2 _ _) rfl (by decide) (by decide) rfl rfl (Nat.le_of_ble_eq_true rfl) (K_Fraction_be l g htr o2 ho2 (M.2 68 3) (M.2 68 4) M _ e1) ?_
    cases hPHI _ (wpO_some h)
    exact G_vret K hr dX4_tellLots_130 (Nat.le_of_ble_eq_true rfl) (Nat.le_of_ble_eq_true rfl) ⟨rfl, rfl⟩
  have J103 : ∀ (M : Mem), wpO (F_Day_tellLots_j103 o2 M) PHI → GG p l e { frames := 4, cells := 0, slots := 0, locals := 101 } s m args below meth c g 5 (vx_MQ below (Qn g s.heap.size (.inl none) MZ) (QX g s.heap.size (.inl none) MZ) args s 0 0 (AS g s.heap.size)) 0 0 103 [(0, .ref (g.2.1 68)), (2, .ref (g.2.1 o2))] [] M := by
    intro M h
    unfold F_Day_tellLots_j103 at h
    refine G_aload_n rfl 0 rfl K dX4_tellLots_103 ?_
    refine G_get (ci := 4) (k := 0) K rfl in_X4 wd_282 rfl dX4_tellLots_104 (Nat.le_of_ble_eq_true rfl) (sh_68 _ _) (Nat.le_of_ble_eq_true rfl) rfl ?_
    refine G_get (ci := 10) (k := 0) K rfl in_X10 wd_57 rfl dX4_tellLots_107 (Nat.le_of_ble_eq_true rfl) (sh_1 _ _) (Nat.le_of_ble_eq_true rfl) rfl ?_
    refine G_iconst (v := 3) rfl K dX4_tellLots_110 ?_
    refine G_icmp_ne (tgt := 118) K dX4_tellLots_111 (by decide) (fun hc => ?_) (fun hc => ?_)
    · have h := wpO_f h hc
      exact J118 M h
    · have h := wpO_t h hc
      refine G_aload_n rfl 0 rfl K dX4_tellLots_114 ?_
      obtain ⟨r2, e2, h⟩ := wpO_bind h
      refine G_callVv (ci := 4) [] [] K dX4_tellLots_115 wv_1114 yd_X4_tryMixOfThree (Nat.le_of_ble_eq_true rfl) (sh_68 _ _) rfl (by decide) (by decide) rfl rfl (Nat.le_of_ble_eq_true rfl) (K_Day_tryMixOfThree l g htr  M _ e2) ?_
      exact J118 r2 h
  have J44 : ∀ (x3 : Int32) (M : Mem), wpO (F_Day_tellLots_l44 o2 x3 M) PHI → GG p l e { frames := 4, cells := 0, slots := 0, locals := 101 } s m args below meth c g 5 (vx_MQ below (Qn g s.heap.size (.inl none) MZ) (QX g s.heap.size (.inl none) MZ) args s 0 0 (AS g s.heap.size)) 0 0 44 [(0, .ref (g.2.1 68)), (2, .ref (g.2.1 o2)), (3, .int x3)] [] M := by
    intro x3 M h
    unfold F_Day_tellLots_l44 at h
    refine loop_C2 (G := fun (x3 : Int32) (M : Mem) => GG p l e { frames := 4, cells := 0, slots := 0, locals := 101 } s m args below meth c g 5 (vx_MQ below (Qn g s.heap.size (.inl none) MZ) (QX g s.heap.size (.inl none) MZ) args s 0 0 (AS g s.heap.size)) 0 0 44 [(0, .ref (g.2.1 68)), (2, .ref (g.2.1 o2)), (3, .int x3)] [] M) (body := F_Day_tellLots_b44 o2) ?_ FUEL _ _ (wpO_bind h)
    intro P44 E44 X44
    have J72 : ∀ (x3 : Int32) (x4 : Int32) (M : Mem), wpO (F_Day_tellLots_l72 o2 x3 x4 M) P44 → GG p l e { frames := 4, cells := 0, slots := 0, locals := 101 } s m args below meth c g 5 (vx_MQ below (Qn g s.heap.size (.inl none) MZ) (QX g s.heap.size (.inl none) MZ) args s 0 0 (AS g s.heap.size)) 0 0 72 [(0, .ref (g.2.1 68)), (2, .ref (g.2.1 o2)), (3, .int x3), (4, .int x4)] [] M := by
      intro x3 x4 M h
      unfold F_Day_tellLots_l72 at h
      refine loop_C2 (G := fun (x4 : Int32) (M : Mem) => GG p l e { frames := 4, cells := 0, slots := 0, locals := 101 } s m args below meth c g 5 (vx_MQ below (Qn g s.heap.size (.inl none) MZ) (QX g s.heap.size (.inl none) MZ) args s 0 0 (AS g s.heap.size)) 0 0 72 [(0, .ref (g.2.1 68)), (2, .ref (g.2.1 o2)), (3, .int x3), (4, .int x4)] [] M) (body := F_Day_tellLots_b72 o2 x3) ?_ FUEL _ _ (wpO_bind h)
      intro P72 E72 X72
      intro z h
      unfold F_Day_tellLots_b72 at h
      refine G_iload 3 rfl K dX4_tellLots_72 ?_
      refine G_aload_n rfl 0 rfl K dX4_tellLots_74 ?_
      refine G_get (ci := 4) (k := 0) K rfl in_X4 wd_282 rfl dX4_tellLots_75 (Nat.le_of_ble_eq_true rfl) (sh_68 _ _) (Nat.le_of_ble_eq_true rfl) rfl ?_
      refine G_get (ci := 10) (k := 0) K rfl in_X10 wd_57 rfl dX4_tellLots_78 (Nat.le_of_ble_eq_true rfl) (sh_1 _ _) (Nat.le_of_ble_eq_true rfl) rfl ?_
      refine G_icmp_ge (tgt := 97) K dX4_tellLots_81 (by decide) (fun hc => ?_) (fun hc => ?_)
      · have h := wpO_t h hc
        have h := X72 _ (wpO_some h)
        try dsimp only at h
        refine G_iinc (v := x3 + 1) 2 rfl K dX4_tellLots_97 rfl (Nat.le_of_ble_eq_true rfl) rfl ?_
        refine G_goto (tgt := 44) K dX4_tellLots_100 (by decide) ?_
        exact G_lv (lv' := [(0, .ref (g.2.1 68)), (2, .ref (g.2.1 o2)), (3, .int (x3 + 1))]) [1, 2, 0] rfl (E44 (x3 + 1) z.2 (wpO_some h))
      · have h := wpO_f h hc
        refine G_aload_n rfl 0 rfl K dX4_tellLots_84 ?_
        refine G_iload_n rfl 2 rfl K dX4_tellLots_85 ?_
        refine G_iload 3 rfl K dX4_tellLots_86 ?_
        obtain ⟨r5, e5, h⟩ := wpO_bind h
        refine G_callVv (ci := 4) [.int x3, .int z.1] [] K dX4_tellLots_88 wv_1110 yd_X4_tryMixesOfTwo (Nat.le_of_ble_eq_true rfl) (sh_68 _ _) rfl (by decide) (by decide) rfl rfl (Nat.le_of_ble_eq_true rfl) (K_Day_tryMixesOfTwo l g htr x3 z.1 z.2 _ e5) ?_
        refine G_iinc (v := z.1 + 1) 3 rfl K dX4_tellLots_91 rfl (Nat.le_of_ble_eq_true rfl) rfl ?_
        refine G_goto (tgt := 72) K dX4_tellLots_94 (by decide) ?_
        exact G_lv (lv' := [(0, .ref (g.2.1 68)), (2, .ref (g.2.1 o2)), (3, .int x3), (4, .int (z.1 + 1))]) [1, 2, 3, 0] rfl (E72 (z.1 + 1) r5 (wpO_some h))
    intro z h
    unfold F_Day_tellLots_b44 at h
    refine G_iload_n rfl 2 rfl K dX4_tellLots_44 ?_
    refine G_aload_n rfl 0 rfl K dX4_tellLots_45 ?_
    refine G_get (ci := 4) (k := 0) K rfl in_X4 wd_282 rfl dX4_tellLots_46 (Nat.le_of_ble_eq_true rfl) (sh_68 _ _) (Nat.le_of_ble_eq_true rfl) rfl ?_
    refine G_get (ci := 10) (k := 0) K rfl in_X10 wd_57 rfl dX4_tellLots_49 (Nat.le_of_ble_eq_true rfl) (sh_1 _ _) (Nat.le_of_ble_eq_true rfl) rfl ?_
    refine G_icmp_ge (tgt := 103) K dX4_tellLots_52 (by decide) (fun hc => ?_) (fun hc => ?_)
    · have h := wpO_t h hc
      have h := X44 _ (wpO_some h)
      try dsimp only at h
      exact G_lv (lv' := [(0, .ref (g.2.1 68)), (2, .ref (g.2.1 o2))]) [0, 1] rfl (J103 z.2 h)
    · have h := wpO_f h hc
      refine G_aload_n rfl 0 rfl K dX4_tellLots_55 ?_
      refine G_iload_n rfl 2 rfl K dX4_tellLots_56 ?_
      refine G_lconst (v := 1) rfl K dX4_tellLots_57 ?_
      refine G_iload_n rfl 2 rfl K dX4_tellLots_58 ?_
      refine G_lconst (v := 0) rfl K dX4_tellLots_59 ?_
      obtain ⟨r3, e3, h⟩ := wpO_bind h
      refine G_callVv (ci := 4) [.int z.1, .long 1, .int z.1, .long 0] [] K dX4_tellLots_60 wv_1088 yd_X4_setWeights (Nat.le_of_ble_eq_true rfl) (sh_68 _ _) rfl (by decide) (by decide) rfl rfl (Nat.le_of_ble_eq_true rfl) (K_Day_setWeights l g htr z.1 1 z.1 0 z.2 _ e3) ?_
      refine G_aload_n rfl 0 rfl K dX4_tellLots_63 ?_
      obtain ⟨r4, e4, h⟩ := wpO_bind h
      refine G_callVv (ci := 4) [] [] K dX4_tellLots_64 wv_1098 yd_X4_tryMix (Nat.le_of_ble_eq_true rfl) (sh_68 _ _) rfl (by decide) (by decide) rfl rfl (Nat.le_of_ble_eq_true rfl) (K_Day_tryMix l g htr  r3 _ e4) ?_
      refine G_iload_n rfl 2 rfl K dX4_tellLots_67 ?_
      refine G_iconst (v := 1) rfl K dX4_tellLots_68 ?_
      refine G_iadd K dX4_tellLots_69 ?_
      refine G_istore K dX4_tellLots_70 (Nat.le_of_ble_eq_true rfl) rfl ?_
      exact G_lv (lv' := [(0, .ref (g.2.1 68)), (2, .ref (g.2.1 o2)), (3, .int z.1), (4, .int (z.1 + 1))]) [1, 2, 3, 0] rfl (J72 z.1 (z.1 + 1) r4 h)
  have J2 : ∀ (x1 : Int32) (x3 : Int32) (M : Mem), wpO (F_Day_tellLots_l2 o2 x1 x3 M) PHI → GG p l e { frames := 4, cells := 0, slots := 0, locals := 101 } s m args below meth c g 5 (vx_MQ below (Qn g s.heap.size (.inl none) MZ) (QX g s.heap.size (.inl none) MZ) args s 0 0 (AS g s.heap.size)) 0 0 2 [(0, .ref (g.2.1 68)), (1, .int x1), (2, .ref (g.2.1 o2)), (3, .int x3)] [] M := by
    intro x1 x3 M h
    unfold F_Day_tellLots_l2 at h
    refine loop_C2 (G := fun (x3 : Int32) (M : Mem) => GG p l e { frames := 4, cells := 0, slots := 0, locals := 101 } s m args below meth c g 5 (vx_MQ below (Qn g s.heap.size (.inl none) MZ) (QX g s.heap.size (.inl none) MZ) args s 0 0 (AS g s.heap.size)) 0 0 2 [(0, .ref (g.2.1 68)), (1, .int x1), (2, .ref (g.2.1 o2)), (3, .int x3)] [] M) (body := F_Day_tellLots_b2 o2 x1) ?_ FUEL _ _ (wpO_bind h)
    intro P2 E2 X2
    intro z h
    unfold F_Day_tellLots_b2 at h
    refine G_iload_n rfl 3 rfl K dX4_tellLots_2 ?_
    refine G_bipush (v := 9) rfl K dX4_tellLots_3 ?_
    refine G_icmp_ge (tgt := 37) K dX4_tellLots_5 (by decide) (fun hc => ?_) (fun hc => ?_)
    · have h := wpO_t h hc
      have h := X2 _ (wpO_some h)
      try dsimp only at h
      refine G_aload_n rfl 0 rfl K dX4_tellLots_37 ?_
      refine G_lconst (v := 0) rfl K dX4_tellLots_38 ?_
      refine G_putL (ci := 4) (k := 4) (ty := .long) K rfl in_X4 tyX4 tyX4_ok nmX4 wd_286 rfl rfl rfl rfl rfl dX4_tellLots_39 (Nat.le_of_ble_eq_true rfl) (sh_68 _ _) (sh_68 _ _) (Nat.le_of_ble_eq_true rfl) (Nat.le_of_ble_eq_true rfl) rfl ?_
      refine G_iconst (v := 0) rfl K dX4_tellLots_42 ?_
      refine G_istore_n rfl K dX4_tellLots_43 (Nat.le_of_ble_eq_true rfl) rfl ?_
      exact G_lv (lv' := [(0, .ref (g.2.1 68)), (2, .ref (g.2.1 o2)), (3, .int 0)]) [1, 3, 0] rfl (J44 0 (mSL z.2 68 4 0) h)
    · have h := wpO_f h hc
      refine G_aload_n rfl 0 rfl K dX4_tellLots_8 ?_
      refine G_get (ci := 4) (k := 1) K rfl in_X4 wd_283 rfl dX4_tellLots_9 (Nat.le_of_ble_eq_true rfl) (sh_68 _ _) (Nat.le_of_ble_eq_true rfl) rfl ?_
      refine G_iload_n rfl 3 rfl K dX4_tellLots_12 ?_
      refine G_aload_n rfl 0 rfl K dX4_tellLots_13 ?_
      refine G_get (ci := 4) (k := 0) K rfl in_X4 wd_282 rfl dX4_tellLots_14 (Nat.le_of_ble_eq_true rfl) (sh_68 _ _) (Nat.le_of_ble_eq_true rfl) rfl ?_
      refine G_iload_n rfl 1 rfl K dX4_tellLots_17 ?_
      refine G_iload_n rfl 3 rfl K dX4_tellLots_18 ?_
      refine G_iconst (v := 3) rfl K dX4_tellLots_19 ?_
      refine G_idiv (by decide) K dX4_tellLots_20 ?_
      refine G_iload_n rfl 3 rfl K dX4_tellLots_21 ?_
      refine G_iconst (v := 3) rfl K dX4_tellLots_22 ?_
      refine G_irem (by decide) K dX4_tellLots_23 ?_
      obtain ⟨r6, e6, h⟩ := wpO_bind h
      refine G_callVi (ci := 10) [.int x1, .int (z.1 / 3), .int (irm z.1 3)] [.int z.1, .ref (g.2.1 69)] K dX4_tellLots_24 wv_577 yd_X10_bringsOwn (Nat.le_of_ble_eq_true rfl) (sh_1 _ _) rfl (by decide) (by decide) rfl rfl (Nat.le_of_ble_eq_true rfl) (K_Well_bringsOwn l g htr x1 (z.1 / 3) (irm z.1 3) z.2 _ e6) ?_
      refine G_i2l K dX4_tellLots_27 ?_
      obtain ⟨r7, e7, h⟩ := wpO_bind h
      refine G_callVv (ci := 7) [.int z.1, .long r6.toInt64] [] K dX4_tellLots_28 wv_606 yd_X7_put (Nat.le_of_ble_eq_true rfl) (sh_69 _ _) rfl (by decide) (by decide) rfl rfl (Nat.le_of_ble_eq_true rfl) (K_Row_put l g htr 69 70 9 isRow_69 z.1 r6.toInt64 z.2 _ e7) ?_
      refine G_iinc (v := z.1 + 1) 3 rfl K dX4_tellLots_31 rfl (Nat.le_of_ble_eq_true rfl) rfl ?_
      refine G_goto (tgt := 2) K dX4_tellLots_34 (by decide) ?_
      exact G_lv (lv' := [(0, .ref (g.2.1 68)), (1, .int x1), (2, .ref (g.2.1 o2)), (3, .int (z.1 + 1))]) [1, 2, 3, 0] rfl (E2 (z.1 + 1) r7 (wpO_some h))
  unfold F_Day_tellLots at h
  refine G_iconst (v := 0) rfl K dX4_tellLots_0 ?_
  refine G_istore_n rfl K dX4_tellLots_1 (Nat.le_of_ble_eq_true rfl) rfl ?_
  exact G_lv (lv' := [(0, .ref (g.2.1 68)), (1, .int x1), (2, .ref (g.2.1 o2)), (3, .int 0)]) [1, 2, 3, 0] rfl (J2 x1 0 M h)
def on_X4_isPoint : Nat := 0xac030400a7040700a23500b42d00b42a70061b1400a23500b42d00b42a6c061b
theorem ob_X4_isPoint : OKB cX4_isPoint on_X4_isPoint 32 := ⟨by decide +kernel, by decide +kernel⟩
theorem dX4_isPoint_0 : dc cX4_isPoint 0 1 (.iload_n 1) 1 := o_27 ob_X4_isPoint rfl rfl rfl
theorem dX4_isPoint_1 : dc cX4_isPoint 1 2 (.iconst 3) 1 := o_6 ob_X4_isPoint rfl rfl rfl
theorem dX4_isPoint_2 : dc cX4_isPoint 2 3 .idiv 1 := o_108 ob_X4_isPoint rfl rfl rfl
theorem dX4_isPoint_3 : dc cX4_isPoint 3 4 (.aload_n 0) 1 := o_42 ob_X4_isPoint rfl rfl rfl
theorem dX4_isPoint_4 : dc cX4_isPoint 4 7 (.getfield 45) 3 := o_180 ob_X4_isPoint rfl rfl rfl rfl
theorem dX4_isPoint_7 : dc cX4_isPoint 7 10 (.getfield 53) 3 := o_180 ob_X4_isPoint rfl rfl rfl rfl
theorem dX4_isPoint_10 : dc cX4_isPoint 10 13 (.if_icmp .ge 20) 3 := o_162 ob_X4_isPoint rfl rfl rfl rfl
theorem dX4_isPoint_13 : dc cX4_isPoint 13 14 (.iload_n 1) 1 := o_27 ob_X4_isPoint rfl rfl rfl
theorem dX4_isPoint_14 : dc cX4_isPoint 14 15 (.iconst 3) 1 := o_6 ob_X4_isPoint rfl rfl rfl
theorem dX4_isPoint_15 : dc cX4_isPoint 15 16 .irem 1 := o_112 ob_X4_isPoint rfl rfl rfl
theorem dX4_isPoint_16 : dc cX4_isPoint 16 17 (.aload_n 0) 1 := o_42 ob_X4_isPoint rfl rfl rfl
theorem dX4_isPoint_17 : dc cX4_isPoint 17 20 (.getfield 45) 3 := o_180 ob_X4_isPoint rfl rfl rfl rfl
theorem dX4_isPoint_20 : dc cX4_isPoint 20 23 (.getfield 53) 3 := o_180 ob_X4_isPoint rfl rfl rfl rfl
theorem dX4_isPoint_23 : dc cX4_isPoint 23 26 (.if_icmp .ge 7) 3 := o_162 ob_X4_isPoint rfl rfl rfl rfl
theorem dX4_isPoint_26 : dc cX4_isPoint 26 27 (.iconst 1) 1 := o_4 ob_X4_isPoint rfl rfl rfl
theorem dX4_isPoint_27 : dc cX4_isPoint 27 30 (.goto 4) 3 := o_167 ob_X4_isPoint rfl rfl rfl rfl
theorem dX4_isPoint_30 : dc cX4_isPoint 30 31 (.iconst 0) 1 := o_3 ob_X4_isPoint rfl rfl rfl
theorem dX4_isPoint_31 : dc cX4_isPoint 31 32 .ireturn 1 := o_172 ob_X4_isPoint rfl rfl rfl
def F_Day_isPoint (x1 : Int32) (M : Mem) : Option (Bool) :=
  if (M.1 1 0) ≤ (x1 / 3) then some false else if (M.1 1 0) ≤ (irm x1 3) then some false else some true
set_option maxRecDepth 100000 in
set_option maxHeartbeats 4000000 in
theorem K_Day_isPoint (l : Launch) (g : GB) (htr : l.stackTraces = false) (x1 : Int32) (M : Mem) (rr : Bool) (h : F_Day_isPoint x1 M = some rr) : CT l g yX4_isPoint (.code yX4_isPoint cX4_isPoint 2 (some .boolean) :: wAll) { frames := 0, cells := 0, slots := 0, locals := 0 } [.ref (g.2.1 68), .int x1] M (.inl (some (.int (b2i rr)))) M := by
  refine CT.of [(0, .ref (g.2.1 68)), (1, .int x1)] (by decide +kernel) (Nat.le_of_ble_eq_true rfl) rfl htr ?_
  intro p e s m args below meth c K hr ht
  skip
  obtain ⟨PHI, hPHI, h⟩ : ∃ PHI : Bool → Prop, (∀ a, PHI a → a = rr) ∧ wpO (F_Day_isPoint x1 M) PHI := ⟨fun a => a = rr, fun _ h => h, _, h, rfl⟩
  unfold F_Day_isPoint at h
  refine G_iload_n rfl 1 rfl K dX4_isPoint_0 ?_
  refine G_iconst (v := 3) rfl K dX4_isPoint_1 ?_
  refine G_idiv (by decide) K dX4_isPoint_2 ?_
  refine G_aload_n rfl 0 rfl K dX4_isPoint_3 ?_
  refine G_get (ci := 4) (k := 0) K rfl in_X4 wd_282 rfl dX4_isPoint_4 (Nat.le_of_ble_eq_true rfl) (sh_68 _ _) (Nat.le_of_ble_eq_true rfl) rfl ?_
  refine G_get (ci := 10) (k := 0) K rfl in_X10 wd_57 rfl dX4_isPoint_7 (Nat.le_of_ble_eq_true rfl) (sh_1 _ _) (Nat.le_of_ble_eq_true rfl) rfl ?_
  refine G_icmp_ge (tgt := 30) K dX4_isPoint_10 (by decide) (fun hc => ?_) (fun hc => ?_)
  · have h := wpO_t h hc
    refine G_iconst (v := 0) rfl K dX4_isPoint_30 ?_
    cases hPHI _ (wpO_some h)
    exact G_iret K hr rfl dX4_isPoint_31 (Nat.le_of_ble_eq_true rfl) (Nat.le_of_ble_eq_true rfl) ⟨rfl, rfl⟩
  · have h := wpO_f h hc
    refine G_iload_n rfl 1 rfl K dX4_isPoint_13 ?_
    refine G_iconst (v := 3) rfl K dX4_isPoint_14 ?_
    refine G_irem (by decide) K dX4_isPoint_15 ?_
    refine G_aload_n rfl 0 rfl K dX4_isPoint_16 ?_
    refine G_get (ci := 4) (k := 0) K rfl in_X4 wd_282 rfl dX4_isPoint_17 (Nat.le_of_ble_eq_true rfl) (sh_68 _ _) (Nat.le_of_ble_eq_true rfl) rfl ?_
    refine G_get (ci := 10) (k := 0) K rfl in_X10 wd_57 rfl dX4_isPoint_20 (Nat.le_of_ble_eq_true rfl) (sh_1 _ _) (Nat.le_of_ble_eq_true rfl) rfl ?_
    refine G_icmp_ge (tgt := 30) K dX4_isPoint_23 (by decide) (fun hc => ?_) (fun hc => ?_)
    · have h := wpO_t h hc
      refine G_iconst (v := 0) rfl K dX4_isPoint_30 ?_
      cases hPHI _ (wpO_some h)
      exact G_iret K hr rfl dX4_isPoint_31 (Nat.le_of_ble_eq_true rfl) (Nat.le_of_ble_eq_true rfl) ⟨rfl, rfl⟩
    · have h := wpO_f h hc
      refine G_iconst (v := 1) rfl K dX4_isPoint_26 ?_
      refine G_goto (tgt := 31) K dX4_isPoint_27 (by decide) ?_
      cases hPHI _ (wpO_some h)
      exact G_iret K hr rfl dX4_isPoint_31 (Nat.le_of_ble_eq_true rfl) (Nat.le_of_ble_eq_true rfl) ⟨rfl, rfl⟩
def on_X4_across : Nat := 0xac4500b670061b6c061b032d00b42a
theorem ob_X4_across : OKB cX4_across on_X4_across 15 := ⟨by decide +kernel, by decide +kernel⟩
theorem dX4_across_0 : dc cX4_across 0 1 (.aload_n 0) 1 := o_42 ob_X4_across rfl rfl rfl
theorem dX4_across_1 : dc cX4_across 1 4 (.getfield 45) 3 := o_180 ob_X4_across rfl rfl rfl rfl
theorem dX4_across_4 : dc cX4_across 4 5 (.iconst 0) 1 := o_3 ob_X4_across rfl rfl rfl
theorem dX4_across_5 : dc cX4_across 5 6 (.iload_n 1) 1 := o_27 ob_X4_across rfl rfl rfl
theorem dX4_across_6 : dc cX4_across 6 7 (.iconst 3) 1 := o_6 ob_X4_across rfl rfl rfl
theorem dX4_across_7 : dc cX4_across 7 8 .idiv 1 := o_108 ob_X4_across rfl rfl rfl
theorem dX4_across_8 : dc cX4_across 8 9 (.iload_n 1) 1 := o_27 ob_X4_across rfl rfl rfl
theorem dX4_across_9 : dc cX4_across 9 10 (.iconst 3) 1 := o_6 ob_X4_across rfl rfl rfl
theorem dX4_across_10 : dc cX4_across 10 11 .irem 1 := o_112 ob_X4_across rfl rfl rfl
theorem dX4_across_11 : dc cX4_across 11 14 (.invokevirtual 69) 3 := o_182 ob_X4_across rfl rfl rfl rfl
theorem dX4_across_14 : dc cX4_across 14 15 .ireturn 1 := o_172 ob_X4_across rfl rfl rfl
def F_Day_across (x1 : Int32) (M : Mem) : Option (Int32) :=
  (F_Well_bringsTo 0 (x1 / 3) (irm x1 3) M).bind fun r1 => some r1
set_option maxRecDepth 100000 in
set_option maxHeartbeats 4000000 in
theorem K_Day_across (l : Launch) (g : GB) (htr : l.stackTraces = false) (x1 : Int32) (M : Mem) (rr : Int32) (h : F_Day_across x1 M = some rr) : CT l g yX4_across (.code yX4_across cX4_across 2 (some .int) :: wAll) { frames := 2, cells := 0, slots := 0, locals := 44 } [.ref (g.2.1 68), .int x1] M (.inl (some (.int rr))) M := by
  refine CT.of [(0, .ref (g.2.1 68)), (1, .int x1)] (by decide +kernel) (Nat.le_of_ble_eq_true rfl) rfl htr ?_
  intro p e s m args below meth c K hr ht
  skip
  obtain ⟨PHI, hPHI, h⟩ : ∃ PHI : Int32 → Prop, (∀ a, PHI a → a = rr) ∧ wpO (F_Day_across x1 M) PHI := ⟨fun a => a = rr, fun _ h => h, _, h, rfl⟩
  unfold F_Day_across at h
  refine G_aload_n rfl 0 rfl K dX4_across_0 ?_
  refine G_get (ci := 4) (k := 0) K rfl in_X4 wd_282 rfl dX4_across_1 (Nat.le_of_ble_eq_true rfl) (sh_68 _ _) (Nat.le_of_ble_eq_true rfl) rfl ?_
  refine G_iconst (v := 0) rfl K dX4_across_4 ?_
  refine G_iload_n rfl 1 rfl K dX4_across_5 ?_
  refine G_iconst (v := 3) rfl K dX4_across_6 ?_
  refine G_idiv (by decide) K dX4_across_7 ?_
  refine G_iload_n rfl 1 rfl K dX4_across_8 ?_
  refine G_iconst (v := 3) rfl K dX4_across_9 ?_
  refine G_irem (by decide) K dX4_across_10 ?_
  obtain ⟨r1, e1, h⟩ := wpO_bind h
  refine G_callVi (ci := 10) [.int 0, .int (x1 / 3), .int (irm x1 3)] [] K dX4_across_11 wv_572 yd_X10_bringsTo (Nat.le_of_ble_eq_true rfl) (sh_1 _ _) rfl (by decide) (by decide) rfl rfl (Nat.le_of_ble_eq_true rfl) (K_Well_bringsTo l g htr 0 (x1 / 3) (irm x1 3) M _ e1) ?_
  cases hPHI _ (wpO_some h)
  exact G_iret K hr rfl dX4_across_14 (Nat.le_of_ble_eq_true rfl) (Nat.le_of_ble_eq_true rfl) ⟨rfl, rfl⟩
def on_X4_up : Nat := 0xac4500b670061b6c061b042d00b42a
theorem ob_X4_up : OKB cX4_up on_X4_up 15 := ⟨by decide +kernel, by decide +kernel⟩
theorem dX4_up_0 : dc cX4_up 0 1 (.aload_n 0) 1 := o_42 ob_X4_up rfl rfl rfl
theorem dX4_up_1 : dc cX4_up 1 4 (.getfield 45) 3 := o_180 ob_X4_up rfl rfl rfl rfl
theorem dX4_up_4 : dc cX4_up 4 5 (.iconst 1) 1 := o_4 ob_X4_up rfl rfl rfl
theorem dX4_up_5 : dc cX4_up 5 6 (.iload_n 1) 1 := o_27 ob_X4_up rfl rfl rfl
theorem dX4_up_6 : dc cX4_up 6 7 (.iconst 3) 1 := o_6 ob_X4_up rfl rfl rfl
theorem dX4_up_7 : dc cX4_up 7 8 .idiv 1 := o_108 ob_X4_up rfl rfl rfl
theorem dX4_up_8 : dc cX4_up 8 9 (.iload_n 1) 1 := o_27 ob_X4_up rfl rfl rfl
theorem dX4_up_9 : dc cX4_up 9 10 (.iconst 3) 1 := o_6 ob_X4_up rfl rfl rfl
theorem dX4_up_10 : dc cX4_up 10 11 .irem 1 := o_112 ob_X4_up rfl rfl rfl
theorem dX4_up_11 : dc cX4_up 11 14 (.invokevirtual 69) 3 := o_182 ob_X4_up rfl rfl rfl rfl
theorem dX4_up_14 : dc cX4_up 14 15 .ireturn 1 := o_172 ob_X4_up rfl rfl rfl
def F_Day_up (x1 : Int32) (M : Mem) : Option (Int32) :=
  (F_Well_bringsTo 1 (x1 / 3) (irm x1 3) M).bind fun r1 => some r1
set_option maxRecDepth 100000 in
set_option maxHeartbeats 4000000 in
theorem K_Day_up (l : Launch) (g : GB) (htr : l.stackTraces = false) (x1 : Int32) (M : Mem) (rr : Int32) (h : F_Day_up x1 M = some rr) : CT l g yX4_up (.code yX4_up cX4_up 2 (some .int) :: wAll) { frames := 2, cells := 0, slots := 0, locals := 44 } [.ref (g.2.1 68), .int x1] M (.inl (some (.int rr))) M := by
  refine CT.of [(0, .ref (g.2.1 68)), (1, .int x1)] (by decide +kernel) (Nat.le_of_ble_eq_true rfl) rfl htr ?_
  intro p e s m args below meth c K hr ht
  skip
  obtain ⟨PHI, hPHI, h⟩ : ∃ PHI : Int32 → Prop, (∀ a, PHI a → a = rr) ∧ wpO (F_Day_up x1 M) PHI := ⟨fun a => a = rr, fun _ h => h, _, h, rfl⟩
  unfold F_Day_up at h
  refine G_aload_n rfl 0 rfl K dX4_up_0 ?_
  refine G_get (ci := 4) (k := 0) K rfl in_X4 wd_282 rfl dX4_up_1 (Nat.le_of_ble_eq_true rfl) (sh_68 _ _) (Nat.le_of_ble_eq_true rfl) rfl ?_
  refine G_iconst (v := 1) rfl K dX4_up_4 ?_
  refine G_iload_n rfl 1 rfl K dX4_up_5 ?_
  refine G_iconst (v := 3) rfl K dX4_up_6 ?_
  refine G_idiv (by decide) K dX4_up_7 ?_
  refine G_iload_n rfl 1 rfl K dX4_up_8 ?_
  refine G_iconst (v := 3) rfl K dX4_up_9 ?_
  refine G_irem (by decide) K dX4_up_10 ?_
  obtain ⟨r1, e1, h⟩ := wpO_bind h
  refine G_callVi (ci := 10) [.int 1, .int (x1 / 3), .int (irm x1 3)] [] K dX4_up_11 wv_572 yd_X10_bringsTo (Nat.le_of_ble_eq_true rfl) (sh_1 _ _) rfl (by decide) (by decide) rfl rfl (Nat.le_of_ble_eq_true rfl) (K_Well_bringsTo l g htr 1 (x1 / 3) (irm x1 3) M _ e1) ?_
  cases hPHI _ (wpO_some h)
  exact G_iret K hr rfl dX4_up_14 (Nat.le_of_ble_eq_true rfl) (Nat.le_of_ble_eq_true rfl) ⟨rfl, rfl⟩
theorem yd_X4_isPoint : ydN yX4_isPoint 1 := ⟨by decide, by decide, by decide +kernel⟩
theorem yd_X4_up : ydN yX4_up 1 := ⟨by decide, by decide, by decide +kernel⟩
theorem yd_X4_across : ydN yX4_across 1 := ⟨by decide, by decide, by decide +kernel⟩
theorem wv_594 : wdV "KeptWell$Day" 127 yX4_isPoint cX4_isPoint 2 (some .boolean) := ⟨wd_594, wd_596, ws_X4_isPoint, wd_9, wd_597⟩
theorem wv_598 : wdV "KeptWell$Day" 118 yX4_across cX4_across 2 (some .int) := ⟨wd_598, wd_600, ws_X4_across, wd_9, wd_601⟩
theorem wv_602 : wdV "KeptWell$Day" 121 yX4_up cX4_up 2 (some .int) := ⟨wd_602, wd_604, ws_X4_up, wd_9, wd_605⟩
def on_X4_firstCorner : Nat := 0xac1bc6ffa70102843c1c0500a27900b61b2a7900b61c2a1200a07600b61b2a7600b61c2a1d00a17600b61b2a7600b61c2a2c00997f00b61c2a3a00a209101c3d043c03
theorem ob_X4_firstCorner : OKB cX4_firstCorner on_X4_firstCorner 67 := ⟨by decide +kernel, by decide +kernel⟩
theorem dX4_firstCorner_0 : dc cX4_firstCorner 0 1 (.iconst 0) 1 := o_3 ob_X4_firstCorner rfl rfl rfl
theorem dX4_firstCorner_1 : dc cX4_firstCorner 1 2 (.istore_n 1) 1 := o_60 ob_X4_firstCorner rfl rfl rfl
theorem dX4_firstCorner_2 : dc cX4_firstCorner 2 3 (.iconst 1) 1 := o_4 ob_X4_firstCorner rfl rfl rfl
theorem dX4_firstCorner_3 : dc cX4_firstCorner 3 4 (.istore_n 2) 1 := o_61 ob_X4_firstCorner rfl rfl rfl
theorem dX4_firstCorner_4 : dc cX4_firstCorner 4 5 (.iload_n 2) 1 := o_28 ob_X4_firstCorner rfl rfl rfl
theorem dX4_firstCorner_5 : dc cX4_firstCorner 5 7 (.bipush 9) 2 := o_16 ob_X4_firstCorner rfl rfl rfl rfl
theorem dX4_firstCorner_7 : dc cX4_firstCorner 7 10 (.if_icmp .ge 58) 3 := o_162 ob_X4_firstCorner rfl rfl rfl rfl
theorem dX4_firstCorner_10 : dc cX4_firstCorner 10 11 (.aload_n 0) 1 := o_42 ob_X4_firstCorner rfl rfl rfl
theorem dX4_firstCorner_11 : dc cX4_firstCorner 11 12 (.iload_n 2) 1 := o_28 ob_X4_firstCorner rfl rfl rfl
theorem dX4_firstCorner_12 : dc cX4_firstCorner 12 15 (.invokevirtual 127) 3 := o_182 ob_X4_firstCorner rfl rfl rfl rfl
theorem dX4_firstCorner_15 : dc cX4_firstCorner 15 18 (.ifCond .eq 44) 3 := o_153 ob_X4_firstCorner rfl rfl rfl rfl
theorem dX4_firstCorner_18 : dc cX4_firstCorner 18 19 (.aload_n 0) 1 := o_42 ob_X4_firstCorner rfl rfl rfl
theorem dX4_firstCorner_19 : dc cX4_firstCorner 19 20 (.iload_n 2) 1 := o_28 ob_X4_firstCorner rfl rfl rfl
theorem dX4_firstCorner_20 : dc cX4_firstCorner 20 23 (.invokevirtual 118) 3 := o_182 ob_X4_firstCorner rfl rfl rfl rfl
theorem dX4_firstCorner_23 : dc cX4_firstCorner 23 24 (.aload_n 0) 1 := o_42 ob_X4_firstCorner rfl rfl rfl
theorem dX4_firstCorner_24 : dc cX4_firstCorner 24 25 (.iload_n 1) 1 := o_27 ob_X4_firstCorner rfl rfl rfl
theorem dX4_firstCorner_25 : dc cX4_firstCorner 25 28 (.invokevirtual 118) 3 := o_182 ob_X4_firstCorner rfl rfl rfl rfl
theorem dX4_firstCorner_28 : dc cX4_firstCorner 28 31 (.if_icmp .lt 29) 3 := o_161 ob_X4_firstCorner rfl rfl rfl rfl
theorem dX4_firstCorner_31 : dc cX4_firstCorner 31 32 (.aload_n 0) 1 := o_42 ob_X4_firstCorner rfl rfl rfl
theorem dX4_firstCorner_32 : dc cX4_firstCorner 32 33 (.iload_n 2) 1 := o_28 ob_X4_firstCorner rfl rfl rfl
theorem dX4_firstCorner_33 : dc cX4_firstCorner 33 36 (.invokevirtual 118) 3 := o_182 ob_X4_firstCorner rfl rfl rfl rfl
theorem dX4_firstCorner_36 : dc cX4_firstCorner 36 37 (.aload_n 0) 1 := o_42 ob_X4_firstCorner rfl rfl rfl
theorem dX4_firstCorner_37 : dc cX4_firstCorner 37 38 (.iload_n 1) 1 := o_27 ob_X4_firstCorner rfl rfl rfl
theorem dX4_firstCorner_38 : dc cX4_firstCorner 38 41 (.invokevirtual 118) 3 := o_182 ob_X4_firstCorner rfl rfl rfl rfl
theorem dX4_firstCorner_41 : dc cX4_firstCorner 41 44 (.if_icmp .ne 18) 3 := o_160 ob_X4_firstCorner rfl rfl rfl rfl
theorem dX4_firstCorner_44 : dc cX4_firstCorner 44 45 (.aload_n 0) 1 := o_42 ob_X4_firstCorner rfl rfl rfl
theorem dX4_firstCorner_45 : dc cX4_firstCorner 45 46 (.iload_n 2) 1 := o_28 ob_X4_firstCorner rfl rfl rfl
theorem dX4_firstCorner_46 : dc cX4_firstCorner 46 49 (.invokevirtual 121) 3 := o_182 ob_X4_firstCorner rfl rfl rfl rfl
theorem dX4_firstCorner_49 : dc cX4_firstCorner 49 50 (.aload_n 0) 1 := o_42 ob_X4_firstCorner rfl rfl rfl
theorem dX4_firstCorner_50 : dc cX4_firstCorner 50 51 (.iload_n 1) 1 := o_27 ob_X4_firstCorner rfl rfl rfl
theorem dX4_firstCorner_51 : dc cX4_firstCorner 51 54 (.invokevirtual 121) 3 := o_182 ob_X4_firstCorner rfl rfl rfl rfl
theorem dX4_firstCorner_54 : dc cX4_firstCorner 54 57 (.if_icmp .ge 5) 3 := o_162 ob_X4_firstCorner rfl rfl rfl rfl
theorem dX4_firstCorner_57 : dc cX4_firstCorner 57 58 (.iload_n 2) 1 := o_28 ob_X4_firstCorner rfl rfl rfl
theorem dX4_firstCorner_58 : dc cX4_firstCorner 58 59 (.istore_n 1) 1 := o_60 ob_X4_firstCorner rfl rfl rfl
theorem dX4_firstCorner_59 : dc cX4_firstCorner 59 62 (.iinc 2 1) 3 := o_132 ob_X4_firstCorner rfl rfl rfl rfl rfl
theorem dX4_firstCorner_62 : dc cX4_firstCorner 62 65 (.goto (-58)) 3 := o_167 ob_X4_firstCorner rfl rfl rfl rfl
theorem dX4_firstCorner_65 : dc cX4_firstCorner 65 66 (.iload_n 1) 1 := o_27 ob_X4_firstCorner rfl rfl rfl
theorem dX4_firstCorner_66 : dc cX4_firstCorner 66 67 .ireturn 1 := o_172 ob_X4_firstCorner rfl rfl rfl
def F_Day_firstCorner_b4 (M : Mem) (z : Int32 × Int32) : Option ((Int32 × Int32) ⊕ ((Int32))) :=
  if 9 ≤ z.2 then some (.inr z.1) else (F_Day_isPoint z.2 M).bind fun r1 => if r1 = true then (F_Day_across z.2 M).bind fun r2 => (F_Day_across z.1 M).bind fun r3 => if r2 < r3 then some (.inl ((z.2, z.2 + 1))) else (F_Day_across z.2 M).bind fun r4 => (F_Day_across z.1 M).bind fun r5 => if r4 = r5 then (F_Day_up z.2 M).bind fun r6 => (F_Day_up z.1 M).bind fun r7 => if r7 ≤ r6 then some (.inl ((z.1, z.2 + 1))) else some (.inl ((z.2, z.2 + 1))) else some (.inl ((z.1, z.2 + 1))) else some (.inl ((z.1, z.2 + 1)))
def F_Day_firstCorner_l4 (x1 : Int32) (x2 : Int32) (M : Mem) : Option (Int32) :=
  (iter (F_Day_firstCorner_b4 M) FUEL (x1, x2)).bind fun r => some r
def F_Day_firstCorner (M : Mem) : Option (Int32) :=
  F_Day_firstCorner_l4 0 1 M
set_option maxRecDepth 100000 in
set_option maxHeartbeats 4000000 in
theorem K_Day_firstCorner (l : Launch) (g : GB) (htr : l.stackTraces = false) (M : Mem) (rr : Int32) (h : F_Day_firstCorner M = some rr) : CT l g yX4_firstCorner (.code yX4_firstCorner cX4_firstCorner 3 (some .int) :: wAll) { frames := 3, cells := 0, slots := 0, locals := 65 } [.ref (g.2.1 68)] M (.inl (some (.int rr))) M := by
  refine CT.of [(0, .ref (g.2.1 68))] (by decide +kernel) (Nat.le_of_ble_eq_true rfl) rfl htr ?_
  intro p e s m args below meth c K hr ht
  skip
  obtain ⟨PHI, hPHI, h⟩ : ∃ PHI : Int32 → Prop, (∀ a, PHI a → a = rr) ∧ wpO (F_Day_firstCorner M) PHI := ⟨fun a => a = rr, fun _ h => h, _, h, rfl⟩
  have J4 : ∀ (x1 : Int32) (x2 : Int32), wpO (F_Day_firstCorner_l4 x1 x2 M) PHI → GG p l e { frames := 3, cells := 0, slots := 0, locals := 65 } s m args below meth c g 3 (vx_MQ below (Qn g s.heap.size (.inl (some (.int rr))) M) (QX g s.heap.size (.inl (some (.int rr))) M) args s 0 0 (AS g s.heap.size)) 0 0 4 [(0, .ref (g.2.1 68)), (1, .int x1), (2, .int x2)] [] M := by
    intro x1 x2 h
    unfold F_Day_firstCorner_l4 at h
    refine loop_C2 (G := fun (x1 : Int32) (x2 : Int32) => GG p l e { frames := 3, cells := 0, slots := 0, locals := 65 } s m args below meth c g 3 (vx_MQ below (Qn g s.heap.size (.inl (some (.int rr))) M) (QX g s.heap.size (.inl (some (.int rr))) M) args s 0 0 (AS g s.heap.size)) 0 0 4 [(0, .ref (g.2.1 68)), (1, .int x1), (2, .int x2)] [] M) (body := F_Day_firstCorner_b4 M) ?_ FUEL _ _ (wpO_bind h)
    intro P4 E4 X4
    intro z h
    unfold F_Day_firstCorner_b4 at h
    refine G_iload_n rfl 2 rfl K dX4_firstCorner_4 ?_
    refine G_bipush (v := 9) rfl K dX4_firstCorner_5 ?_
    refine G_icmp_ge (tgt := 65) K dX4_firstCorner_7 (by decide) (fun hc => ?_) (fun hc => ?_)
    · have h := wpO_t h hc
      have h := X4 _ (wpO_some h)
      try dsimp only at h
      refine G_iload_n rfl 1 rfl K dX4_firstCorner_65 ?_
      cases hPHI _ (wpO_some h)
      exact G_iret K hr rfl dX4_firstCorner_66 (Nat.le_of_ble_eq_true rfl) (Nat.le_of_ble_eq_true rfl) ⟨rfl, rfl⟩
    · have h := wpO_f h hc
      refine G_aload_n rfl 0 rfl K dX4_firstCorner_10 ?_
      refine G_iload_n rfl 2 rfl K dX4_firstCorner_11 ?_
      obtain ⟨r1, e1, h⟩ := wpO_bind h
      refine G_callVi (ci := 4) [.int z.2] [] K dX4_firstCorner_12 wv_594 yd_X4_isPoint (Nat.le_of_ble_eq_true rfl) (sh_68 _ _) rfl (by decide) (by decide) rfl rfl (Nat.le_of_ble_eq_true rfl) (K_Day_isPoint l g htr z.2 M _ e1) ?_
      refine G_ifb_eq (tgt := 59) K dX4_firstCorner_15 (by decide) (fun hc => ?_) (fun hc => ?_)
      · have h := wpO_bf h hc
        refine G_iinc (v := z.2 + 1) 2 rfl K dX4_firstCorner_59 rfl (Nat.le_of_ble_eq_true rfl) rfl ?_
        refine G_goto (tgt := 4) K dX4_firstCorner_62 (by decide) ?_
        exact G_lv (lv' := [(0, .ref (g.2.1 68)), (1, .int z.1), (2, .int (z.2 + 1))]) [1, 2, 0] rfl (E4 z.1 (z.2 + 1) (wpO_some h))
      · have h := wpO_t h hc
        refine G_aload_n rfl 0 rfl K dX4_firstCorner_18 ?_
        refine G_iload_n rfl 2 rfl K dX4_firstCorner_19 ?_
        obtain ⟨r2, e2, h⟩ := wpO_bind h
        refine G_callVi (ci := 4) [.int z.2] [] K dX4_firstCorner_20 wv_598 yd_X4_across (Nat.le_of_ble_eq_true rfl) (sh_68 _ _) rfl (by decide) (by decide) rfl rfl (Nat.le_of_ble_eq_true rfl) (K_Day_across l g htr z.2 M _ e2) ?_
        refine G_aload_n rfl 0 rfl K dX4_firstCorner_23 ?_
        refine G_iload_n rfl 1 rfl K dX4_firstCorner_24 ?_
        obtain ⟨r3, e3, h⟩ := wpO_bind h
        refine G_callVi (ci := 4) [.int z.1] [.int r2] K dX4_firstCorner_25 wv_598 yd_X4_across (Nat.le_of_ble_eq_true rfl) (sh_68 _ _) rfl (by decide) (by decide) rfl rfl (Nat.le_of_ble_eq_true rfl) (K_Day_across l g htr z.1 M _ e3) ?_
        refine G_icmp_lt (tgt := 57) K dX4_firstCorner_28 (by decide) (fun hc => ?_) (fun hc => ?_)
        · have h := wpO_t h hc
          refine G_iload_n rfl 2 rfl K dX4_firstCorner_57 ?_
          refine G_istore_n rfl K dX4_firstCorner_58 (Nat.le_of_ble_eq_true rfl) rfl ?_
          refine G_iinc (v := z.2 + 1) 2 rfl K dX4_firstCorner_59 rfl (Nat.le_of_ble_eq_true rfl) rfl ?_
          refine G_goto (tgt := 4) K dX4_firstCorner_62 (by decide) ?_
          exact G_lv (lv' := [(0, .ref (g.2.1 68)), (1, .int z.2), (2, .int (z.2 + 1))]) [2, 1, 0] rfl (E4 z.2 (z.2 + 1) (wpO_some h))
        · have h := wpO_f h hc
          refine G_aload_n rfl 0 rfl K dX4_firstCorner_31 ?_
          refine G_iload_n rfl 2 rfl K dX4_firstCorner_32 ?_
          obtain ⟨r4, e4, h⟩ := wpO_bind h
          refine G_callVi (ci := 4) [.int z.2] [] K dX4_firstCorner_33 wv_598 yd_X4_across (Nat.le_of_ble_eq_true rfl) (sh_68 _ _) rfl (by decide) (by decide) rfl rfl (Nat.le_of_ble_eq_true rfl) (K_Day_across l g htr z.2 M _ e4) ?_
          refine G_aload_n rfl 0 rfl K dX4_firstCorner_36 ?_
          refine G_iload_n rfl 1 rfl K dX4_firstCorner_37 ?_
          obtain ⟨r5, e5, h⟩ := wpO_bind h
          refine G_callVi (ci := 4) [.int z.1] [.int r4] K dX4_firstCorner_38 wv_598 yd_X4_across (Nat.le_of_ble_eq_true rfl) (sh_68 _ _) rfl (by decide) (by decide) rfl rfl (Nat.le_of_ble_eq_true rfl) (K_Day_across l g htr z.1 M _ e5) ?_
          refine G_icmp_ne (tgt := 59) K dX4_firstCorner_41 (by decide) (fun hc => ?_) (fun hc => ?_)
          · have h := wpO_f h hc
            refine G_iinc (v := z.2 + 1) 2 rfl K dX4_firstCorner_59 rfl (Nat.le_of_ble_eq_true rfl) rfl ?_
            refine G_goto (tgt := 4) K dX4_firstCorner_62 (by decide) ?_
            exact G_lv (lv' := [(0, .ref (g.2.1 68)), (1, .int z.1), (2, .int (z.2 + 1))]) [1, 2, 0] rfl (E4 z.1 (z.2 + 1) (wpO_some h))
          · have h := wpO_t h hc
            refine G_aload_n rfl 0 rfl K dX4_firstCorner_44 ?_
            refine G_iload_n rfl 2 rfl K dX4_firstCorner_45 ?_
            obtain ⟨r6, e6, h⟩ := wpO_bind h
            refine G_callVi (ci := 4) [.int z.2] [] K dX4_firstCorner_46 wv_602 yd_X4_up (Nat.le_of_ble_eq_true rfl) (sh_68 _ _) rfl (by decide) (by decide) rfl rfl (Nat.le_of_ble_eq_true rfl) (K_Day_up l g htr z.2 M _ e6) ?_
            refine G_aload_n rfl 0 rfl K dX4_firstCorner_49 ?_
            refine G_iload_n rfl 1 rfl K dX4_firstCorner_50 ?_
            obtain ⟨r7, e7, h⟩ := wpO_bind h
            refine G_callVi (ci := 4) [.int z.1] [.int r6] K dX4_firstCorner_51 wv_602 yd_X4_up (Nat.le_of_ble_eq_true rfl) (sh_68 _ _) rfl (by decide) (by decide) rfl rfl (Nat.le_of_ble_eq_true rfl) (K_Day_up l g htr z.1 M _ e7) ?_
            refine G_icmp_ge (tgt := 59) K dX4_firstCorner_54 (by decide) (fun hc => ?_) (fun hc => ?_)
            · have h := wpO_t h hc
              refine G_iinc (v := z.2 + 1) 2 rfl K dX4_firstCorner_59 rfl (Nat.le_of_ble_eq_true rfl) rfl ?_
              refine G_goto (tgt := 4) K dX4_firstCorner_62 (by decide) ?_
              exact G_lv (lv' := [(0, .ref (g.2.1 68)), (1, .int z.1), (2, .int (z.2 + 1))]) [1, 2, 0] rfl (E4 z.1 (z.2 + 1) (wpO_some h))
            · have h := wpO_f h hc
              refine G_iload_n rfl 2 rfl K dX4_firstCorner_57 ?_
              refine G_istore_n rfl K dX4_firstCorner_58 (Nat.le_of_ble_eq_true rfl) rfl ?_
              refine G_iinc (v := z.2 + 1) 2 rfl K dX4_firstCorner_59 rfl (Nat.le_of_ble_eq_true rfl) rfl ?_
              refine G_goto (tgt := 4) K dX4_firstCorner_62 (by decide) ?_
              exact G_lv (lv' := [(0, .ref (g.2.1 68)), (1, .int z.2), (2, .int (z.2 + 1))]) [2, 1, 0] rfl (E4 z.2 (z.2 + 1) (wpO_some h))
  unfold F_Day_firstCorner at h
  refine G_iconst (v := 0) rfl K dX4_firstCorner_0 ?_
  refine G_istore_n rfl K dX4_firstCorner_1 (Nat.le_of_ble_eq_true rfl) rfl ?_
  refine G_iconst (v := 1) rfl K dX4_firstCorner_2 ?_
  refine G_istore_n rfl K dX4_firstCorner_3 (Nat.le_of_ble_eq_true rfl) rfl ?_
  exact G_lv (lv' := [(0, .ref (g.2.1 68)), (1, .int 0), (2, .int 1)]) [2, 1, 0] rfl (J4 0 1 h)
def on_X4_isFurtherRight : Nat := 0xac030400a70407009e09150c009a08150d009b081509366468051505156468041504156068071507156806150615083664680615051568071504150736647900b61b2a7900b61d2a0636647600b61b2a7600b61d2a0536647900b61b2a7900b61c2a0436647600b61b2a7600b61c2a
theorem ob_X4_isFurtherRight : OKB cX4_isFurtherRight on_X4_isFurtherRight 111 := ⟨by decide +kernel, by decide +kernel⟩
theorem dX4_isFurtherRight_0 : dc cX4_isFurtherRight 0 1 (.aload_n 0) 1 := o_42 ob_X4_isFurtherRight rfl rfl rfl
theorem dX4_isFurtherRight_1 : dc cX4_isFurtherRight 1 2 (.iload_n 2) 1 := o_28 ob_X4_isFurtherRight rfl rfl rfl
theorem dX4_isFurtherRight_2 : dc cX4_isFurtherRight 2 5 (.invokevirtual 118) 3 := o_182 ob_X4_isFurtherRight rfl rfl rfl rfl
theorem dX4_isFurtherRight_5 : dc cX4_isFurtherRight 5 6 (.aload_n 0) 1 := o_42 ob_X4_isFurtherRight rfl rfl rfl
theorem dX4_isFurtherRight_6 : dc cX4_isFurtherRight 6 7 (.iload_n 1) 1 := o_27 ob_X4_isFurtherRight rfl rfl rfl
theorem dX4_isFurtherRight_7 : dc cX4_isFurtherRight 7 10 (.invokevirtual 118) 3 := o_182 ob_X4_isFurtherRight rfl rfl rfl rfl
theorem dX4_isFurtherRight_10 : dc cX4_isFurtherRight 10 11 .isub 1 := o_100 ob_X4_isFurtherRight rfl rfl rfl
theorem dX4_isFurtherRight_11 : dc cX4_isFurtherRight 11 13 (.istore 4) 2 := o_54 ob_X4_isFurtherRight rfl rfl rfl rfl
theorem dX4_isFurtherRight_13 : dc cX4_isFurtherRight 13 14 (.aload_n 0) 1 := o_42 ob_X4_isFurtherRight rfl rfl rfl
theorem dX4_isFurtherRight_14 : dc cX4_isFurtherRight 14 15 (.iload_n 2) 1 := o_28 ob_X4_isFurtherRight rfl rfl rfl
theorem dX4_isFurtherRight_15 : dc cX4_isFurtherRight 15 18 (.invokevirtual 121) 3 := o_182 ob_X4_isFurtherRight rfl rfl rfl rfl
theorem dX4_isFurtherRight_18 : dc cX4_isFurtherRight 18 19 (.aload_n 0) 1 := o_42 ob_X4_isFurtherRight rfl rfl rfl
theorem dX4_isFurtherRight_19 : dc cX4_isFurtherRight 19 20 (.iload_n 1) 1 := o_27 ob_X4_isFurtherRight rfl rfl rfl
theorem dX4_isFurtherRight_20 : dc cX4_isFurtherRight 20 23 (.invokevirtual 121) 3 := o_182 ob_X4_isFurtherRight rfl rfl rfl rfl
theorem dX4_isFurtherRight_23 : dc cX4_isFurtherRight 23 24 .isub 1 := o_100 ob_X4_isFurtherRight rfl rfl rfl
theorem dX4_isFurtherRight_24 : dc cX4_isFurtherRight 24 26 (.istore 5) 2 := o_54 ob_X4_isFurtherRight rfl rfl rfl rfl
theorem dX4_isFurtherRight_26 : dc cX4_isFurtherRight 26 27 (.aload_n 0) 1 := o_42 ob_X4_isFurtherRight rfl rfl rfl
theorem dX4_isFurtherRight_27 : dc cX4_isFurtherRight 27 28 (.iload_n 3) 1 := o_29 ob_X4_isFurtherRight rfl rfl rfl
theorem dX4_isFurtherRight_28 : dc cX4_isFurtherRight 28 31 (.invokevirtual 118) 3 := o_182 ob_X4_isFurtherRight rfl rfl rfl rfl
theorem dX4_isFurtherRight_31 : dc cX4_isFurtherRight 31 32 (.aload_n 0) 1 := o_42 ob_X4_isFurtherRight rfl rfl rfl
theorem dX4_isFurtherRight_32 : dc cX4_isFurtherRight 32 33 (.iload_n 1) 1 := o_27 ob_X4_isFurtherRight rfl rfl rfl
theorem dX4_isFurtherRight_33 : dc cX4_isFurtherRight 33 36 (.invokevirtual 118) 3 := o_182 ob_X4_isFurtherRight rfl rfl rfl rfl
theorem dX4_isFurtherRight_36 : dc cX4_isFurtherRight 36 37 .isub 1 := o_100 ob_X4_isFurtherRight rfl rfl rfl
theorem dX4_isFurtherRight_37 : dc cX4_isFurtherRight 37 39 (.istore 6) 2 := o_54 ob_X4_isFurtherRight rfl rfl rfl rfl
theorem dX4_isFurtherRight_39 : dc cX4_isFurtherRight 39 40 (.aload_n 0) 1 := o_42 ob_X4_isFurtherRight rfl rfl rfl
theorem dX4_isFurtherRight_40 : dc cX4_isFurtherRight 40 41 (.iload_n 3) 1 := o_29 ob_X4_isFurtherRight rfl rfl rfl
theorem dX4_isFurtherRight_41 : dc cX4_isFurtherRight 41 44 (.invokevirtual 121) 3 := o_182 ob_X4_isFurtherRight rfl rfl rfl rfl
theorem dX4_isFurtherRight_44 : dc cX4_isFurtherRight 44 45 (.aload_n 0) 1 := o_42 ob_X4_isFurtherRight rfl rfl rfl
theorem dX4_isFurtherRight_45 : dc cX4_isFurtherRight 45 46 (.iload_n 1) 1 := o_27 ob_X4_isFurtherRight rfl rfl rfl
theorem dX4_isFurtherRight_46 : dc cX4_isFurtherRight 46 49 (.invokevirtual 121) 3 := o_182 ob_X4_isFurtherRight rfl rfl rfl rfl
theorem dX4_isFurtherRight_49 : dc cX4_isFurtherRight 49 50 .isub 1 := o_100 ob_X4_isFurtherRight rfl rfl rfl
theorem dX4_isFurtherRight_50 : dc cX4_isFurtherRight 50 52 (.istore 7) 2 := o_54 ob_X4_isFurtherRight rfl rfl rfl rfl
theorem dX4_isFurtherRight_52 : dc cX4_isFurtherRight 52 54 (.iload 4) 2 := o_21 ob_X4_isFurtherRight rfl rfl rfl rfl
theorem dX4_isFurtherRight_54 : dc cX4_isFurtherRight 54 56 (.iload 7) 2 := o_21 ob_X4_isFurtherRight rfl rfl rfl rfl
theorem dX4_isFurtherRight_56 : dc cX4_isFurtherRight 56 57 .imul 1 := o_104 ob_X4_isFurtherRight rfl rfl rfl
theorem dX4_isFurtherRight_57 : dc cX4_isFurtherRight 57 59 (.iload 5) 2 := o_21 ob_X4_isFurtherRight rfl rfl rfl rfl
theorem dX4_isFurtherRight_59 : dc cX4_isFurtherRight 59 61 (.iload 6) 2 := o_21 ob_X4_isFurtherRight rfl rfl rfl rfl
theorem dX4_isFurtherRight_61 : dc cX4_isFurtherRight 61 62 .imul 1 := o_104 ob_X4_isFurtherRight rfl rfl rfl
theorem dX4_isFurtherRight_62 : dc cX4_isFurtherRight 62 63 .isub 1 := o_100 ob_X4_isFurtherRight rfl rfl rfl
theorem dX4_isFurtherRight_63 : dc cX4_isFurtherRight 63 65 (.istore 8) 2 := o_54 ob_X4_isFurtherRight rfl rfl rfl rfl
theorem dX4_isFurtherRight_65 : dc cX4_isFurtherRight 65 67 (.iload 6) 2 := o_21 ob_X4_isFurtherRight rfl rfl rfl rfl
theorem dX4_isFurtherRight_67 : dc cX4_isFurtherRight 67 69 (.iload 6) 2 := o_21 ob_X4_isFurtherRight rfl rfl rfl rfl
theorem dX4_isFurtherRight_69 : dc cX4_isFurtherRight 69 70 .imul 1 := o_104 ob_X4_isFurtherRight rfl rfl rfl
theorem dX4_isFurtherRight_70 : dc cX4_isFurtherRight 70 72 (.iload 7) 2 := o_21 ob_X4_isFurtherRight rfl rfl rfl rfl
theorem dX4_isFurtherRight_72 : dc cX4_isFurtherRight 72 74 (.iload 7) 2 := o_21 ob_X4_isFurtherRight rfl rfl rfl rfl
theorem dX4_isFurtherRight_74 : dc cX4_isFurtherRight 74 75 .imul 1 := o_104 ob_X4_isFurtherRight rfl rfl rfl
theorem dX4_isFurtherRight_75 : dc cX4_isFurtherRight 75 76 .iadd 1 := o_96 ob_X4_isFurtherRight rfl rfl rfl
theorem dX4_isFurtherRight_76 : dc cX4_isFurtherRight 76 78 (.iload 4) 2 := o_21 ob_X4_isFurtherRight rfl rfl rfl rfl
theorem dX4_isFurtherRight_78 : dc cX4_isFurtherRight 78 80 (.iload 4) 2 := o_21 ob_X4_isFurtherRight rfl rfl rfl rfl
theorem dX4_isFurtherRight_80 : dc cX4_isFurtherRight 80 81 .imul 1 := o_104 ob_X4_isFurtherRight rfl rfl rfl
theorem dX4_isFurtherRight_81 : dc cX4_isFurtherRight 81 82 .isub 1 := o_100 ob_X4_isFurtherRight rfl rfl rfl
theorem dX4_isFurtherRight_82 : dc cX4_isFurtherRight 82 84 (.iload 5) 2 := o_21 ob_X4_isFurtherRight rfl rfl rfl rfl
theorem dX4_isFurtherRight_84 : dc cX4_isFurtherRight 84 86 (.iload 5) 2 := o_21 ob_X4_isFurtherRight rfl rfl rfl rfl
theorem dX4_isFurtherRight_86 : dc cX4_isFurtherRight 86 87 .imul 1 := o_104 ob_X4_isFurtherRight rfl rfl rfl
theorem dX4_isFurtherRight_87 : dc cX4_isFurtherRight 87 88 .isub 1 := o_100 ob_X4_isFurtherRight rfl rfl rfl
theorem dX4_isFurtherRight_88 : dc cX4_isFurtherRight 88 90 (.istore 9) 2 := o_54 ob_X4_isFurtherRight rfl rfl rfl rfl
theorem dX4_isFurtherRight_90 : dc cX4_isFurtherRight 90 92 (.iload 8) 2 := o_21 ob_X4_isFurtherRight rfl rfl rfl rfl
theorem dX4_isFurtherRight_92 : dc cX4_isFurtherRight 92 95 (.ifCond .lt 13) 3 := o_155 ob_X4_isFurtherRight rfl rfl rfl rfl
theorem dX4_isFurtherRight_95 : dc cX4_isFurtherRight 95 97 (.iload 8) 2 := o_21 ob_X4_isFurtherRight rfl rfl rfl rfl
theorem dX4_isFurtherRight_97 : dc cX4_isFurtherRight 97 100 (.ifCond .ne 12) 3 := o_154 ob_X4_isFurtherRight rfl rfl rfl rfl
theorem dX4_isFurtherRight_100 : dc cX4_isFurtherRight 100 102 (.iload 9) 2 := o_21 ob_X4_isFurtherRight rfl rfl rfl rfl
theorem dX4_isFurtherRight_102 : dc cX4_isFurtherRight 102 105 (.ifCond .le 7) 3 := o_158 ob_X4_isFurtherRight rfl rfl rfl rfl
theorem dX4_isFurtherRight_105 : dc cX4_isFurtherRight 105 106 (.iconst 1) 1 := o_4 ob_X4_isFurtherRight rfl rfl rfl
theorem dX4_isFurtherRight_106 : dc cX4_isFurtherRight 106 109 (.goto 4) 3 := o_167 ob_X4_isFurtherRight rfl rfl rfl rfl
theorem dX4_isFurtherRight_109 : dc cX4_isFurtherRight 109 110 (.iconst 0) 1 := o_3 ob_X4_isFurtherRight rfl rfl rfl
theorem dX4_isFurtherRight_110 : dc cX4_isFurtherRight 110 111 .ireturn 1 := o_172 ob_X4_isFurtherRight rfl rfl rfl
def F_Day_isFurtherRight (x1 : Int32) (x2 : Int32) (x3 : Int32) (M : Mem) : Option (Bool) :=
  (F_Day_across x2 M).bind fun r1 => (F_Day_across x1 M).bind fun r2 => (F_Day_up x2 M).bind fun r3 => (F_Day_up x1 M).bind fun r4 => (F_Day_across x3 M).bind fun r5 => (F_Day_across x1 M).bind fun r6 => (F_Day_up x3 M).bind fun r7 => (F_Day_up x1 M).bind fun r8 => if (((r1 - r2) * (r7 - r8)) - ((r3 - r4) * (r5 - r6))) < 0 then some true else if (((r1 - r2) * (r7 - r8)) - ((r3 - r4) * (r5 - r6))) = 0 then if (((((r5 - r6) * (r5 - r6)) + ((r7 - r8) * (r7 - r8))) - ((r1 - r2) * (r1 - r2))) - ((r3 - r4) * (r3 - r4))) ≤ 0 then some false else some true else some false
set_option maxRecDepth 100000 in
set_option maxHeartbeats 4000000 in
theorem K_Day_isFurtherRight (l : Launch) (g : GB) (htr : l.stackTraces = false) (x1 : Int32) (x2 : Int32) (x3 : Int32) (M : Mem) (rr : Bool) (h : F_Day_isFurtherRight x1 x2 x3 M = some rr) : CT l g yX4_isFurtherRight (.code yX4_isFurtherRight cX4_isFurtherRight 10 (some .boolean) :: wAll) { frames := 3, cells := 0, slots := 0, locals := 65 } [.ref (g.2.1 68), .int x1, .int x2, .int x3] M (.inl (some (.int (b2i rr)))) M := by
  refine CT.of [(0, .ref (g.2.1 68)), (1, .int x1), (2, .int x2), (3, .int x3)] (by decide +kernel) (Nat.le_of_ble_eq_true rfl) rfl htr ?_
  intro p e s m args below meth c K hr ht
  skip
  obtain ⟨PHI, hPHI, h⟩ : ∃ PHI : Bool → Prop, (∀ a, PHI a → a = rr) ∧ wpO (F_Day_isFurtherRight x1 x2 x3 M) PHI := ⟨fun a => a = rr, fun _ h => h, _, h, rfl⟩
  unfold F_Day_isFurtherRight at h
  refine G_aload_n rfl 0 rfl K dX4_isFurtherRight_0 ?_
  refine G_iload_n rfl 2 rfl K dX4_isFurtherRight_1 ?_
  obtain ⟨r1, e1, h⟩ := wpO_bind h
  refine G_callVi (ci := 4) [.int x2] [] K dX4_isFurtherRight_2 wv_598 yd_X4_across (Nat.le_of_ble_eq_true rfl) (sh_68 _ _) rfl (by decide) (by decide) rfl rfl (Nat.le_of_ble_eq_true rfl) (K_Day_across l g htr x2 M _ e1) ?_
  refine G_aload_n rfl 0 rfl K dX4_isFurtherRight_5 ?_
  refine G_iload_n rfl 1 rfl K dX4_isFurtherRight_6 ?_
  obtain ⟨r2, e2, h⟩ := wpO_bind h
  refine G_callVi (ci := 4) [.int x1] [.int r1] K dX4_isFurtherRight_7 wv_598 yd_X4_across (Nat.le_of_ble_eq_true rfl) (sh_68 _ _) rfl (by decide) (by decide) rfl rfl (Nat.le_of_ble_eq_true rfl) (K_Day_across l g htr x1 M _ e2) ?_
  refine G_isub K dX4_isFurtherRight_10 ?_
  refine G_istore K dX4_isFurtherRight_11 (Nat.le_of_ble_eq_true rfl) rfl ?_
  refine G_aload_n rfl 1 rfl K dX4_isFurtherRight_13 ?_
  refine G_iload_n rfl 3 rfl K dX4_isFurtherRight_14 ?_
  obtain ⟨r3, e3, h⟩ := wpO_bind h
  refine G_callVi (ci := 4) [.int x2] [] K dX4_isFurtherRight_15 wv_602 yd_X4_up (Nat.le_of_ble_eq_true rfl) (sh_68 _ _) rfl (by decide) (by decide) rfl rfl (Nat.le_of_ble_eq_true rfl) (K_Day_up l g htr x2 M _ e3) ?_
  refine G_aload_n rfl 1 rfl K dX4_isFurtherRight_18 ?_
  refine G_iload_n rfl 2 rfl K dX4_isFurtherRight_19 ?_
  obtain ⟨r4, e4, h⟩ := wpO_bind h
  refine G_callVi (ci := 4) [.int x1] [.int r3] K dX4_isFurtherRight_20 wv_602 yd_X4_up (Nat.le_of_ble_eq_true rfl) (sh_68 _ _) rfl (by decide) (by decide) rfl rfl (Nat.le_of_ble_eq_true rfl) (K_Day_up l g htr x1 M _ e4) ?_
  refine G_isub K dX4_isFurtherRight_23 ?_
  refine G_istore K dX4_isFurtherRight_24 (Nat.le_of_ble_eq_true rfl) rfl ?_
  refine G_aload_n rfl 2 rfl K dX4_isFurtherRight_26 ?_
  refine G_iload_n rfl 5 rfl K dX4_isFurtherRight_27 ?_
  obtain ⟨r5, e5, h⟩ := wpO_bind h
  refine G_callVi (ci := 4) [.int x3] [] K dX4_isFurtherRight_28 wv_598 yd_X4_across (Nat.le_of_ble_eq_true rfl) (sh_68 _ _) rfl (by decide) (by decide) rfl rfl (Nat.le_of_ble_eq_true rfl) (K_Day_across l g htr x3 M _ e5) ?_
  refine G_aload_n rfl 2 rfl K dX4_isFurtherRight_31 ?_
  refine G_iload_n rfl 3 rfl K dX4_isFurtherRight_32 ?_
  obtain ⟨r6, e6, h⟩ := wpO_bind h
  refine G_callVi (ci := 4) [.int x1] [.int r5] K dX4_isFurtherRight_33 wv_598 yd_X4_across (Nat.le_of_ble_eq_true rfl) (sh_68 _ _) rfl (by decide) (by decide) rfl rfl (Nat.le_of_ble_eq_true rfl) (K_Day_across l g htr x1 M _ e6) ?_
  refine G_isub K dX4_isFurtherRight_36 ?_
  refine G_istore K dX4_isFurtherRight_37 (Nat.le_of_ble_eq_true rfl) rfl ?_
  refine G_aload_n rfl 3 rfl K dX4_isFurtherRight_39 ?_
  refine G_iload_n rfl 6 rfl K dX4_isFurtherRight_40 ?_
  obtain ⟨r7, e7, h⟩ := wpO_bind h
  refine G_callVi (ci := 4) [.int x3] [] K dX4_isFurtherRight_41 wv_602 yd_X4_up (Nat.le_of_ble_eq_true rfl) (sh_68 _ _) rfl (by decide) (by decide) rfl rfl (Nat.le_of_ble_eq_true rfl) (K_Day_up l g htr x3 M _ e7) ?_
  refine G_aload_n rfl 3 rfl K dX4_isFurtherRight_44 ?_
  refine G_iload_n rfl 4 rfl K dX4_isFurtherRight_45 ?_
  obtain ⟨r8, e8, h⟩ := wpO_bind h
  refine G_callVi (ci := 4) [.int x1] [.int r7] K dX4_isFurtherRight_46 wv_602 yd_X4_up (Nat.le_of_ble_eq_true rfl) (sh_68 _ _) rfl (by decide) (by decide) rfl rfl (Nat.le_of_ble_eq_true rfl) (K_Day_up l g htr x1 M _ e8) ?_
  refine G_isub K dX4_isFurtherRight_49 ?_
  refine G_istore K dX4_isFurtherRight_50 (Nat.le_of_ble_eq_true rfl) rfl ?_
  refine G_iload 3 rfl K dX4_isFurtherRight_52 ?_
  refine G_iload 0 rfl K dX4_isFurtherRight_54 ?_
  refine G_imul K dX4_isFurtherRight_56 ?_
  refine G_iload 2 rfl K dX4_isFurtherRight_57 ?_
  refine G_iload 1 rfl K dX4_isFurtherRight_59 ?_
  refine G_imul K dX4_isFurtherRight_61 ?_
  refine G_isub K dX4_isFurtherRight_62 ?_
  refine G_istore K dX4_isFurtherRight_63 (Nat.le_of_ble_eq_true rfl) rfl ?_
  refine G_iload 2 rfl K dX4_isFurtherRight_65 ?_
  refine G_iload 2 rfl K dX4_isFurtherRight_67 ?_
  refine G_imul K dX4_isFurtherRight_69 ?_
  refine G_iload 1 rfl K dX4_isFurtherRight_70 ?_
  refine G_iload 1 rfl K dX4_isFurtherRight_72 ?_
  refine G_imul K dX4_isFurtherRight_74 ?_
  refine G_iadd K dX4_isFurtherRight_75 ?_
  refine G_iload 4 rfl K dX4_isFurtherRight_76 ?_
  refine G_iload 4 rfl K dX4_isFurtherRight_78 ?_
  refine G_imul K dX4_isFurtherRight_80 ?_
  refine G_isub K dX4_isFurtherRight_81 ?_
  refine G_iload 3 rfl K dX4_isFurtherRight_82 ?_
  refine G_iload 3 rfl K dX4_isFurtherRight_84 ?_
  refine G_imul K dX4_isFurtherRight_86 ?_
  refine G_isub K dX4_isFurtherRight_87 ?_
  refine G_istore K dX4_isFurtherRight_88 (Nat.le_of_ble_eq_true rfl) rfl ?_
  refine G_iload 1 rfl K dX4_isFurtherRight_90 ?_
  refine G_if_lt (tgt := 105) K dX4_isFurtherRight_92 (by decide) (fun hc => ?_) (fun hc => ?_)
  · have h := wpO_t h hc
    refine G_iconst (v := 1) rfl K dX4_isFurtherRight_105 ?_
    refine G_goto (tgt := 110) K dX4_isFurtherRight_106 (by decide) ?_
    cases hPHI _ (wpO_some h)
    exact G_iret K hr rfl dX4_isFurtherRight_110 (Nat.le_of_ble_eq_true rfl) (Nat.le_of_ble_eq_true rfl) ⟨rfl, rfl⟩
  · have h := wpO_f h hc
    refine G_iload 1 rfl K dX4_isFurtherRight_95 ?_
    refine G_if_ne (tgt := 109) K dX4_isFurtherRight_97 (by decide) (fun hc => ?_) (fun hc => ?_)
    · have h := wpO_f h hc
      refine G_iconst (v := 0) rfl K dX4_isFurtherRight_109 ?_
      cases hPHI _ (wpO_some h)
      exact G_iret K hr rfl dX4_isFurtherRight_110 (Nat.le_of_ble_eq_true rfl) (Nat.le_of_ble_eq_true rfl) ⟨rfl, rfl⟩
    · have h := wpO_t h hc
      refine G_iload 0 rfl K dX4_isFurtherRight_100 ?_
      refine G_if_le (tgt := 109) K dX4_isFurtherRight_102 (by decide) (fun hc => ?_) (fun hc => ?_)
      · have h := wpO_t h hc
        refine G_iconst (v := 0) rfl K dX4_isFurtherRight_109 ?_
        cases hPHI _ (wpO_some h)
        exact G_iret K hr rfl dX4_isFurtherRight_110 (Nat.le_of_ble_eq_true rfl) (Nat.le_of_ble_eq_true rfl) ⟨rfl, rfl⟩
      · have h := wpO_f h hc
        refine G_iconst (v := 1) rfl K dX4_isFurtherRight_105 ?_
        refine G_goto (tgt := 110) K dX4_isFurtherRight_106 (by decide) ?_
        cases hPHI _ (wpO_some h)
        exact G_iret K hr rfl dX4_isFurtherRight_110 (Nat.le_of_ble_eq_true rfl) (Nat.le_of_ble_eq_true rfl) ⟨rfl, rfl⟩
theorem yd_X4_isFurtherRight : ydN yX4_isFurtherRight 3 := ⟨by decide, by decide, by decide +kernel⟩
theorem wv_611 : wdV "KeptWell$Day" 131 yX4_isFurtherRight cX4_isFurtherRight 10 (some .boolean) := ⟨wd_611, wd_613, ws_X4_isFurtherRight, wd_9, wd_614⟩
def on_X4_cornerAfter : Nat := 0xac1ce3ffa70103843d1d0500998300b61d1c1b2a0f00997f00b61d2a1d00a209101d3e033d1b
theorem ob_X4_cornerAfter : OKB cX4_cornerAfter on_X4_cornerAfter 38 := ⟨by decide +kernel, by decide +kernel⟩
theorem dX4_cornerAfter_0 : dc cX4_cornerAfter 0 1 (.iload_n 1) 1 := o_27 ob_X4_cornerAfter rfl rfl rfl
theorem dX4_cornerAfter_1 : dc cX4_cornerAfter 1 2 (.istore_n 2) 1 := o_61 ob_X4_cornerAfter rfl rfl rfl
theorem dX4_cornerAfter_2 : dc cX4_cornerAfter 2 3 (.iconst 0) 1 := o_3 ob_X4_cornerAfter rfl rfl rfl
theorem dX4_cornerAfter_3 : dc cX4_cornerAfter 3 4 (.istore_n 3) 1 := o_62 ob_X4_cornerAfter rfl rfl rfl
theorem dX4_cornerAfter_4 : dc cX4_cornerAfter 4 5 (.iload_n 3) 1 := o_29 ob_X4_cornerAfter rfl rfl rfl
theorem dX4_cornerAfter_5 : dc cX4_cornerAfter 5 7 (.bipush 9) 2 := o_16 ob_X4_cornerAfter rfl rfl rfl rfl
theorem dX4_cornerAfter_7 : dc cX4_cornerAfter 7 10 (.if_icmp .ge 29) 3 := o_162 ob_X4_cornerAfter rfl rfl rfl rfl
theorem dX4_cornerAfter_10 : dc cX4_cornerAfter 10 11 (.aload_n 0) 1 := o_42 ob_X4_cornerAfter rfl rfl rfl
theorem dX4_cornerAfter_11 : dc cX4_cornerAfter 11 12 (.iload_n 3) 1 := o_29 ob_X4_cornerAfter rfl rfl rfl
theorem dX4_cornerAfter_12 : dc cX4_cornerAfter 12 15 (.invokevirtual 127) 3 := o_182 ob_X4_cornerAfter rfl rfl rfl rfl
theorem dX4_cornerAfter_15 : dc cX4_cornerAfter 15 18 (.ifCond .eq 15) 3 := o_153 ob_X4_cornerAfter rfl rfl rfl rfl
theorem dX4_cornerAfter_18 : dc cX4_cornerAfter 18 19 (.aload_n 0) 1 := o_42 ob_X4_cornerAfter rfl rfl rfl
theorem dX4_cornerAfter_19 : dc cX4_cornerAfter 19 20 (.iload_n 1) 1 := o_27 ob_X4_cornerAfter rfl rfl rfl
theorem dX4_cornerAfter_20 : dc cX4_cornerAfter 20 21 (.iload_n 2) 1 := o_28 ob_X4_cornerAfter rfl rfl rfl
theorem dX4_cornerAfter_21 : dc cX4_cornerAfter 21 22 (.iload_n 3) 1 := o_29 ob_X4_cornerAfter rfl rfl rfl
theorem dX4_cornerAfter_22 : dc cX4_cornerAfter 22 25 (.invokevirtual 131) 3 := o_182 ob_X4_cornerAfter rfl rfl rfl rfl
theorem dX4_cornerAfter_25 : dc cX4_cornerAfter 25 28 (.ifCond .eq 5) 3 := o_153 ob_X4_cornerAfter rfl rfl rfl rfl
theorem dX4_cornerAfter_28 : dc cX4_cornerAfter 28 29 (.iload_n 3) 1 := o_29 ob_X4_cornerAfter rfl rfl rfl
theorem dX4_cornerAfter_29 : dc cX4_cornerAfter 29 30 (.istore_n 2) 1 := o_61 ob_X4_cornerAfter rfl rfl rfl
theorem dX4_cornerAfter_30 : dc cX4_cornerAfter 30 33 (.iinc 3 1) 3 := o_132 ob_X4_cornerAfter rfl rfl rfl rfl rfl
theorem dX4_cornerAfter_33 : dc cX4_cornerAfter 33 36 (.goto (-29)) 3 := o_167 ob_X4_cornerAfter rfl rfl rfl rfl
theorem dX4_cornerAfter_36 : dc cX4_cornerAfter 36 37 (.iload_n 2) 1 := o_28 ob_X4_cornerAfter rfl rfl rfl
theorem dX4_cornerAfter_37 : dc cX4_cornerAfter 37 38 .ireturn 1 := o_172 ob_X4_cornerAfter rfl rfl rfl
def F_Day_cornerAfter_b4 (x1 : Int32) (M : Mem) (z : Int32 × Int32) : Option ((Int32 × Int32) ⊕ ((Int32))) :=
  if 9 ≤ z.2 then some (.inr z.1) else (F_Day_isPoint z.2 M).bind fun r1 => if r1 = true then (F_Day_isFurtherRight x1 z.1 z.2 M).bind fun r2 => if r2 = true then some (.inl ((z.2, z.2 + 1))) else some (.inl ((z.1, z.2 + 1))) else some (.inl ((z.1, z.2 + 1)))
def F_Day_cornerAfter_l4 (x1 : Int32) (x2 : Int32) (x3 : Int32) (M : Mem) : Option (Int32) :=
  (iter (F_Day_cornerAfter_b4 x1 M) FUEL (x2, x3)).bind fun r => some r
def F_Day_cornerAfter (x1 : Int32) (M : Mem) : Option (Int32) :=
  F_Day_cornerAfter_l4 x1 x1 0 M
set_option maxRecDepth 100000 in
set_option maxHeartbeats 4000000 in
theorem K_Day_cornerAfter (l : Launch) (g : GB) (htr : l.stackTraces = false) (x1 : Int32) (M : Mem) (rr : Int32) (h : F_Day_cornerAfter x1 M = some rr) : CT l g yX4_cornerAfter (.code yX4_cornerAfter cX4_cornerAfter 4 (some .int) :: wAll) { frames := 4, cells := 0, slots := 0, locals := 94 } [.ref (g.2.1 68), .int x1] M (.inl (some (.int rr))) M := by
  refine CT.of [(0, .ref (g.2.1 68)), (1, .int x1)] (by decide +kernel) (Nat.le_of_ble_eq_true rfl) rfl htr ?_
  intro p e s m args below meth c K hr ht
  skip
  obtain ⟨PHI, hPHI, h⟩ : ∃ PHI : Int32 → Prop, (∀ a, PHI a → a = rr) ∧ wpO (F_Day_cornerAfter x1 M) PHI := ⟨fun a => a = rr, fun _ h => h, _, h, rfl⟩
  have J4 : ∀ (x1 : Int32) (x2 : Int32) (x3 : Int32), wpO (F_Day_cornerAfter_l4 x1 x2 x3 M) PHI → GG p l e { frames := 4, cells := 0, slots := 0, locals := 94 } s m args below meth c g 4 (vx_MQ below (Qn g s.heap.size (.inl (some (.int rr))) M) (QX g s.heap.size (.inl (some (.int rr))) M) args s 0 0 (AS g s.heap.size)) 0 0 4 [(0, .ref (g.2.1 68)), (1, .int x1), (2, .int x2), (3, .int x3)] [] M := by
    intro x1 x2 x3 h
    unfold F_Day_cornerAfter_l4 at h
    refine loop_C2 (G := fun (x2 : Int32) (x3 : Int32) => GG p l e { frames := 4, cells := 0, slots := 0, locals := 94 } s m args below meth c g 4 (vx_MQ below (Qn g s.heap.size (.inl (some (.int rr))) M) (QX g s.heap.size (.inl (some (.int rr))) M) args s 0 0 (AS g s.heap.size)) 0 0 4 [(0, .ref (g.2.1 68)), (1, .int x1), (2, .int x2), (3, .int x3)] [] M) (body := F_Day_cornerAfter_b4 x1 M) ?_ FUEL _ _ (wpO_bind h)
    intro P4 E4 X4
    intro z h
    unfold F_Day_cornerAfter_b4 at h
    refine G_iload_n rfl 3 rfl K dX4_cornerAfter_4 ?_
    refine G_bipush (v := 9) rfl K dX4_cornerAfter_5 ?_
    refine G_icmp_ge (tgt := 36) K dX4_cornerAfter_7 (by decide) (fun hc => ?_) (fun hc => ?_)
    · have h := wpO_t h hc
      have h := X4 _ (wpO_some h)
      try dsimp only at h
      refine G_iload_n rfl 2 rfl K dX4_cornerAfter_36 ?_
      cases hPHI _ (wpO_some h)
      exact G_iret K hr rfl dX4_cornerAfter_37 (Nat.le_of_ble_eq_true rfl) (Nat.le_of_ble_eq_true rfl) ⟨rfl, rfl⟩
    · have h := wpO_f h hc
      refine G_aload_n rfl 0 rfl K dX4_cornerAfter_10 ?_
      refine G_iload_n rfl 3 rfl K dX4_cornerAfter_11 ?_
      obtain ⟨r1, e1, h⟩ := wpO_bind h
      refine G_callVi (ci := 4) [.int z.2] [] K dX4_cornerAfter_12 wv_594 yd_X4_isPoint (Nat.le_of_ble_eq_true rfl) (sh_68 _ _) rfl (by decide) (by decide) rfl rfl (Nat.le_of_ble_eq_true rfl) (K_Day_isPoint l g htr z.2 M _ e1) ?_
      refine G_ifb_eq (tgt := 30) K dX4_cornerAfter_15 (by decide) (fun hc => ?_) (fun hc => ?_)
      · have h := wpO_bf h hc
        refine G_iinc (v := z.2 + 1) 3 rfl K dX4_cornerAfter_30 rfl (Nat.le_of_ble_eq_true rfl) rfl ?_
        refine G_goto (tgt := 4) K dX4_cornerAfter_33 (by decide) ?_
        exact G_lv (lv' := [(0, .ref (g.2.1 68)), (1, .int x1), (2, .int z.1), (3, .int (z.2 + 1))]) [1, 2, 3, 0] rfl (E4 z.1 (z.2 + 1) (wpO_some h))
      · have h := wpO_t h hc
        refine G_aload_n rfl 0 rfl K dX4_cornerAfter_18 ?_
        refine G_iload_n rfl 1 rfl K dX4_cornerAfter_19 ?_
        refine G_iload_n rfl 2 rfl K dX4_cornerAfter_20 ?_
        refine G_iload_n rfl 3 rfl K dX4_cornerAfter_21 ?_
        obtain ⟨r2, e2, h⟩ := wpO_bind h
        refine G_callVi (ci := 4) [.int x1, .int z.1, .int z.2] [] K dX4_cornerAfter_22 wv_611 yd_X4_isFurtherRight (Nat.le_of_ble_eq_true rfl) (sh_68 _ _) rfl (by decide) (by decide) rfl rfl (Nat.le_of_ble_eq_true rfl) (K_Day_isFurtherRight l g htr x1 z.1 z.2 M _ e2) ?_
        refine G_ifb_eq (tgt := 30) K dX4_cornerAfter_25 (by decide) (fun hc => ?_) (fun hc => ?_)
        · have h := wpO_bf h hc
          refine G_iinc (v := z.2 + 1) 3 rfl K dX4_cornerAfter_30 rfl (Nat.le_of_ble_eq_true rfl) rfl ?_
          refine G_goto (tgt := 4) K dX4_cornerAfter_33 (by decide) ?_
          exact G_lv (lv' := [(0, .ref (g.2.1 68)), (1, .int x1), (2, .int z.1), (3, .int (z.2 + 1))]) [1, 2, 3, 0] rfl (E4 z.1 (z.2 + 1) (wpO_some h))
        · have h := wpO_t h hc
          refine G_iload_n rfl 3 rfl K dX4_cornerAfter_28 ?_
          refine G_istore_n rfl K dX4_cornerAfter_29 (Nat.le_of_ble_eq_true rfl) rfl ?_
          refine G_iinc (v := z.2 + 1) 3 rfl K dX4_cornerAfter_30 rfl (Nat.le_of_ble_eq_true rfl) rfl ?_
          refine G_goto (tgt := 4) K dX4_cornerAfter_33 (by decide) ?_
          exact G_lv (lv' := [(0, .ref (g.2.1 68)), (1, .int x1), (2, .int z.2), (3, .int (z.2 + 1))]) [2, 3, 1, 0] rfl (E4 z.2 (z.2 + 1) (wpO_some h))
  unfold F_Day_cornerAfter at h
  refine G_iload_n rfl 1 rfl K dX4_cornerAfter_0 ?_
  refine G_istore_n rfl K dX4_cornerAfter_1 (Nat.le_of_ble_eq_true rfl) rfl ?_
  refine G_iconst (v := 0) rfl K dX4_cornerAfter_2 ?_
  refine G_istore_n rfl K dX4_cornerAfter_3 (Nat.le_of_ble_eq_true rfl) rfl ?_
  exact G_lv (lv' := [(0, .ref (g.2.1 68)), (1, .int x1), (2, .int x1), (3, .int 0)]) [2, 3, 1, 0] rfl (J4 x1 x1 0 h)
theorem yd_X4_firstCorner : ydN yX4_firstCorner 0 := ⟨by decide, by decide, by decide +kernel⟩
theorem yd_X4_cornerAfter : ydN yX4_cornerAfter 1 := ⟨by decide, by decide, by decide +kernel⟩
theorem wv_590 : wdV "KeptWell$Day" 114 yX4_firstCorner cX4_firstCorner 3 (some .int) := ⟨wd_590, wd_592, ws_X4_firstCorner, wd_9, wd_593⟩
theorem wv_607 : wdV "KeptWell$Day" 124 yX4_cornerAfter cX4_cornerAfter 4 (some .int) := ⟨wd_607, wd_609, ws_X4_cornerAfter, wd_9, wd_610⟩
def on_X4_findCorners : Nat := 0xb1aeffa07900b61b2a7900b61c2abbffa07600b61b2a7600b61c2a1d00a209102000b42a3d7c00b61c2a2000b560042000b4592a4800b6857900b61c2a2000b42a2700b42a4800b6857600b61c2a2000b42a2400b42a2000b5032a3d1b3c7200b62a
theorem ob_X4_findCorners : OKB cX4_findCorners on_X4_findCorners 98 := ⟨by decide +kernel, by decide +kernel⟩
theorem dX4_findCorners_0 : dc cX4_findCorners 0 1 (.aload_n 0) 1 := o_42 ob_X4_findCorners rfl rfl rfl
theorem dX4_findCorners_1 : dc cX4_findCorners 1 4 (.invokevirtual 114) 3 := o_182 ob_X4_findCorners rfl rfl rfl rfl
theorem dX4_findCorners_4 : dc cX4_findCorners 4 5 (.istore_n 1) 1 := o_60 ob_X4_findCorners rfl rfl rfl
theorem dX4_findCorners_5 : dc cX4_findCorners 5 6 (.iload_n 1) 1 := o_27 ob_X4_findCorners rfl rfl rfl
theorem dX4_findCorners_6 : dc cX4_findCorners 6 7 (.istore_n 2) 1 := o_61 ob_X4_findCorners rfl rfl rfl
theorem dX4_findCorners_7 : dc cX4_findCorners 7 8 (.aload_n 0) 1 := o_42 ob_X4_findCorners rfl rfl rfl
theorem dX4_findCorners_8 : dc cX4_findCorners 8 9 (.iconst 0) 1 := o_3 ob_X4_findCorners rfl rfl rfl
theorem dX4_findCorners_9 : dc cX4_findCorners 9 12 (.putfield 32) 3 := o_181 ob_X4_findCorners rfl rfl rfl rfl
theorem dX4_findCorners_12 : dc cX4_findCorners 12 13 (.aload_n 0) 1 := o_42 ob_X4_findCorners rfl rfl rfl
theorem dX4_findCorners_13 : dc cX4_findCorners 13 16 (.getfield 36) 3 := o_180 ob_X4_findCorners rfl rfl rfl rfl
theorem dX4_findCorners_16 : dc cX4_findCorners 16 17 (.aload_n 0) 1 := o_42 ob_X4_findCorners rfl rfl rfl
theorem dX4_findCorners_17 : dc cX4_findCorners 17 20 (.getfield 32) 3 := o_180 ob_X4_findCorners rfl rfl rfl rfl
theorem dX4_findCorners_20 : dc cX4_findCorners 20 21 (.aload_n 0) 1 := o_42 ob_X4_findCorners rfl rfl rfl
theorem dX4_findCorners_21 : dc cX4_findCorners 21 22 (.iload_n 2) 1 := o_28 ob_X4_findCorners rfl rfl rfl
theorem dX4_findCorners_22 : dc cX4_findCorners 22 25 (.invokevirtual 118) 3 := o_182 ob_X4_findCorners rfl rfl rfl rfl
theorem dX4_findCorners_25 : dc cX4_findCorners 25 26 .i2l 1 := o_133 ob_X4_findCorners rfl rfl rfl
theorem dX4_findCorners_26 : dc cX4_findCorners 26 29 (.invokevirtual 72) 3 := o_182 ob_X4_findCorners rfl rfl rfl rfl
theorem dX4_findCorners_29 : dc cX4_findCorners 29 30 (.aload_n 0) 1 := o_42 ob_X4_findCorners rfl rfl rfl
theorem dX4_findCorners_30 : dc cX4_findCorners 30 33 (.getfield 39) 3 := o_180 ob_X4_findCorners rfl rfl rfl rfl
theorem dX4_findCorners_33 : dc cX4_findCorners 33 34 (.aload_n 0) 1 := o_42 ob_X4_findCorners rfl rfl rfl
theorem dX4_findCorners_34 : dc cX4_findCorners 34 37 (.getfield 32) 3 := o_180 ob_X4_findCorners rfl rfl rfl rfl
theorem dX4_findCorners_37 : dc cX4_findCorners 37 38 (.aload_n 0) 1 := o_42 ob_X4_findCorners rfl rfl rfl
theorem dX4_findCorners_38 : dc cX4_findCorners 38 39 (.iload_n 2) 1 := o_28 ob_X4_findCorners rfl rfl rfl
theorem dX4_findCorners_39 : dc cX4_findCorners 39 42 (.invokevirtual 121) 3 := o_182 ob_X4_findCorners rfl rfl rfl rfl
theorem dX4_findCorners_42 : dc cX4_findCorners 42 43 .i2l 1 := o_133 ob_X4_findCorners rfl rfl rfl
theorem dX4_findCorners_43 : dc cX4_findCorners 43 46 (.invokevirtual 72) 3 := o_182 ob_X4_findCorners rfl rfl rfl rfl
theorem dX4_findCorners_46 : dc cX4_findCorners 46 47 (.aload_n 0) 1 := o_42 ob_X4_findCorners rfl rfl rfl
theorem dX4_findCorners_47 : dc cX4_findCorners 47 48 .dup 1 := o_89 ob_X4_findCorners rfl rfl rfl
theorem dX4_findCorners_48 : dc cX4_findCorners 48 51 (.getfield 32) 3 := o_180 ob_X4_findCorners rfl rfl rfl rfl
theorem dX4_findCorners_51 : dc cX4_findCorners 51 52 (.iconst 1) 1 := o_4 ob_X4_findCorners rfl rfl rfl
theorem dX4_findCorners_52 : dc cX4_findCorners 52 53 .iadd 1 := o_96 ob_X4_findCorners rfl rfl rfl
theorem dX4_findCorners_53 : dc cX4_findCorners 53 56 (.putfield 32) 3 := o_181 ob_X4_findCorners rfl rfl rfl rfl
theorem dX4_findCorners_56 : dc cX4_findCorners 56 57 (.aload_n 0) 1 := o_42 ob_X4_findCorners rfl rfl rfl
theorem dX4_findCorners_57 : dc cX4_findCorners 57 58 (.iload_n 2) 1 := o_28 ob_X4_findCorners rfl rfl rfl
theorem dX4_findCorners_58 : dc cX4_findCorners 58 61 (.invokevirtual 124) 3 := o_182 ob_X4_findCorners rfl rfl rfl rfl
theorem dX4_findCorners_61 : dc cX4_findCorners 61 62 (.istore_n 2) 1 := o_61 ob_X4_findCorners rfl rfl rfl
theorem dX4_findCorners_62 : dc cX4_findCorners 62 63 (.aload_n 0) 1 := o_42 ob_X4_findCorners rfl rfl rfl
theorem dX4_findCorners_63 : dc cX4_findCorners 63 66 (.getfield 32) 3 := o_180 ob_X4_findCorners rfl rfl rfl rfl
theorem dX4_findCorners_66 : dc cX4_findCorners 66 68 (.bipush 9) 2 := o_16 ob_X4_findCorners rfl rfl rfl rfl
theorem dX4_findCorners_68 : dc cX4_findCorners 68 71 (.if_icmp .ge 29) 3 := o_162 ob_X4_findCorners rfl rfl rfl rfl
theorem dX4_findCorners_71 : dc cX4_findCorners 71 72 (.aload_n 0) 1 := o_42 ob_X4_findCorners rfl rfl rfl
theorem dX4_findCorners_72 : dc cX4_findCorners 72 73 (.iload_n 2) 1 := o_28 ob_X4_findCorners rfl rfl rfl
theorem dX4_findCorners_73 : dc cX4_findCorners 73 76 (.invokevirtual 118) 3 := o_182 ob_X4_findCorners rfl rfl rfl rfl
theorem dX4_findCorners_76 : dc cX4_findCorners 76 77 (.aload_n 0) 1 := o_42 ob_X4_findCorners rfl rfl rfl
theorem dX4_findCorners_77 : dc cX4_findCorners 77 78 (.iload_n 1) 1 := o_27 ob_X4_findCorners rfl rfl rfl
theorem dX4_findCorners_78 : dc cX4_findCorners 78 81 (.invokevirtual 118) 3 := o_182 ob_X4_findCorners rfl rfl rfl rfl
theorem dX4_findCorners_81 : dc cX4_findCorners 81 84 (.if_icmp .ne (-69)) 3 := o_160 ob_X4_findCorners rfl rfl rfl rfl
theorem dX4_findCorners_84 : dc cX4_findCorners 84 85 (.aload_n 0) 1 := o_42 ob_X4_findCorners rfl rfl rfl
theorem dX4_findCorners_85 : dc cX4_findCorners 85 86 (.iload_n 2) 1 := o_28 ob_X4_findCorners rfl rfl rfl
theorem dX4_findCorners_86 : dc cX4_findCorners 86 89 (.invokevirtual 121) 3 := o_182 ob_X4_findCorners rfl rfl rfl rfl
theorem dX4_findCorners_89 : dc cX4_findCorners 89 90 (.aload_n 0) 1 := o_42 ob_X4_findCorners rfl rfl rfl
theorem dX4_findCorners_90 : dc cX4_findCorners 90 91 (.iload_n 1) 1 := o_27 ob_X4_findCorners rfl rfl rfl
theorem dX4_findCorners_91 : dc cX4_findCorners 91 94 (.invokevirtual 121) 3 := o_182 ob_X4_findCorners rfl rfl rfl rfl
theorem dX4_findCorners_94 : dc cX4_findCorners 94 97 (.if_icmp .ne (-82)) 3 := o_160 ob_X4_findCorners rfl rfl rfl rfl
theorem dX4_findCorners_97 : dc cX4_findCorners 97 98 .return_ 1 := o_177 ob_X4_findCorners rfl rfl rfl
def F_Day_findCorners_b12 (x1 : Int32) (z : Int32 × Mem) : Option ((Int32 × Mem) ⊕ ((Mem))) :=
  (F_Day_across z.1 z.2).bind fun r2 => (F_Row_put 74 9 (z.2.1 68 5) r2.toInt64 z.2).bind fun r3 => (F_Day_up z.1 r3).bind fun r4 => (F_Row_put 76 9 (r3.1 68 5) r4.toInt64 r3).bind fun r5 => (F_Day_cornerAfter z.1 (mSI r5 68 5 ((r5.1 68 5) + 1))).bind fun r6 => if 9 ≤ ((mSI r5 68 5 ((r5.1 68 5) + 1)).1 68 5) then some (.inr (mSI r5 68 5 ((r5.1 68 5) + 1))) else (F_Day_across r6 (mSI r5 68 5 ((r5.1 68 5) + 1))).bind fun r7 => (F_Day_across x1 (mSI r5 68 5 ((r5.1 68 5) + 1))).bind fun r8 => if r7 = r8 then (F_Day_up r6 (mSI r5 68 5 ((r5.1 68 5) + 1))).bind fun r9 => (F_Day_up x1 (mSI r5 68 5 ((r5.1 68 5) + 1))).bind fun r10 => if r9 = r10 then some (.inr (mSI r5 68 5 ((r5.1 68 5) + 1))) else some (.inl ((r6, mSI r5 68 5 ((r5.1 68 5) + 1)))) else some (.inl ((r6, mSI r5 68 5 ((r5.1 68 5) + 1))))
def F_Day_findCorners_l12 (x1 : Int32) (x2 : Int32) (M : Mem) : Option (Mem) :=
  (iter (F_Day_findCorners_b12 x1) FUEL (x2, M)).bind fun r => some r
def F_Day_findCorners (M : Mem) : Option (Mem) :=
  (F_Day_firstCorner M).bind fun r1 => F_Day_findCorners_l12 r1 r1 (mSI M 68 5 0)
set_option maxRecDepth 100000 in
set_option maxHeartbeats 4000000 in
theorem K_Day_findCorners (l : Launch) (g : GB) (htr : l.stackTraces = false) (M : Mem) (MZ : Mem) (h : F_Day_findCorners M = some MZ) : CT l g yX4_findCorners (.code yX4_findCorners cX4_findCorners 3 none :: wAll) { frames := 5, cells := 0, slots := 0, locals := 117 } [.ref (g.2.1 68)] M (.inl none) MZ := by
  refine CT.of [(0, .ref (g.2.1 68))] (by decide +kernel) (Nat.le_of_ble_eq_true rfl) rfl htr ?_
  intro p e s m args below meth c K hr ht
  skip
  obtain ⟨PHI, hPHI, h⟩ : ∃ PHI : Mem → Prop, (∀ a, PHI a → a = MZ) ∧ wpO (F_Day_findCorners M) PHI := ⟨fun a => a = MZ, fun _ h => h, _, h, rfl⟩
  have J12 : ∀ (x1 : Int32) (x2 : Int32) (M : Mem), wpO (F_Day_findCorners_l12 x1 x2 M) PHI → GG p l e { frames := 5, cells := 0, slots := 0, locals := 117 } s m args below meth c g 3 (vx_MQ below (Qn g s.heap.size (.inl none) MZ) (QX g s.heap.size (.inl none) MZ) args s 0 0 (AS g s.heap.size)) 0 0 12 [(0, .ref (g.2.1 68)), (1, .int x1), (2, .int x2)] [] M := by
    intro x1 x2 M h
    unfold F_Day_findCorners_l12 at h
    refine loop_C2 (G := fun (x2 : Int32) (M : Mem) => GG p l e { frames := 5, cells := 0, slots := 0, locals := 117 } s m args below meth c g 3 (vx_MQ below (Qn g s.heap.size (.inl none) MZ) (QX g s.heap.size (.inl none) MZ) args s 0 0 (AS g s.heap.size)) 0 0 12 [(0, .ref (g.2.1 68)), (1, .int x1), (2, .int x2)] [] M) (body := F_Day_findCorners_b12 x1) ?_ FUEL _ _ (wpO_bind h)
    intro P12 E12 X12
    intro z h
    unfold F_Day_findCorners_b12 at h
    refine G_aload_n rfl 0 rfl K dX4_findCorners_12 ?_
    refine G_get (ci := 4) (k := 6) K rfl in_X4 wd_289 rfl dX4_findCorners_13 (Nat.le_of_ble_eq_true rfl) (sh_68 _ _) (Nat.le_of_ble_eq_true rfl) rfl ?_
    refine G_aload_n rfl 0 rfl K dX4_findCorners_16 ?_
    refine G_get (ci := 4) (k := 5) K rfl in_X4 wd_287 rfl dX4_findCorners_17 (Nat.le_of_ble_eq_true rfl) (sh_68 _ _) (Nat.le_of_ble_eq_true rfl) rfl ?_
    refine G_aload_n rfl 0 rfl K dX4_findCorners_20 ?_
    refine G_iload_n rfl 2 rfl K dX4_findCorners_21 ?_
    obtain ⟨r2, e2, h⟩ := wpO_bind h
    refine G_callVi (ci := 4) [.int z.1] [.int (z.2.1 68 5), .ref (g.2.1 73)] K dX4_findCorners_22 wv_598 yd_X4_across (Nat.le_of_ble_eq_true rfl) (sh_68 _ _) rfl (by decide) (by decide) rfl rfl (Nat.le_of_ble_eq_true rfl) (K_Day_across l g htr z.1 z.2 _ e2) ?_
    refine G_i2l K dX4_findCorners_25 ?_
    obtain ⟨r3, e3, h⟩ := wpO_bind h
    refine G_callVv (ci := 7) [.int (z.2.1 68 5), .long r2.toInt64] [] K dX4_findCorners_26 wv_606 yd_X7_put (Nat.le_of_ble_eq_true rfl) (sh_73 _ _) rfl (by decide) (by decide) rfl rfl (Nat.le_of_ble_eq_true rfl) (K_Row_put l g htr 73 74 9 isRow_73 (z.2.1 68 5) r2.toInt64 z.2 _ e3) ?_
    refine G_aload_n rfl 0 rfl K dX4_findCorners_29 ?_
    refine G_get (ci := 4) (k := 7) K rfl in_X4 wd_291 rfl dX4_findCorners_30 (Nat.le_of_ble_eq_true rfl) (sh_68 _ _) (Nat.le_of_ble_eq_true rfl) rfl ?_
    refine G_aload_n rfl 0 rfl K dX4_findCorners_33 ?_
    refine G_get (ci := 4) (k := 5) K rfl in_X4 wd_287 rfl dX4_findCorners_34 (Nat.le_of_ble_eq_true rfl) (sh_68 _ _) (Nat.le_of_ble_eq_true rfl) rfl ?_
    refine G_aload_n rfl 0 rfl K dX4_findCorners_37 ?_
    refine G_iload_n rfl 2 rfl K dX4_findCorners_38 ?_
    obtain ⟨r4, e4, h⟩ := wpO_bind h
    refine G_callVi (ci := 4) [.int z.1] [.int (r3.1 68 5), .ref (g.2.1 75)] K dX4_findCorners_39 wv_602 yd_X4_up (Nat.le_of_ble_eq_true rfl) (sh_68 _ _) rfl (by decide) (by decide) rfl rfl (Nat.le_of_ble_eq_true rfl) (K_Day_up l g htr z.1 r3 _ e4) ?_
    refine G_i2l K dX4_findCorners_42 ?_
    obtain ⟨r5, e5, h⟩ := wpO_bind h
    refine G_callVv (ci := 7) [.int (r3.1 68 5), .long r4.toInt64] [] K dX4_findCorners_43 wv_606 yd_X7_put (Nat.le_of_ble_eq_true rfl) (sh_75 _ _) rfl (by decide) (by decide) rfl rfl (Nat.le_of_ble_eq_true rfl) (K_Row_put l g htr 75 76 9 isRow_75 (r3.1 68 5) r4.toInt64 r3 _ e5) ?_
    refine G_aload_n rfl 0 rfl K dX4_findCorners_46 ?_
    refine G_dup rfl K dX4_findCorners_47 ?_
    refine G_get (ci := 4) (k := 5) K rfl in_X4 wd_287 rfl dX4_findCorners_48 (Nat.le_of_ble_eq_true rfl) (sh_68 _ _) (Nat.le_of_ble_eq_true rfl) rfl ?_
    refine G_iconst (v := 1) rfl K dX4_findCorners_51 ?_
    refine G_iadd K dX4_findCorners_52 ?_
    refine G_putI (ci := 4) (k := 5) (ty := .int) K rfl in_X4 tyX4 tyX4_ok nmX4 wd_287 rfl rfl rfl rfl rfl dX4_findCorners_53 (Nat.le_of_ble_eq_true rfl) (sh_68 _ _) (sh_68 _ _) (Nat.le_of_ble_eq_true rfl) (Nat.le_of_ble_eq_true rfl) rfl ?_
    refine G_aload_n rfl 0 rfl K dX4_findCorners_56 ?_
    refine G_iload_n rfl 2 rfl K dX4_findCorners_57 ?_
    obtain ⟨r6, e6, h⟩ := wpO_bind h
    refine G_callVi (ci := 4) [.int z.1] [] K dX4_findCorners_58 wv_607 yd_X4_cornerAfter (Nat.le_of_ble_eq_true rfl) (sh_68 _ _) rfl (by decide) (by decide) rfl rfl (Nat.le_of_ble_eq_true rfl) (K_Day_cornerAfter l g htr z.1 (mSI r5 68 5 ((r5.1 68 5) + 1)) _ e6) ?_
    refine G_istore_n rfl K dX4_findCorners_61 (Nat.le_of_ble_eq_true rfl) rfl ?_
    refine G_aload_n rfl 1 rfl K dX4_findCorners_62 ?_
    refine G_get (ci := 4) (k := 5) K rfl in_X4 wd_287 rfl dX4_findCorners_63 (Nat.le_of_ble_eq_true rfl) (sh_68 _ _) (Nat.le_of_ble_eq_true rfl) rfl ?_
    refine G_bipush (v := 9) rfl K dX4_findCorners_66 ?_
    refine G_icmp_ge (tgt := 97) K dX4_findCorners_68 (by decide) (fun hc => ?_) (fun hc => ?_)
    · have h := wpO_t h hc
      have h := X12 _ (wpO_some h)
      try dsimp only at h
      cases hPHI _ (wpO_some h)
      exact G_vret K hr dX4_findCorners_97 (Nat.le_of_ble_eq_true rfl) (Nat.le_of_ble_eq_true rfl) ⟨rfl, rfl⟩
    · have h := wpO_f h hc
      refine G_aload_n rfl 1 rfl K dX4_findCorners_71 ?_
      refine G_iload_n rfl 0 rfl K dX4_findCorners_72 ?_
      obtain ⟨r7, e7, h⟩ := wpO_bind h
      refine G_callVi (ci := 4) [.int r6] [] K dX4_findCorners_73 wv_598 yd_X4_across (Nat.le_of_ble_eq_true rfl) (sh_68 _ _) rfl (by decide) (by decide) rfl rfl (Nat.le_of_ble_eq_true rfl) (K_Day_across l g htr r6 (mSI r5 68 5 ((r5.1 68 5) + 1)) _ e7) ?_
      refine G_aload_n rfl 1 rfl K dX4_findCorners_76 ?_
      refine G_iload_n rfl 2 rfl K dX4_findCorners_77 ?_
      obtain ⟨r8, e8, h⟩ := wpO_bind h
      refine G_callVi (ci := 4) [.int x1] [.int r7] K dX4_findCorners_78 wv_598 yd_X4_across (Nat.le_of_ble_eq_true rfl) (sh_68 _ _) rfl (by decide) (by decide) rfl rfl (Nat.le_of_ble_eq_true rfl) (K_Day_across l g htr x1 (mSI r5 68 5 ((r5.1 68 5) + 1)) _ e8) ?_
      refine G_icmp_ne (tgt := 12) K dX4_findCorners_81 (by decide) (fun hc => ?_) (fun hc => ?_)
      · have h := wpO_f h hc
        exact G_lv (lv' := [(0, .ref (g.2.1 68)), (1, .int x1), (2, .int r6)]) [1, 2, 0] rfl (E12 r6 (mSI r5 68 5 ((r5.1 68 5) + 1)) (wpO_some h))
      · have h := wpO_t h hc
        refine G_aload_n rfl 1 rfl K dX4_findCorners_84 ?_
        refine G_iload_n rfl 0 rfl K dX4_findCorners_85 ?_
        obtain ⟨r9, e9, h⟩ := wpO_bind h
        refine G_callVi (ci := 4) [.int r6] [] K dX4_findCorners_86 wv_602 yd_X4_up (Nat.le_of_ble_eq_true rfl) (sh_68 _ _) rfl (by decide) (by decide) rfl rfl (Nat.le_of_ble_eq_true rfl) (K_Day_up l g htr r6 (mSI r5 68 5 ((r5.1 68 5) + 1)) _ e9) ?_
        refine G_aload_n rfl 1 rfl K dX4_findCorners_89 ?_
        refine G_iload_n rfl 2 rfl K dX4_findCorners_90 ?_
        obtain ⟨r10, e10, h⟩ := wpO_bind h
        refine G_callVi (ci := 4) [.int x1] [.int r9] K dX4_findCorners_91 wv_602 yd_X4_up (Nat.le_of_ble_eq_true rfl) (sh_68 _ _) rfl (by decide) (by decide) rfl rfl (Nat.le_of_ble_eq_true rfl) (K_Day_up l g htr x1 (mSI r5 68 5 ((r5.1 68 5) + 1)) _ e10) ?_
        refine G_icmp_ne (tgt := 12) K dX4_findCorners_94 (by decide) (fun hc => ?_) (fun hc => ?_)
        · have h := wpO_f h hc
          exact G_lv (lv' := [(0, .ref (g.2.1 68)), (1, .int x1), (2, .int r6)]) [1, 2, 0] rfl (E12 r6 (mSI r5 68 5 ((r5.1 68 5) + 1)) (wpO_some h))
        · have h := wpO_t h hc
          have h := X12 _ (wpO_some h)
          try dsimp only at h
          cases hPHI _ (wpO_some h)
          exact G_vret K hr dX4_findCorners_97 (Nat.le_of_ble_eq_true rfl) (Nat.le_of_ble_eq_true rfl) ⟨rfl, rfl⟩
  unfold F_Day_findCorners at h
  refine G_aload_n rfl 0 rfl K dX4_findCorners_0 ?_
  obtain ⟨r1, e1, h⟩ := wpO_bind h
  refine G_callVi (ci := 4) [] [] K dX4_findCorners_1 wv_590 yd_X4_firstCorner (Nat.le_of_ble_eq_true rfl) (sh_68 _ _) rfl (by decide) (by decide) rfl rfl (Nat.le_of_ble_eq_true rfl) (K_Day_firstCorner l g htr  M _ e1) ?_
  refine G_istore_n rfl K dX4_findCorners_4 (Nat.le_of_ble_eq_true rfl) rfl ?_
  refine G_iload_n rfl 0 rfl K dX4_findCorners_5 ?_
  refine G_istore_n rfl K dX4_findCorners_6 (Nat.le_of_ble_eq_true rfl) rfl ?_
  refine G_aload_n rfl 2 rfl K dX4_findCorners_7 ?_
  refine G_iconst (v := 0) rfl K dX4_findCorners_8 ?_
  refine G_putI (ci := 4) (k := 5) (ty := .int) K rfl in_X4 tyX4 tyX4_ok nmX4 wd_287 rfl rfl rfl rfl rfl dX4_findCorners_9 (Nat.le_of_ble_eq_true rfl) (sh_68 _ _) (sh_68 _ _) (Nat.le_of_ble_eq_true rfl) (Nat.le_of_ble_eq_true rfl) rfl ?_
  exact G_lv (lv' := [(0, .ref (g.2.1 68)), (1, .int r1), (2, .int r1)]) [2, 1, 0] rfl (J12 r1 r1 (mSI M 68 5 0) h)
theorem wv_1136 : wdS "KeptWell$Day" 138 yJ9_max_f86c9 cJ9_max_f86c9 4 (some .long) := ⟨wd_1136, wd_1137, wd_4, wd_1138⟩
def on_X4_isBetweenEnds : Nat := 0xac030400a70407009d9469851d0516851c12009b9469851d0716851c1d009d9469851d6700b604152400b42a851b2f009b9469851d6700b6032400b42a851b07376e00b86700b604152700b42a6700b6032700b42a05378a00b86700b604152700b42a6700b6032700b42a043664042000b42a
theorem ob_X4_isBetweenEnds : OKB cX4_isBetweenEnds on_X4_isBetweenEnds 115 := ⟨by decide +kernel, by decide +kernel⟩
theorem dX4_isBetweenEnds_0 : dc cX4_isBetweenEnds 0 1 (.aload_n 0) 1 := o_42 ob_X4_isBetweenEnds rfl rfl rfl
theorem dX4_isBetweenEnds_1 : dc cX4_isBetweenEnds 1 4 (.getfield 32) 3 := o_180 ob_X4_isBetweenEnds rfl rfl rfl rfl
theorem dX4_isBetweenEnds_4 : dc cX4_isBetweenEnds 4 5 (.iconst 1) 1 := o_4 ob_X4_isBetweenEnds rfl rfl rfl
theorem dX4_isBetweenEnds_5 : dc cX4_isBetweenEnds 5 6 .isub 1 := o_100 ob_X4_isBetweenEnds rfl rfl rfl
theorem dX4_isBetweenEnds_6 : dc cX4_isBetweenEnds 6 8 (.istore 4) 2 := o_54 ob_X4_isBetweenEnds rfl rfl rfl rfl
theorem dX4_isBetweenEnds_8 : dc cX4_isBetweenEnds 8 9 (.aload_n 0) 1 := o_42 ob_X4_isBetweenEnds rfl rfl rfl
theorem dX4_isBetweenEnds_9 : dc cX4_isBetweenEnds 9 12 (.getfield 39) 3 := o_180 ob_X4_isBetweenEnds rfl rfl rfl rfl
theorem dX4_isBetweenEnds_12 : dc cX4_isBetweenEnds 12 13 (.iconst 0) 1 := o_3 ob_X4_isBetweenEnds rfl rfl rfl
theorem dX4_isBetweenEnds_13 : dc cX4_isBetweenEnds 13 16 (.invokevirtual 103) 3 := o_182 ob_X4_isBetweenEnds rfl rfl rfl rfl
theorem dX4_isBetweenEnds_16 : dc cX4_isBetweenEnds 16 17 (.aload_n 0) 1 := o_42 ob_X4_isBetweenEnds rfl rfl rfl
theorem dX4_isBetweenEnds_17 : dc cX4_isBetweenEnds 17 20 (.getfield 39) 3 := o_180 ob_X4_isBetweenEnds rfl rfl rfl rfl
theorem dX4_isBetweenEnds_20 : dc cX4_isBetweenEnds 20 22 (.iload 4) 2 := o_21 ob_X4_isBetweenEnds rfl rfl rfl rfl
theorem dX4_isBetweenEnds_22 : dc cX4_isBetweenEnds 22 25 (.invokevirtual 103) 3 := o_182 ob_X4_isBetweenEnds rfl rfl rfl rfl
theorem dX4_isBetweenEnds_25 : dc cX4_isBetweenEnds 25 28 (.invokestatic 138) 3 := o_184 ob_X4_isBetweenEnds rfl rfl rfl rfl
theorem dX4_isBetweenEnds_28 : dc cX4_isBetweenEnds 28 30 (.lstore 5) 2 := o_55 ob_X4_isBetweenEnds rfl rfl rfl rfl
theorem dX4_isBetweenEnds_30 : dc cX4_isBetweenEnds 30 31 (.aload_n 0) 1 := o_42 ob_X4_isBetweenEnds rfl rfl rfl
theorem dX4_isBetweenEnds_31 : dc cX4_isBetweenEnds 31 34 (.getfield 39) 3 := o_180 ob_X4_isBetweenEnds rfl rfl rfl rfl
theorem dX4_isBetweenEnds_34 : dc cX4_isBetweenEnds 34 35 (.iconst 0) 1 := o_3 ob_X4_isBetweenEnds rfl rfl rfl
theorem dX4_isBetweenEnds_35 : dc cX4_isBetweenEnds 35 38 (.invokevirtual 103) 3 := o_182 ob_X4_isBetweenEnds rfl rfl rfl rfl
theorem dX4_isBetweenEnds_38 : dc cX4_isBetweenEnds 38 39 (.aload_n 0) 1 := o_42 ob_X4_isBetweenEnds rfl rfl rfl
theorem dX4_isBetweenEnds_39 : dc cX4_isBetweenEnds 39 42 (.getfield 39) 3 := o_180 ob_X4_isBetweenEnds rfl rfl rfl rfl
theorem dX4_isBetweenEnds_42 : dc cX4_isBetweenEnds 42 44 (.iload 4) 2 := o_21 ob_X4_isBetweenEnds rfl rfl rfl rfl
theorem dX4_isBetweenEnds_44 : dc cX4_isBetweenEnds 44 47 (.invokevirtual 103) 3 := o_182 ob_X4_isBetweenEnds rfl rfl rfl rfl
theorem dX4_isBetweenEnds_47 : dc cX4_isBetweenEnds 47 50 (.invokestatic 110) 3 := o_184 ob_X4_isBetweenEnds rfl rfl rfl rfl
theorem dX4_isBetweenEnds_50 : dc cX4_isBetweenEnds 50 52 (.lstore 7) 2 := o_55 ob_X4_isBetweenEnds rfl rfl rfl rfl
theorem dX4_isBetweenEnds_52 : dc cX4_isBetweenEnds 52 53 (.iload_n 1) 1 := o_27 ob_X4_isBetweenEnds rfl rfl rfl
theorem dX4_isBetweenEnds_53 : dc cX4_isBetweenEnds 53 54 .i2l 1 := o_133 ob_X4_isBetweenEnds rfl rfl rfl
theorem dX4_isBetweenEnds_54 : dc cX4_isBetweenEnds 54 55 (.aload_n 0) 1 := o_42 ob_X4_isBetweenEnds rfl rfl rfl
theorem dX4_isBetweenEnds_55 : dc cX4_isBetweenEnds 55 58 (.getfield 36) 3 := o_180 ob_X4_isBetweenEnds rfl rfl rfl rfl
theorem dX4_isBetweenEnds_58 : dc cX4_isBetweenEnds 58 59 (.iconst 0) 1 := o_3 ob_X4_isBetweenEnds rfl rfl rfl
theorem dX4_isBetweenEnds_59 : dc cX4_isBetweenEnds 59 62 (.invokevirtual 103) 3 := o_182 ob_X4_isBetweenEnds rfl rfl rfl rfl
theorem dX4_isBetweenEnds_62 : dc cX4_isBetweenEnds 62 63 (.iload_n 3) 1 := o_29 ob_X4_isBetweenEnds rfl rfl rfl
theorem dX4_isBetweenEnds_63 : dc cX4_isBetweenEnds 63 64 .i2l 1 := o_133 ob_X4_isBetweenEnds rfl rfl rfl
theorem dX4_isBetweenEnds_64 : dc cX4_isBetweenEnds 64 65 .lmul 1 := o_105 ob_X4_isBetweenEnds rfl rfl rfl
theorem dX4_isBetweenEnds_65 : dc cX4_isBetweenEnds 65 66 .lcmp 1 := o_148 ob_X4_isBetweenEnds rfl rfl rfl
theorem dX4_isBetweenEnds_66 : dc cX4_isBetweenEnds 66 69 (.ifCond .lt 47) 3 := o_155 ob_X4_isBetweenEnds rfl rfl rfl rfl
theorem dX4_isBetweenEnds_69 : dc cX4_isBetweenEnds 69 70 (.iload_n 1) 1 := o_27 ob_X4_isBetweenEnds rfl rfl rfl
theorem dX4_isBetweenEnds_70 : dc cX4_isBetweenEnds 70 71 .i2l 1 := o_133 ob_X4_isBetweenEnds rfl rfl rfl
theorem dX4_isBetweenEnds_71 : dc cX4_isBetweenEnds 71 72 (.aload_n 0) 1 := o_42 ob_X4_isBetweenEnds rfl rfl rfl
theorem dX4_isBetweenEnds_72 : dc cX4_isBetweenEnds 72 75 (.getfield 36) 3 := o_180 ob_X4_isBetweenEnds rfl rfl rfl rfl
theorem dX4_isBetweenEnds_75 : dc cX4_isBetweenEnds 75 77 (.iload 4) 2 := o_21 ob_X4_isBetweenEnds rfl rfl rfl rfl
theorem dX4_isBetweenEnds_77 : dc cX4_isBetweenEnds 77 80 (.invokevirtual 103) 3 := o_182 ob_X4_isBetweenEnds rfl rfl rfl rfl
theorem dX4_isBetweenEnds_80 : dc cX4_isBetweenEnds 80 81 (.iload_n 3) 1 := o_29 ob_X4_isBetweenEnds rfl rfl rfl
theorem dX4_isBetweenEnds_81 : dc cX4_isBetweenEnds 81 82 .i2l 1 := o_133 ob_X4_isBetweenEnds rfl rfl rfl
theorem dX4_isBetweenEnds_82 : dc cX4_isBetweenEnds 82 83 .lmul 1 := o_105 ob_X4_isBetweenEnds rfl rfl rfl
theorem dX4_isBetweenEnds_83 : dc cX4_isBetweenEnds 83 84 .lcmp 1 := o_148 ob_X4_isBetweenEnds rfl rfl rfl
theorem dX4_isBetweenEnds_84 : dc cX4_isBetweenEnds 84 87 (.ifCond .gt 29) 3 := o_157 ob_X4_isBetweenEnds rfl rfl rfl rfl
theorem dX4_isBetweenEnds_87 : dc cX4_isBetweenEnds 87 88 (.iload_n 2) 1 := o_28 ob_X4_isBetweenEnds rfl rfl rfl
theorem dX4_isBetweenEnds_88 : dc cX4_isBetweenEnds 88 89 .i2l 1 := o_133 ob_X4_isBetweenEnds rfl rfl rfl
theorem dX4_isBetweenEnds_89 : dc cX4_isBetweenEnds 89 91 (.lload 7) 2 := o_22 ob_X4_isBetweenEnds rfl rfl rfl rfl
theorem dX4_isBetweenEnds_91 : dc cX4_isBetweenEnds 91 92 (.iload_n 3) 1 := o_29 ob_X4_isBetweenEnds rfl rfl rfl
theorem dX4_isBetweenEnds_92 : dc cX4_isBetweenEnds 92 93 .i2l 1 := o_133 ob_X4_isBetweenEnds rfl rfl rfl
theorem dX4_isBetweenEnds_93 : dc cX4_isBetweenEnds 93 94 .lmul 1 := o_105 ob_X4_isBetweenEnds rfl rfl rfl
theorem dX4_isBetweenEnds_94 : dc cX4_isBetweenEnds 94 95 .lcmp 1 := o_148 ob_X4_isBetweenEnds rfl rfl rfl
theorem dX4_isBetweenEnds_95 : dc cX4_isBetweenEnds 95 98 (.ifCond .lt 18) 3 := o_155 ob_X4_isBetweenEnds rfl rfl rfl rfl
theorem dX4_isBetweenEnds_98 : dc cX4_isBetweenEnds 98 99 (.iload_n 2) 1 := o_28 ob_X4_isBetweenEnds rfl rfl rfl
theorem dX4_isBetweenEnds_99 : dc cX4_isBetweenEnds 99 100 .i2l 1 := o_133 ob_X4_isBetweenEnds rfl rfl rfl
theorem dX4_isBetweenEnds_100 : dc cX4_isBetweenEnds 100 102 (.lload 5) 2 := o_22 ob_X4_isBetweenEnds rfl rfl rfl rfl
theorem dX4_isBetweenEnds_102 : dc cX4_isBetweenEnds 102 103 (.iload_n 3) 1 := o_29 ob_X4_isBetweenEnds rfl rfl rfl
theorem dX4_isBetweenEnds_103 : dc cX4_isBetweenEnds 103 104 .i2l 1 := o_133 ob_X4_isBetweenEnds rfl rfl rfl
theorem dX4_isBetweenEnds_104 : dc cX4_isBetweenEnds 104 105 .lmul 1 := o_105 ob_X4_isBetweenEnds rfl rfl rfl
theorem dX4_isBetweenEnds_105 : dc cX4_isBetweenEnds 105 106 .lcmp 1 := o_148 ob_X4_isBetweenEnds rfl rfl rfl
theorem dX4_isBetweenEnds_106 : dc cX4_isBetweenEnds 106 109 (.ifCond .gt 7) 3 := o_157 ob_X4_isBetweenEnds rfl rfl rfl rfl
theorem dX4_isBetweenEnds_109 : dc cX4_isBetweenEnds 109 110 (.iconst 1) 1 := o_4 ob_X4_isBetweenEnds rfl rfl rfl
theorem dX4_isBetweenEnds_110 : dc cX4_isBetweenEnds 110 113 (.goto 4) 3 := o_167 ob_X4_isBetweenEnds rfl rfl rfl rfl
theorem dX4_isBetweenEnds_113 : dc cX4_isBetweenEnds 113 114 (.iconst 0) 1 := o_3 ob_X4_isBetweenEnds rfl rfl rfl
theorem dX4_isBetweenEnds_114 : dc cX4_isBetweenEnds 114 115 .ireturn 1 := o_172 ob_X4_isBetweenEnds rfl rfl rfl
def F_Day_isBetweenEnds (x1 : Int32) (x2 : Int32) (x3 : Int32) (M : Mem) : Option (Bool) :=
  (F_Row_at 76 9 0 M).bind fun r1 => (F_Row_at 76 9 ((M.1 68 5) - 1) M).bind fun r2 => (F_Math_max_JJJ r1 r2 M).bind fun r3 => (F_Row_at 76 9 0 M).bind fun r4 => (F_Row_at 76 9 ((M.1 68 5) - 1) M).bind fun r5 => (F_Math_min_JJJ r4 r5 M).bind fun r6 => (F_Row_at 74 9 0 M).bind fun r7 => if x1.toInt64 < (r7 * x3.toInt64) then some false else (F_Row_at 74 9 ((M.1 68 5) - 1) M).bind fun r8 => if (r8 * x3.toInt64) < x1.toInt64 then some false else if x2.toInt64 < (r6 * x3.toInt64) then some false else if (r3 * x3.toInt64) < x2.toInt64 then some false else some true
set_option maxRecDepth 100000 in
set_option maxHeartbeats 4000000 in
theorem K_Day_isBetweenEnds (l : Launch) (g : GB) (htr : l.stackTraces = false) (x1 : Int32) (x2 : Int32) (x3 : Int32) (M : Mem) (rr : Bool) (h : F_Day_isBetweenEnds x1 x2 x3 M = some rr) : CT l g yX4_isBetweenEnds (.code yX4_isBetweenEnds cX4_isBetweenEnds 9 (some .boolean) :: wAll) { frames := 1, cells := 0, slots := 0, locals := 23 } [.ref (g.2.1 68), .int x1, .int x2, .int x3] M (.inl (some (.int (b2i rr)))) M := by
  refine CT.of [(0, .ref (g.2.1 68)), (1, .int x1), (2, .int x2), (3, .int x3)] (by decide +kernel) (Nat.le_of_ble_eq_true rfl) rfl htr ?_
  intro p e s m args below meth c K hr ht
  skip
  obtain ⟨PHI, hPHI, h⟩ : ∃ PHI : Bool → Prop, (∀ a, PHI a → a = rr) ∧ wpO (F_Day_isBetweenEnds x1 x2 x3 M) PHI := ⟨fun a => a = rr, fun _ h => h, _, h, rfl⟩
  unfold F_Day_isBetweenEnds at h
  refine G_aload_n rfl 0 rfl K dX4_isBetweenEnds_0 ?_
  refine G_get (ci := 4) (k := 5) K rfl in_X4 wd_287 rfl dX4_isBetweenEnds_1 (Nat.le_of_ble_eq_true rfl) (sh_68 _ _) (Nat.le_of_ble_eq_true rfl) rfl ?_
  refine G_iconst (v := 1) rfl K dX4_isBetweenEnds_4 ?_
  refine G_isub K dX4_isBetweenEnds_5 ?_
  refine G_istore K dX4_isBetweenEnds_6 (Nat.le_of_ble_eq_true rfl) rfl ?_
  refine G_aload_n rfl 1 rfl K dX4_isBetweenEnds_8 ?_
  refine G_get (ci := 4) (k := 7) K rfl in_X4 wd_291 rfl dX4_isBetweenEnds_9 (Nat.le_of_ble_eq_true rfl) (sh_68 _ _) (Nat.le_of_ble_eq_true rfl) rfl ?_
  refine G_iconst (v := 0) rfl K dX4_isBetweenEnds_12 ?_
  obtain ⟨r1, e1, h⟩ := wpO_bind h
  refine G_callVl (ci := 7) [.int 0] [] K dX4_isBetweenEnds_13 wv_1102 yd_X7_at (Nat.le_of_ble_eq_true rfl) (sh_75 _ _) rfl (by decide) (by decide) rfl rfl (Nat.le_of_ble_eq_true rfl) (K_Row_at l g htr 75 76 9 isRow_75 0 M _ e1) ?_
  refine G_aload_n rfl 1 rfl K dX4_isBetweenEnds_16 ?_
  refine G_get (ci := 4) (k := 7) K rfl in_X4 wd_291 rfl dX4_isBetweenEnds_17 (Nat.le_of_ble_eq_true rfl) (sh_68 _ _) (Nat.le_of_ble_eq_true rfl) rfl ?_
  refine G_iload 0 rfl K dX4_isBetweenEnds_20 ?_
  obtain ⟨r2, e2, h⟩ := wpO_bind h
  refine G_callVl (ci := 7) [.int ((M.1 68 5) - 1)] [.long r1] K dX4_isBetweenEnds_22 wv_1102 yd_X7_at (Nat.le_of_ble_eq_true rfl) (sh_75 _ _) rfl (by decide) (by decide) rfl rfl (Nat.le_of_ble_eq_true rfl) (K_Row_at l g htr 75 76 9 isRow_75 ((M.1 68 5) - 1) M _ e2) ?_
  obtain ⟨r3, e3, h⟩ := wpO_bind h
  refine G_callSl [.long r1, .long r2] [] K dX4_isBetweenEnds_25 wv_1136 yd_J9_max_f86c9 (by decide) (by decide) rfl rfl (Nat.le_of_ble_eq_true rfl) (K_Math_max_JJJ l g htr r1 r2 M _ e3) ?_
  refine G_lstore K dX4_isBetweenEnds_28 (Nat.le_of_ble_eq_true rfl) rfl ?_
  refine G_aload_n rfl 2 rfl K dX4_isBetweenEnds_30 ?_
  refine G_get (ci := 4) (k := 7) K rfl in_X4 wd_291 rfl dX4_isBetweenEnds_31 (Nat.le_of_ble_eq_true rfl) (sh_68 _ _) (Nat.le_of_ble_eq_true rfl) rfl ?_
  refine G_iconst (v := 0) rfl K dX4_isBetweenEnds_34 ?_
  obtain ⟨r4, e4, h⟩ := wpO_bind h
  refine G_callVl (ci := 7) [.int 0] [] K dX4_isBetweenEnds_35 wv_1102 yd_X7_at (Nat.le_of_ble_eq_true rfl) (sh_75 _ _) rfl (by decide) (by decide) rfl rfl (Nat.le_of_ble_eq_true rfl) (K_Row_at l g htr 75 76 9 isRow_75 0 M _ e4) ?_
  refine G_aload_n rfl 2 rfl K dX4_isBetweenEnds_38 ?_
  refine G_get (ci := 4) (k := 7) K rfl in_X4 wd_291 rfl dX4_isBetweenEnds_39 (Nat.le_of_ble_eq_true rfl) (sh_68 _ _) (Nat.le_of_ble_eq_true rfl) rfl ?_
  refine G_iload 1 rfl K dX4_isBetweenEnds_42 ?_
  obtain ⟨r5, e5, h⟩ := wpO_bind h
  refine G_callVl (ci := 7) [.int ((M.1 68 5) - 1)] [.long r4] K dX4_isBetweenEnds_44 wv_1102 yd_X7_at (Nat.le_of_ble_eq_true rfl) (sh_75 _ _) rfl (by decide) (by decide) rfl rfl (Nat.le_of_ble_eq_true rfl) (K_Row_at l g htr 75 76 9 isRow_75 ((M.1 68 5) - 1) M _ e5) ?_
  obtain ⟨r6, e6, h⟩ := wpO_bind h
  refine G_callSl [.long r4, .long r5] [] K dX4_isBetweenEnds_47 wv_1107 yd_J9_min_f86c9 (by decide) (by decide) rfl rfl (Nat.le_of_ble_eq_true rfl) (K_Math_min_JJJ l g htr r4 r5 M _ e6) ?_
  refine G_lstore K dX4_isBetweenEnds_50 (Nat.le_of_ble_eq_true rfl) rfl ?_
  refine G_iload_n rfl 4 rfl K dX4_isBetweenEnds_52 ?_
  refine G_i2l K dX4_isBetweenEnds_53 ?_
  refine G_aload_n rfl 3 rfl K dX4_isBetweenEnds_54 ?_
  refine G_get (ci := 4) (k := 6) K rfl in_X4 wd_289 rfl dX4_isBetweenEnds_55 (Nat.le_of_ble_eq_true rfl) (sh_68 _ _) (Nat.le_of_ble_eq_true rfl) rfl ?_
  refine G_iconst (v := 0) rfl K dX4_isBetweenEnds_58 ?_
  obtain ⟨r7, e7, h⟩ := wpO_bind h
  refine G_callVl (ci := 7) [.int 0] [.long x1.toInt64] K dX4_isBetweenEnds_59 wv_1102 yd_X7_at (Nat.le_of_ble_eq_true rfl) (sh_73 _ _) rfl (by decide) (by decide) rfl rfl (Nat.le_of_ble_eq_true rfl) (K_Row_at l g htr 73 74 9 isRow_73 0 M _ e7) ?_
  refine G_iload_n rfl 6 rfl K dX4_isBetweenEnds_62 ?_
  refine G_i2l K dX4_isBetweenEnds_63 ?_
  refine G_lmul K dX4_isBetweenEnds_64 ?_
  refine G_lcmp_lt (tgt := 113) K dX4_isBetweenEnds_65 dX4_isBetweenEnds_66 (by decide) (fun hc => ?_) (fun hc => ?_)
  · have h := wpO_t h hc
    refine G_iconst (v := 0) rfl K dX4_isBetweenEnds_113 ?_
    cases hPHI _ (wpO_some h)
    exact G_iret K hr rfl dX4_isBetweenEnds_114 (Nat.le_of_ble_eq_true rfl) (Nat.le_of_ble_eq_true rfl) ⟨rfl, rfl⟩
  · have h := wpO_f h hc
    refine G_iload_n rfl 4 rfl K dX4_isBetweenEnds_69 ?_
    refine G_i2l K dX4_isBetweenEnds_70 ?_
    refine G_aload_n rfl 3 rfl K dX4_isBetweenEnds_71 ?_
    refine G_get (ci := 4) (k := 6) K rfl in_X4 wd_289 rfl dX4_isBetweenEnds_72 (Nat.le_of_ble_eq_true rfl) (sh_68 _ _) (Nat.le_of_ble_eq_true rfl) rfl ?_
    refine G_iload 2 rfl K dX4_isBetweenEnds_75 ?_
    obtain ⟨r8, e8, h⟩ := wpO_bind h
    refine G_callVl (ci := 7) [.int ((M.1 68 5) - 1)] [.long x1.toInt64] K dX4_isBetweenEnds_77 wv_1102 yd_X7_at (Nat.le_of_ble_eq_true rfl) (sh_73 _ _) rfl (by decide) (by decide) rfl rfl (Nat.le_of_ble_eq_true rfl) (K_Row_at l g htr 73 74 9 isRow_73 ((M.1 68 5) - 1) M _ e8) ?_
    refine G_iload_n rfl 6 rfl K dX4_isBetweenEnds_80 ?_
    refine G_i2l K dX4_isBetweenEnds_81 ?_
    refine G_lmul K dX4_isBetweenEnds_82 ?_
    refine G_lcmp_gt (tgt := 113) K dX4_isBetweenEnds_83 dX4_isBetweenEnds_84 (by decide) (fun hc => ?_) (fun hc => ?_)
    · have h := wpO_t h hc
      refine G_iconst (v := 0) rfl K dX4_isBetweenEnds_113 ?_
      cases hPHI _ (wpO_some h)
      exact G_iret K hr rfl dX4_isBetweenEnds_114 (Nat.le_of_ble_eq_true rfl) (Nat.le_of_ble_eq_true rfl) ⟨rfl, rfl⟩
    · have h := wpO_f h hc
      refine G_iload_n rfl 5 rfl K dX4_isBetweenEnds_87 ?_
      refine G_i2l K dX4_isBetweenEnds_88 ?_
      refine G_lload 0 rfl K dX4_isBetweenEnds_89 ?_
      refine G_iload_n rfl 6 rfl K dX4_isBetweenEnds_91 ?_
      refine G_i2l K dX4_isBetweenEnds_92 ?_
      refine G_lmul K dX4_isBetweenEnds_93 ?_
      refine G_lcmp_lt (tgt := 113) K dX4_isBetweenEnds_94 dX4_isBetweenEnds_95 (by decide) (fun hc => ?_) (fun hc => ?_)
      · have h := wpO_t h hc
        refine G_iconst (v := 0) rfl K dX4_isBetweenEnds_113 ?_
        cases hPHI _ (wpO_some h)
        exact G_iret K hr rfl dX4_isBetweenEnds_114 (Nat.le_of_ble_eq_true rfl) (Nat.le_of_ble_eq_true rfl) ⟨rfl, rfl⟩
      · have h := wpO_f h hc
        refine G_iload_n rfl 5 rfl K dX4_isBetweenEnds_98 ?_
        refine G_i2l K dX4_isBetweenEnds_99 ?_
        refine G_lload 1 rfl K dX4_isBetweenEnds_100 ?_
        refine G_iload_n rfl 6 rfl K dX4_isBetweenEnds_102 ?_
        refine G_i2l K dX4_isBetweenEnds_103 ?_
        refine G_lmul K dX4_isBetweenEnds_104 ?_
        refine G_lcmp_gt (tgt := 113) K dX4_isBetweenEnds_105 dX4_isBetweenEnds_106 (by decide) (fun hc => ?_) (fun hc => ?_)
        · have h := wpO_t h hc
          refine G_iconst (v := 0) rfl K dX4_isBetweenEnds_113 ?_
          cases hPHI _ (wpO_some h)
          exact G_iret K hr rfl dX4_isBetweenEnds_114 (Nat.le_of_ble_eq_true rfl) (Nat.le_of_ble_eq_true rfl) ⟨rfl, rfl⟩
        · have h := wpO_f h hc
          refine G_iconst (v := 1) rfl K dX4_isBetweenEnds_109 ?_
          refine G_goto (tgt := 114) K dX4_isBetweenEnds_110 (by decide) ?_
          cases hPHI _ (wpO_some h)
          exact G_iret K hr rfl dX4_isBetweenEnds_114 (Nat.le_of_ble_eq_true rfl) (Nat.le_of_ble_eq_true rfl) ⟨rfl, rfl⟩
theorem yd_X4_isBetweenEnds : ydN yX4_isBetweenEnds 3 := ⟨by decide, by decide, by decide +kernel⟩
theorem wv_1132 : wdV "KeptWell$Day" 135 yX4_isBetweenEnds cX4_isBetweenEnds 9 (some .boolean) := ⟨wd_1132, wd_1134, ws_X4_isBetweenEnds, wd_9, wd_1135⟩
def on_X4_bodyHas : Nat := 0xac030400a7040700998700b61d1c1b2a0d00a3052000b42a7affa7010484ac0305009c940965690a160816690c1606160c376569851d6700b604152700b42a851c0a376569851d6700b604152400b42a851b0837656700b604152700b42a6700b605152700b42a0637656700b604152400b42a6700b605152400b42a0536030400a7600404150a00a22000b42a600404157c00a2091004158300a22000b42a0415043603
theorem ob_X4_bodyHas : OKB cX4_bodyHas on_X4_bodyHas 164 := ⟨by decide +kernel, by decide +kernel⟩
theorem dX4_bodyHas_0 : dc cX4_bodyHas 0 1 (.iconst 0) 1 := o_3 ob_X4_bodyHas rfl rfl rfl
theorem dX4_bodyHas_1 : dc cX4_bodyHas 1 3 (.istore 4) 2 := o_54 ob_X4_bodyHas rfl rfl rfl rfl
theorem dX4_bodyHas_3 : dc cX4_bodyHas 3 5 (.iload 4) 2 := o_21 ob_X4_bodyHas rfl rfl rfl rfl
theorem dX4_bodyHas_5 : dc cX4_bodyHas 5 6 (.aload_n 0) 1 := o_42 ob_X4_bodyHas rfl rfl rfl
theorem dX4_bodyHas_6 : dc cX4_bodyHas 6 9 (.getfield 32) 3 := o_180 ob_X4_bodyHas rfl rfl rfl rfl
theorem dX4_bodyHas_9 : dc cX4_bodyHas 9 12 (.if_icmp .ge 131) 3 := o_162 ob_X4_bodyHas rfl rfl rfl rfl
theorem dX4_bodyHas_12 : dc cX4_bodyHas 12 14 (.iload 4) 2 := o_21 ob_X4_bodyHas rfl rfl rfl rfl
theorem dX4_bodyHas_14 : dc cX4_bodyHas 14 16 (.bipush 9) 2 := o_16 ob_X4_bodyHas rfl rfl rfl rfl
theorem dX4_bodyHas_16 : dc cX4_bodyHas 16 19 (.if_icmp .ge 124) 3 := o_162 ob_X4_bodyHas rfl rfl rfl rfl
theorem dX4_bodyHas_19 : dc cX4_bodyHas 19 21 (.iload 4) 2 := o_21 ob_X4_bodyHas rfl rfl rfl rfl
theorem dX4_bodyHas_21 : dc cX4_bodyHas 21 22 (.iconst 1) 1 := o_4 ob_X4_bodyHas rfl rfl rfl
theorem dX4_bodyHas_22 : dc cX4_bodyHas 22 23 .iadd 1 := o_96 ob_X4_bodyHas rfl rfl rfl
theorem dX4_bodyHas_23 : dc cX4_bodyHas 23 24 (.aload_n 0) 1 := o_42 ob_X4_bodyHas rfl rfl rfl
theorem dX4_bodyHas_24 : dc cX4_bodyHas 24 27 (.getfield 32) 3 := o_180 ob_X4_bodyHas rfl rfl rfl rfl
theorem dX4_bodyHas_27 : dc cX4_bodyHas 27 30 (.if_icmp .ge 10) 3 := o_162 ob_X4_bodyHas rfl rfl rfl rfl
theorem dX4_bodyHas_30 : dc cX4_bodyHas 30 32 (.iload 4) 2 := o_21 ob_X4_bodyHas rfl rfl rfl rfl
theorem dX4_bodyHas_32 : dc cX4_bodyHas 32 33 (.iconst 1) 1 := o_4 ob_X4_bodyHas rfl rfl rfl
theorem dX4_bodyHas_33 : dc cX4_bodyHas 33 34 .iadd 1 := o_96 ob_X4_bodyHas rfl rfl rfl
theorem dX4_bodyHas_34 : dc cX4_bodyHas 34 37 (.goto 4) 3 := o_167 ob_X4_bodyHas rfl rfl rfl rfl
theorem dX4_bodyHas_37 : dc cX4_bodyHas 37 38 (.iconst 0) 1 := o_3 ob_X4_bodyHas rfl rfl rfl
theorem dX4_bodyHas_38 : dc cX4_bodyHas 38 40 (.istore 5) 2 := o_54 ob_X4_bodyHas rfl rfl rfl rfl
theorem dX4_bodyHas_40 : dc cX4_bodyHas 40 41 (.aload_n 0) 1 := o_42 ob_X4_bodyHas rfl rfl rfl
theorem dX4_bodyHas_41 : dc cX4_bodyHas 41 44 (.getfield 36) 3 := o_180 ob_X4_bodyHas rfl rfl rfl rfl
theorem dX4_bodyHas_44 : dc cX4_bodyHas 44 46 (.iload 5) 2 := o_21 ob_X4_bodyHas rfl rfl rfl rfl
theorem dX4_bodyHas_46 : dc cX4_bodyHas 46 49 (.invokevirtual 103) 3 := o_182 ob_X4_bodyHas rfl rfl rfl rfl
theorem dX4_bodyHas_49 : dc cX4_bodyHas 49 50 (.aload_n 0) 1 := o_42 ob_X4_bodyHas rfl rfl rfl
theorem dX4_bodyHas_50 : dc cX4_bodyHas 50 53 (.getfield 36) 3 := o_180 ob_X4_bodyHas rfl rfl rfl rfl
theorem dX4_bodyHas_53 : dc cX4_bodyHas 53 55 (.iload 4) 2 := o_21 ob_X4_bodyHas rfl rfl rfl rfl
theorem dX4_bodyHas_55 : dc cX4_bodyHas 55 58 (.invokevirtual 103) 3 := o_182 ob_X4_bodyHas rfl rfl rfl rfl
theorem dX4_bodyHas_58 : dc cX4_bodyHas 58 59 .lsub 1 := o_101 ob_X4_bodyHas rfl rfl rfl
theorem dX4_bodyHas_59 : dc cX4_bodyHas 59 61 (.lstore 6) 2 := o_55 ob_X4_bodyHas rfl rfl rfl rfl
theorem dX4_bodyHas_61 : dc cX4_bodyHas 61 62 (.aload_n 0) 1 := o_42 ob_X4_bodyHas rfl rfl rfl
theorem dX4_bodyHas_62 : dc cX4_bodyHas 62 65 (.getfield 39) 3 := o_180 ob_X4_bodyHas rfl rfl rfl rfl
theorem dX4_bodyHas_65 : dc cX4_bodyHas 65 67 (.iload 5) 2 := o_21 ob_X4_bodyHas rfl rfl rfl rfl
theorem dX4_bodyHas_67 : dc cX4_bodyHas 67 70 (.invokevirtual 103) 3 := o_182 ob_X4_bodyHas rfl rfl rfl rfl
theorem dX4_bodyHas_70 : dc cX4_bodyHas 70 71 (.aload_n 0) 1 := o_42 ob_X4_bodyHas rfl rfl rfl
theorem dX4_bodyHas_71 : dc cX4_bodyHas 71 74 (.getfield 39) 3 := o_180 ob_X4_bodyHas rfl rfl rfl rfl
theorem dX4_bodyHas_74 : dc cX4_bodyHas 74 76 (.iload 4) 2 := o_21 ob_X4_bodyHas rfl rfl rfl rfl
theorem dX4_bodyHas_76 : dc cX4_bodyHas 76 79 (.invokevirtual 103) 3 := o_182 ob_X4_bodyHas rfl rfl rfl rfl
theorem dX4_bodyHas_79 : dc cX4_bodyHas 79 80 .lsub 1 := o_101 ob_X4_bodyHas rfl rfl rfl
theorem dX4_bodyHas_80 : dc cX4_bodyHas 80 82 (.lstore 8) 2 := o_55 ob_X4_bodyHas rfl rfl rfl rfl
theorem dX4_bodyHas_82 : dc cX4_bodyHas 82 83 (.iload_n 1) 1 := o_27 ob_X4_bodyHas rfl rfl rfl
theorem dX4_bodyHas_83 : dc cX4_bodyHas 83 84 .i2l 1 := o_133 ob_X4_bodyHas rfl rfl rfl
theorem dX4_bodyHas_84 : dc cX4_bodyHas 84 85 (.aload_n 0) 1 := o_42 ob_X4_bodyHas rfl rfl rfl
theorem dX4_bodyHas_85 : dc cX4_bodyHas 85 88 (.getfield 36) 3 := o_180 ob_X4_bodyHas rfl rfl rfl rfl
theorem dX4_bodyHas_88 : dc cX4_bodyHas 88 90 (.iload 4) 2 := o_21 ob_X4_bodyHas rfl rfl rfl rfl
theorem dX4_bodyHas_90 : dc cX4_bodyHas 90 93 (.invokevirtual 103) 3 := o_182 ob_X4_bodyHas rfl rfl rfl rfl
theorem dX4_bodyHas_93 : dc cX4_bodyHas 93 94 (.iload_n 3) 1 := o_29 ob_X4_bodyHas rfl rfl rfl
theorem dX4_bodyHas_94 : dc cX4_bodyHas 94 95 .i2l 1 := o_133 ob_X4_bodyHas rfl rfl rfl
theorem dX4_bodyHas_95 : dc cX4_bodyHas 95 96 .lmul 1 := o_105 ob_X4_bodyHas rfl rfl rfl
theorem dX4_bodyHas_96 : dc cX4_bodyHas 96 97 .lsub 1 := o_101 ob_X4_bodyHas rfl rfl rfl
theorem dX4_bodyHas_97 : dc cX4_bodyHas 97 99 (.lstore 10) 2 := o_55 ob_X4_bodyHas rfl rfl rfl rfl
theorem dX4_bodyHas_99 : dc cX4_bodyHas 99 100 (.iload_n 2) 1 := o_28 ob_X4_bodyHas rfl rfl rfl
theorem dX4_bodyHas_100 : dc cX4_bodyHas 100 101 .i2l 1 := o_133 ob_X4_bodyHas rfl rfl rfl
theorem dX4_bodyHas_101 : dc cX4_bodyHas 101 102 (.aload_n 0) 1 := o_42 ob_X4_bodyHas rfl rfl rfl
theorem dX4_bodyHas_102 : dc cX4_bodyHas 102 105 (.getfield 39) 3 := o_180 ob_X4_bodyHas rfl rfl rfl rfl
theorem dX4_bodyHas_105 : dc cX4_bodyHas 105 107 (.iload 4) 2 := o_21 ob_X4_bodyHas rfl rfl rfl rfl
theorem dX4_bodyHas_107 : dc cX4_bodyHas 107 110 (.invokevirtual 103) 3 := o_182 ob_X4_bodyHas rfl rfl rfl rfl
theorem dX4_bodyHas_110 : dc cX4_bodyHas 110 111 (.iload_n 3) 1 := o_29 ob_X4_bodyHas rfl rfl rfl
theorem dX4_bodyHas_111 : dc cX4_bodyHas 111 112 .i2l 1 := o_133 ob_X4_bodyHas rfl rfl rfl
theorem dX4_bodyHas_112 : dc cX4_bodyHas 112 113 .lmul 1 := o_105 ob_X4_bodyHas rfl rfl rfl
theorem dX4_bodyHas_113 : dc cX4_bodyHas 113 114 .lsub 1 := o_101 ob_X4_bodyHas rfl rfl rfl
theorem dX4_bodyHas_114 : dc cX4_bodyHas 114 116 (.lstore 12) 2 := o_55 ob_X4_bodyHas rfl rfl rfl rfl
theorem dX4_bodyHas_116 : dc cX4_bodyHas 116 118 (.lload 6) 2 := o_22 ob_X4_bodyHas rfl rfl rfl rfl
theorem dX4_bodyHas_118 : dc cX4_bodyHas 118 120 (.lload 12) 2 := o_22 ob_X4_bodyHas rfl rfl rfl rfl
theorem dX4_bodyHas_120 : dc cX4_bodyHas 120 121 .lmul 1 := o_105 ob_X4_bodyHas rfl rfl rfl
theorem dX4_bodyHas_121 : dc cX4_bodyHas 121 123 (.lload 8) 2 := o_22 ob_X4_bodyHas rfl rfl rfl rfl
theorem dX4_bodyHas_123 : dc cX4_bodyHas 123 125 (.lload 10) 2 := o_22 ob_X4_bodyHas rfl rfl rfl rfl
theorem dX4_bodyHas_125 : dc cX4_bodyHas 125 126 .lmul 1 := o_105 ob_X4_bodyHas rfl rfl rfl
theorem dX4_bodyHas_126 : dc cX4_bodyHas 126 127 .lsub 1 := o_101 ob_X4_bodyHas rfl rfl rfl
theorem dX4_bodyHas_127 : dc cX4_bodyHas 127 128 (.lconst 0) 1 := o_9 ob_X4_bodyHas rfl rfl rfl
theorem dX4_bodyHas_128 : dc cX4_bodyHas 128 129 .lcmp 1 := o_148 ob_X4_bodyHas rfl rfl rfl
theorem dX4_bodyHas_129 : dc cX4_bodyHas 129 132 (.ifCond .ge 5) 3 := o_156 ob_X4_bodyHas rfl rfl rfl rfl
theorem dX4_bodyHas_132 : dc cX4_bodyHas 132 133 (.iconst 0) 1 := o_3 ob_X4_bodyHas rfl rfl rfl
theorem dX4_bodyHas_133 : dc cX4_bodyHas 133 134 .ireturn 1 := o_172 ob_X4_bodyHas rfl rfl rfl
theorem dX4_bodyHas_134 : dc cX4_bodyHas 134 137 (.iinc 4 1) 3 := o_132 ob_X4_bodyHas rfl rfl rfl rfl rfl
theorem dX4_bodyHas_137 : dc cX4_bodyHas 137 140 (.goto (-134)) 3 := o_167 ob_X4_bodyHas rfl rfl rfl rfl
theorem dX4_bodyHas_140 : dc cX4_bodyHas 140 141 (.aload_n 0) 1 := o_42 ob_X4_bodyHas rfl rfl rfl
theorem dX4_bodyHas_141 : dc cX4_bodyHas 141 144 (.getfield 32) 3 := o_180 ob_X4_bodyHas rfl rfl rfl rfl
theorem dX4_bodyHas_144 : dc cX4_bodyHas 144 145 (.iconst 2) 1 := o_5 ob_X4_bodyHas rfl rfl rfl
theorem dX4_bodyHas_145 : dc cX4_bodyHas 145 148 (.if_icmp .gt 13) 3 := o_163 ob_X4_bodyHas rfl rfl rfl rfl
theorem dX4_bodyHas_148 : dc cX4_bodyHas 148 149 (.aload_n 0) 1 := o_42 ob_X4_bodyHas rfl rfl rfl
theorem dX4_bodyHas_149 : dc cX4_bodyHas 149 150 (.iload_n 1) 1 := o_27 ob_X4_bodyHas rfl rfl rfl
theorem dX4_bodyHas_150 : dc cX4_bodyHas 150 151 (.iload_n 2) 1 := o_28 ob_X4_bodyHas rfl rfl rfl
theorem dX4_bodyHas_151 : dc cX4_bodyHas 151 152 (.iload_n 3) 1 := o_29 ob_X4_bodyHas rfl rfl rfl
theorem dX4_bodyHas_152 : dc cX4_bodyHas 152 155 (.invokevirtual 135) 3 := o_182 ob_X4_bodyHas rfl rfl rfl rfl
theorem dX4_bodyHas_155 : dc cX4_bodyHas 155 158 (.ifCond .eq 7) 3 := o_153 ob_X4_bodyHas rfl rfl rfl rfl
theorem dX4_bodyHas_158 : dc cX4_bodyHas 158 159 (.iconst 1) 1 := o_4 ob_X4_bodyHas rfl rfl rfl
theorem dX4_bodyHas_159 : dc cX4_bodyHas 159 162 (.goto 4) 3 := o_167 ob_X4_bodyHas rfl rfl rfl rfl
theorem dX4_bodyHas_162 : dc cX4_bodyHas 162 163 (.iconst 0) 1 := o_3 ob_X4_bodyHas rfl rfl rfl
theorem dX4_bodyHas_163 : dc cX4_bodyHas 163 164 .ireturn 1 := o_172 ob_X4_bodyHas rfl rfl rfl
def F_Day_bodyHas_j140 (x1 : Int32) (x2 : Int32) (x3 : Int32) (M : Mem) : Option (Bool) :=
  if 2 < (M.1 68 5) then some true else (F_Day_isBetweenEnds x1 x2 x3 M).bind fun r1 => if r1 = true then some true else some false
def F_Day_bodyHas_j38 (x1 : Int32) (x2 : Int32) (x3 : Int32) (x4 : Int32) (s0 : Int32) (M : Mem) : Option ((Int32) ⊕ ((Unit) ⊕ ((Unit)))) :=
  (F_Row_at 74 9 s0 M).bind fun r2 => (F_Row_at 74 9 x4 M).bind fun r3 => (F_Row_at 76 9 s0 M).bind fun r4 => (F_Row_at 76 9 x4 M).bind fun r5 => (F_Row_at 74 9 x4 M).bind fun r6 => (F_Row_at 76 9 x4 M).bind fun r7 => if 0 ≤ (((r2 - r3) * (x2.toInt64 - (r7 * x3.toInt64))) - ((r4 - r5) * (x1.toInt64 - (r6 * x3.toInt64)))) then some (.inl (x4 + 1)) else some (.inr (.inl (())))
def F_Day_bodyHas_b3 (x1 : Int32) (x2 : Int32) (x3 : Int32) (M : Mem) (z : Int32) : Option ((Int32) ⊕ ((Unit) ⊕ ((Unit)))) :=
  if (M.1 68 5) ≤ z then some (.inr (.inr (()))) else if 9 ≤ z then some (.inr (.inr (()))) else if (M.1 68 5) ≤ (z + 1) then F_Day_bodyHas_j38 x1 x2 x3 z 0 M else F_Day_bodyHas_j38 x1 x2 x3 z (z + 1) M
def F_Day_bodyHas_l3 (x1 : Int32) (x2 : Int32) (x3 : Int32) (x4 : Int32) (M : Mem) : Option (Bool) :=
  (iter (F_Day_bodyHas_b3 x1 x2 x3 M) FUEL x4).bind fun q => match q with
    | .inl r => some false
    | .inr r => F_Day_bodyHas_j140 x1 x2 x3 M
def F_Day_bodyHas (x1 : Int32) (x2 : Int32) (x3 : Int32) (M : Mem) : Option (Bool) :=
  F_Day_bodyHas_l3 x1 x2 x3 0 M
set_option maxRecDepth 100000 in
set_option maxHeartbeats 4000000 in
theorem K_Day_bodyHas (l : Launch) (g : GB) (htr : l.stackTraces = false) (x1 : Int32) (x2 : Int32) (x3 : Int32) (M : Mem) (rr : Bool) (h : F_Day_bodyHas x1 x2 x3 M = some rr) : CT l g yX4_bodyHas (.code yX4_bodyHas cX4_bodyHas 14 (some .boolean) :: wAll) { frames := 2, cells := 0, slots := 0, locals := 51 } [.ref (g.2.1 68), .int x1, .int x2, .int x3] M (.inl (some (.int (b2i rr)))) M := by
  refine CT.of [(0, .ref (g.2.1 68)), (1, .int x1), (2, .int x2), (3, .int x3)] (by decide +kernel) (Nat.le_of_ble_eq_true rfl) rfl htr ?_
  intro p e s m args below meth c K hr ht
  skip
  obtain ⟨PHI, hPHI, h⟩ : ∃ PHI : Bool → Prop, (∀ a, PHI a → a = rr) ∧ wpO (F_Day_bodyHas x1 x2 x3 M) PHI := ⟨fun a => a = rr, fun _ h => h, _, h, rfl⟩
  have J140 : ∀ (x1 : Int32) (x2 : Int32) (x3 : Int32), wpO (F_Day_bodyHas_j140 x1 x2 x3 M) PHI → GG p l e { frames := 2, cells := 0, slots := 0, locals := 51 } s m args below meth c g 14 (vx_MQ below (Qn g s.heap.size (.inl (some (.int (b2i rr)))) M) (QX g s.heap.size (.inl (some (.int (b2i rr)))) M) args s 0 0 (AS g s.heap.size)) 0 0 140 [(0, .ref (g.2.1 68)), (1, .int x1), (2, .int x2), (3, .int x3)] [] M := by
    intro x1 x2 x3 h
    unfold F_Day_bodyHas_j140 at h
    refine G_aload_n rfl 0 rfl K dX4_bodyHas_140 ?_
    refine G_get (ci := 4) (k := 5) K rfl in_X4 wd_287 rfl dX4_bodyHas_141 (Nat.le_of_ble_eq_true rfl) (sh_68 _ _) (Nat.le_of_ble_eq_true rfl) rfl ?_
    refine G_iconst (v := 2) rfl K dX4_bodyHas_144 ?_
    refine G_icmp_gt (tgt := 158) K dX4_bodyHas_145 (by decide) (fun hc => ?_) (fun hc => ?_)
    · have h := wpO_t h hc
      refine G_iconst (v := 1) rfl K dX4_bodyHas_158 ?_
      refine G_goto (tgt := 163) K dX4_bodyHas_159 (by decide) ?_
      cases hPHI _ (wpO_some h)
      exact G_iret K hr rfl dX4_bodyHas_163 (Nat.le_of_ble_eq_true rfl) (Nat.le_of_ble_eq_true rfl) ⟨rfl, rfl⟩
    · have h := wpO_f h hc
      refine G_aload_n rfl 0 rfl K dX4_bodyHas_148 ?_
      refine G_iload_n rfl 1 rfl K dX4_bodyHas_149 ?_
      refine G_iload_n rfl 2 rfl K dX4_bodyHas_150 ?_
      refine G_iload_n rfl 3 rfl K dX4_bodyHas_151 ?_
      obtain ⟨r1, e1, h⟩ := wpO_bind h
      refine G_callVi (ci := 4) [.int x1, .int x2, .int x3] [] K dX4_bodyHas_152 wv_1132 yd_X4_isBetweenEnds (Nat.le_of_ble_eq_true rfl) (sh_68 _ _) rfl (by decide) (by decide) rfl rfl (Nat.le_of_ble_eq_true rfl) (K_Day_isBetweenEnds l g htr x1 x2 x3 M _ e1) ?_
      refine G_ifb_eq (tgt := 162) K dX4_bodyHas_155 (by decide) (fun hc => ?_) (fun hc => ?_)
      · have h := wpO_bf h hc
        refine G_iconst (v := 0) rfl K dX4_bodyHas_162 ?_
        cases hPHI _ (wpO_some h)
        exact G_iret K hr rfl dX4_bodyHas_163 (Nat.le_of_ble_eq_true rfl) (Nat.le_of_ble_eq_true rfl) ⟨rfl, rfl⟩
      · have h := wpO_t h hc
        refine G_iconst (v := 1) rfl K dX4_bodyHas_158 ?_
        refine G_goto (tgt := 163) K dX4_bodyHas_159 (by decide) ?_
        cases hPHI _ (wpO_some h)
        exact G_iret K hr rfl dX4_bodyHas_163 (Nat.le_of_ble_eq_true rfl) (Nat.le_of_ble_eq_true rfl) ⟨rfl, rfl⟩
  have J3 : ∀ (x1 : Int32) (x2 : Int32) (x3 : Int32) (x4 : Int32), wpO (F_Day_bodyHas_l3 x1 x2 x3 x4 M) PHI → GG p l e { frames := 2, cells := 0, slots := 0, locals := 51 } s m args below meth c g 14 (vx_MQ below (Qn g s.heap.size (.inl (some (.int (b2i rr)))) M) (QX g s.heap.size (.inl (some (.int (b2i rr)))) M) args s 0 0 (AS g s.heap.size)) 0 0 3 [(0, .ref (g.2.1 68)), (1, .int x1), (2, .int x2), (3, .int x3), (4, .int x4)] [] M := by
    intro x1 x2 x3 x4 h
    unfold F_Day_bodyHas_l3 at h
    refine loop_C1 (G := fun (x4 : Int32) => GG p l e { frames := 2, cells := 0, slots := 0, locals := 51 } s m args below meth c g 14 (vx_MQ below (Qn g s.heap.size (.inl (some (.int (b2i rr)))) M) (QX g s.heap.size (.inl (some (.int (b2i rr)))) M) args s 0 0 (AS g s.heap.size)) 0 0 3 [(0, .ref (g.2.1 68)), (1, .int x1), (2, .int x2), (3, .int x3), (4, .int x4)] [] M) (body := F_Day_bodyHas_b3 x1 x2 x3 M) ?_ FUEL _ (wpO_bind h)
    intro P3 E3 X3
    have J38 : ∀ (x4 : Int32) (s0 : Int32), wpO (F_Day_bodyHas_j38 x1 x2 x3 x4 s0 M) P3 → GG p l e { frames := 2, cells := 0, slots := 0, locals := 51 } s m args below meth c g 14 (vx_MQ below (Qn g s.heap.size (.inl (some (.int (b2i rr)))) M) (QX g s.heap.size (.inl (some (.int (b2i rr)))) M) args s 0 0 (AS g s.heap.size)) 0 0 38 [(0, .ref (g.2.1 68)), (1, .int x1), (2, .int x2), (3, .int x3), (4, .int x4)] [.int s0] M := by
      intro x4 s0 h
      unfold F_Day_bodyHas_j38 at h
      refine G_istore K dX4_bodyHas_38 (Nat.le_of_ble_eq_true rfl) rfl ?_
      refine G_aload_n rfl 1 rfl K dX4_bodyHas_40 ?_
      refine G_get (ci := 4) (k := 6) K rfl in_X4 wd_289 rfl dX4_bodyHas_41 (Nat.le_of_ble_eq_true rfl) (sh_68 _ _) (Nat.le_of_ble_eq_true rfl) rfl ?_
      refine G_iload 0 rfl K dX4_bodyHas_44 ?_
      obtain ⟨r2, e2, h⟩ := wpO_bind h
      refine G_callVl (ci := 7) [.int s0] [] K dX4_bodyHas_46 wv_1102 yd_X7_at (Nat.le_of_ble_eq_true rfl) (sh_73 _ _) rfl (by decide) (by decide) rfl rfl (Nat.le_of_ble_eq_true rfl) (K_Row_at l g htr 73 74 9 isRow_73 s0 M _ e2) ?_
      refine G_aload_n rfl 1 rfl K dX4_bodyHas_49 ?_
      refine G_get (ci := 4) (k := 6) K rfl in_X4 wd_289 rfl dX4_bodyHas_50 (Nat.le_of_ble_eq_true rfl) (sh_68 _ _) (Nat.le_of_ble_eq_true rfl) rfl ?_
      refine G_iload 5 rfl K dX4_bodyHas_53 ?_
      obtain ⟨r3, e3, h⟩ := wpO_bind h
      refine G_callVl (ci := 7) [.int x4] [.long r2] K dX4_bodyHas_55 wv_1102 yd_X7_at (Nat.le_of_ble_eq_true rfl) (sh_73 _ _) rfl (by decide) (by decide) rfl rfl (Nat.le_of_ble_eq_true rfl) (K_Row_at l g htr 73 74 9 isRow_73 x4 M _ e3) ?_
      refine G_lsub K dX4_bodyHas_58 ?_
      refine G_lstore K dX4_bodyHas_59 (Nat.le_of_ble_eq_true rfl) rfl ?_
      refine G_aload_n rfl 2 rfl K dX4_bodyHas_61 ?_
      refine G_get (ci := 4) (k := 7) K rfl in_X4 wd_291 rfl dX4_bodyHas_62 (Nat.le_of_ble_eq_true rfl) (sh_68 _ _) (Nat.le_of_ble_eq_true rfl) rfl ?_
      refine G_iload 1 rfl K dX4_bodyHas_65 ?_
      obtain ⟨r4, e4, h⟩ := wpO_bind h
      refine G_callVl (ci := 7) [.int s0] [] K dX4_bodyHas_67 wv_1102 yd_X7_at (Nat.le_of_ble_eq_true rfl) (sh_75 _ _) rfl (by decide) (by decide) rfl rfl (Nat.le_of_ble_eq_true rfl) (K_Row_at l g htr 75 76 9 isRow_75 s0 M _ e4) ?_
      refine G_aload_n rfl 2 rfl K dX4_bodyHas_70 ?_
      refine G_get (ci := 4) (k := 7) K rfl in_X4 wd_291 rfl dX4_bodyHas_71 (Nat.le_of_ble_eq_true rfl) (sh_68 _ _) (Nat.le_of_ble_eq_true rfl) rfl ?_
      refine G_iload 6 rfl K dX4_bodyHas_74 ?_
      obtain ⟨r5, e5, h⟩ := wpO_bind h
      refine G_callVl (ci := 7) [.int x4] [.long r4] K dX4_bodyHas_76 wv_1102 yd_X7_at (Nat.le_of_ble_eq_true rfl) (sh_75 _ _) rfl (by decide) (by decide) rfl rfl (Nat.le_of_ble_eq_true rfl) (K_Row_at l g htr 75 76 9 isRow_75 x4 M _ e5) ?_
      refine G_lsub K dX4_bodyHas_79 ?_
      refine G_lstore K dX4_bodyHas_80 (Nat.le_of_ble_eq_true rfl) rfl ?_
      refine G_iload_n rfl 4 rfl K dX4_bodyHas_82 ?_
      refine G_i2l K dX4_bodyHas_83 ?_
      refine G_aload_n rfl 3 rfl K dX4_bodyHas_84 ?_
      refine G_get (ci := 4) (k := 6) K rfl in_X4 wd_289 rfl dX4_bodyHas_85 (Nat.le_of_ble_eq_true rfl) (sh_68 _ _) (Nat.le_of_ble_eq_true rfl) rfl ?_
      refine G_iload 7 rfl K dX4_bodyHas_88 ?_
      obtain ⟨r6, e6, h⟩ := wpO_bind h
      refine G_callVl (ci := 7) [.int x4] [.long x1.toInt64] K dX4_bodyHas_90 wv_1102 yd_X7_at (Nat.le_of_ble_eq_true rfl) (sh_73 _ _) rfl (by decide) (by decide) rfl rfl (Nat.le_of_ble_eq_true rfl) (K_Row_at l g htr 73 74 9 isRow_73 x4 M _ e6) ?_
      refine G_iload_n rfl 6 rfl K dX4_bodyHas_93 ?_
      refine G_i2l K dX4_bodyHas_94 ?_
      refine G_lmul K dX4_bodyHas_95 ?_
      refine G_lsub K dX4_bodyHas_96 ?_
      refine G_lstore K dX4_bodyHas_97 (Nat.le_of_ble_eq_true rfl) rfl ?_
      refine G_iload_n rfl 6 rfl K dX4_bodyHas_99 ?_
      refine G_i2l K dX4_bodyHas_100 ?_
      refine G_aload_n rfl 4 rfl K dX4_bodyHas_101 ?_
      refine G_get (ci := 4) (k := 7) K rfl in_X4 wd_291 rfl dX4_bodyHas_102 (Nat.le_of_ble_eq_true rfl) (sh_68 _ _) (Nat.le_of_ble_eq_true rfl) rfl ?_
      refine G_iload 8 rfl K dX4_bodyHas_105 ?_
      obtain ⟨r7, e7, h⟩ := wpO_bind h
      refine G_callVl (ci := 7) [.int x4] [.long x2.toInt64] K dX4_bodyHas_107 wv_1102 yd_X7_at (Nat.le_of_ble_eq_true rfl) (sh_75 _ _) rfl (by decide) (by decide) rfl rfl (Nat.le_of_ble_eq_true rfl) (K_Row_at l g htr 75 76 9 isRow_75 x4 M _ e7) ?_
      refine G_iload_n rfl 7 rfl K dX4_bodyHas_110 ?_
      refine G_i2l K dX4_bodyHas_111 ?_
      refine G_lmul K dX4_bodyHas_112 ?_
      refine G_lsub K dX4_bodyHas_113 ?_
      refine G_lstore K dX4_bodyHas_114 (Nat.le_of_ble_eq_true rfl) rfl ?_
      refine G_lload 3 rfl K dX4_bodyHas_116 ?_
      refine G_lload 0 rfl K dX4_bodyHas_118 ?_
      refine G_lmul K dX4_bodyHas_120 ?_
      refine G_lload 2 rfl K dX4_bodyHas_121 ?_
      refine G_lload 1 rfl K dX4_bodyHas_123 ?_
      refine G_lmul K dX4_bodyHas_125 ?_
      refine G_lsub K dX4_bodyHas_126 ?_
      refine G_lconst (v := 0) rfl K dX4_bodyHas_127 ?_
      refine G_lcmp_ge (tgt := 134) K dX4_bodyHas_128 dX4_bodyHas_129 (by decide) (fun hc => ?_) (fun hc => ?_)
      · have h := wpO_t h hc
        refine G_iinc (v := x4 + 1) 9 rfl K dX4_bodyHas_134 rfl (Nat.le_of_ble_eq_true rfl) rfl ?_
        refine G_goto (tgt := 3) K dX4_bodyHas_137 (by decide) ?_
        exact G_lv (lv' := [(0, .ref (g.2.1 68)), (1, .int x1), (2, .int x2), (3, .int x3), (4, .int (x4 + 1))]) [6, 7, 8, 9, 0] rfl (E3 (x4 + 1) (wpO_some h))
      · have h := wpO_f h hc
        have h := X3 _ (wpO_some h)
        try dsimp only at h
        refine G_iconst (v := 0) rfl K dX4_bodyHas_132 ?_
        cases hPHI _ (wpO_some h)
        exact G_iret K hr rfl dX4_bodyHas_133 (Nat.le_of_ble_eq_true rfl) (Nat.le_of_ble_eq_true rfl) ⟨rfl, rfl⟩
    intro z h
    unfold F_Day_bodyHas_b3 at h
    refine G_iload 4 rfl K dX4_bodyHas_3 ?_
    refine G_aload_n rfl 0 rfl K dX4_bodyHas_5 ?_
    refine G_get (ci := 4) (k := 5) K rfl in_X4 wd_287 rfl dX4_bodyHas_6 (Nat.le_of_ble_eq_true rfl) (sh_68 _ _) (Nat.le_of_ble_eq_true rfl) rfl ?_
    refine G_icmp_ge (tgt := 140) K dX4_bodyHas_9 (by decide) (fun hc => ?_) (fun hc => ?_)
    · have h := wpO_t h hc
      have h := X3 _ (wpO_some h)
      try dsimp only at h
      exact G_lv (lv' := [(0, .ref (g.2.1 68)), (1, .int x1), (2, .int x2), (3, .int x3)]) [0, 1, 2, 3] rfl (J140 x1 x2 x3 h)
    · have h := wpO_f h hc
      refine G_iload 4 rfl K dX4_bodyHas_12 ?_
      refine G_bipush (v := 9) rfl K dX4_bodyHas_14 ?_
      refine G_icmp_ge (tgt := 140) K dX4_bodyHas_16 (by decide) (fun hc => ?_) (fun hc => ?_)
      · have h := wpO_t h hc
        have h := X3 _ (wpO_some h)
        try dsimp only at h
        exact G_lv (lv' := [(0, .ref (g.2.1 68)), (1, .int x1), (2, .int x2), (3, .int x3)]) [0, 1, 2, 3] rfl (J140 x1 x2 x3 h)
      · have h := wpO_f h hc
        refine G_iload 4 rfl K dX4_bodyHas_19 ?_
        refine G_iconst (v := 1) rfl K dX4_bodyHas_21 ?_
        refine G_iadd K dX4_bodyHas_22 ?_
        refine G_aload_n rfl 0 rfl K dX4_bodyHas_23 ?_
        refine G_get (ci := 4) (k := 5) K rfl in_X4 wd_287 rfl dX4_bodyHas_24 (Nat.le_of_ble_eq_true rfl) (sh_68 _ _) (Nat.le_of_ble_eq_true rfl) rfl ?_
        refine G_icmp_ge (tgt := 37) K dX4_bodyHas_27 (by decide) (fun hc => ?_) (fun hc => ?_)
        · have h := wpO_t h hc
          refine G_iconst (v := 0) rfl K dX4_bodyHas_37 ?_
          exact J38 z 0 h
        · have h := wpO_f h hc
          refine G_iload 4 rfl K dX4_bodyHas_30 ?_
          refine G_iconst (v := 1) rfl K dX4_bodyHas_32 ?_
          refine G_iadd K dX4_bodyHas_33 ?_
          refine G_goto (tgt := 38) K dX4_bodyHas_34 (by decide) ?_
          exact J38 z (z + 1) h
  unfold F_Day_bodyHas at h
  refine G_iconst (v := 0) rfl K dX4_bodyHas_0 ?_
  refine G_istore K dX4_bodyHas_1 (Nat.le_of_ble_eq_true rfl) rfl ?_
  exact G_lv (lv' := [(0, .ref (g.2.1 68)), (1, .int x1), (2, .int x2), (3, .int x3), (4, .int 0)]) [1, 2, 3, 4, 0] rfl (J3 x1 x2 x3 0 h)
theorem yd_X4_leastOf : ydN yX4_leastOf 1 := ⟨by decide, by decide, by decide +kernel⟩
theorem wv_1143 : wdV "KeptWell$Day" 140 yX4_leastOf cX4_leastOf 2 (some .int) := ⟨wd_1143, wd_1073, wd_1074, wd_9, wd_1075⟩
def on_X4_mustBeKept : Nat := 0xac030400a7040700a4681d8c00b6042a1c1200a4681d8c00b6032a1b
theorem ob_X4_mustBeKept : OKB cX4_mustBeKept on_X4_mustBeKept 28 := ⟨by decide +kernel, by decide +kernel⟩
theorem dX4_mustBeKept_0 : dc cX4_mustBeKept 0 1 (.iload_n 1) 1 := o_27 ob_X4_mustBeKept rfl rfl rfl
theorem dX4_mustBeKept_1 : dc cX4_mustBeKept 1 2 (.aload_n 0) 1 := o_42 ob_X4_mustBeKept rfl rfl rfl
theorem dX4_mustBeKept_2 : dc cX4_mustBeKept 2 3 (.iconst 0) 1 := o_3 ob_X4_mustBeKept rfl rfl rfl
theorem dX4_mustBeKept_3 : dc cX4_mustBeKept 3 6 (.invokevirtual 140) 3 := o_182 ob_X4_mustBeKept rfl rfl rfl rfl
theorem dX4_mustBeKept_6 : dc cX4_mustBeKept 6 7 (.iload_n 3) 1 := o_29 ob_X4_mustBeKept rfl rfl rfl
theorem dX4_mustBeKept_7 : dc cX4_mustBeKept 7 8 .imul 1 := o_104 ob_X4_mustBeKept rfl rfl rfl
theorem dX4_mustBeKept_8 : dc cX4_mustBeKept 8 11 (.if_icmp .le 18) 3 := o_164 ob_X4_mustBeKept rfl rfl rfl rfl
theorem dX4_mustBeKept_11 : dc cX4_mustBeKept 11 12 (.iload_n 2) 1 := o_28 ob_X4_mustBeKept rfl rfl rfl
theorem dX4_mustBeKept_12 : dc cX4_mustBeKept 12 13 (.aload_n 0) 1 := o_42 ob_X4_mustBeKept rfl rfl rfl
theorem dX4_mustBeKept_13 : dc cX4_mustBeKept 13 14 (.iconst 1) 1 := o_4 ob_X4_mustBeKept rfl rfl rfl
theorem dX4_mustBeKept_14 : dc cX4_mustBeKept 14 17 (.invokevirtual 140) 3 := o_182 ob_X4_mustBeKept rfl rfl rfl rfl
theorem dX4_mustBeKept_17 : dc cX4_mustBeKept 17 18 (.iload_n 3) 1 := o_29 ob_X4_mustBeKept rfl rfl rfl
theorem dX4_mustBeKept_18 : dc cX4_mustBeKept 18 19 .imul 1 := o_104 ob_X4_mustBeKept rfl rfl rfl
theorem dX4_mustBeKept_19 : dc cX4_mustBeKept 19 22 (.if_icmp .le 7) 3 := o_164 ob_X4_mustBeKept rfl rfl rfl rfl
theorem dX4_mustBeKept_22 : dc cX4_mustBeKept 22 23 (.iconst 1) 1 := o_4 ob_X4_mustBeKept rfl rfl rfl
theorem dX4_mustBeKept_23 : dc cX4_mustBeKept 23 26 (.goto 4) 3 := o_167 ob_X4_mustBeKept rfl rfl rfl rfl
theorem dX4_mustBeKept_26 : dc cX4_mustBeKept 26 27 (.iconst 0) 1 := o_3 ob_X4_mustBeKept rfl rfl rfl
theorem dX4_mustBeKept_27 : dc cX4_mustBeKept 27 28 .ireturn 1 := o_172 ob_X4_mustBeKept rfl rfl rfl
def F_Day_mustBeKept (x1 : Int32) (x2 : Int32) (x3 : Int32) (M : Mem) : Option (Bool) :=
  (F_Day_leastOf 0 M).bind fun r1 => if x1 ≤ (r1 * x3) then some false else (F_Day_leastOf 1 M).bind fun r2 => if x2 ≤ (r2 * x3) then some false else some true
set_option maxRecDepth 100000 in
set_option maxHeartbeats 4000000 in
theorem K_Day_mustBeKept (l : Launch) (g : GB) (htr : l.stackTraces = false) (x1 : Int32) (x2 : Int32) (x3 : Int32) (M : Mem) (rr : Bool) (h : F_Day_mustBeKept x1 x2 x3 M = some rr) : CT l g yX4_mustBeKept (.code yX4_mustBeKept cX4_mustBeKept 4 (some .boolean) :: wAll) { frames := 5, cells := 0, slots := 0, locals := 112 } [.ref (g.2.1 68), .int x1, .int x2, .int x3] M (.inl (some (.int (b2i rr)))) M := by
  refine CT.of [(0, .ref (g.2.1 68)), (1, .int x1), (2, .int x2), (3, .int x3)] (by decide +kernel) (Nat.le_of_ble_eq_true rfl) rfl htr ?_
  intro p e s m args below meth c K hr ht
  skip
  obtain ⟨PHI, hPHI, h⟩ : ∃ PHI : Bool → Prop, (∀ a, PHI a → a = rr) ∧ wpO (F_Day_mustBeKept x1 x2 x3 M) PHI := ⟨fun a => a = rr, fun _ h => h, _, h, rfl⟩
  unfold F_Day_mustBeKept at h
  refine G_iload_n rfl 1 rfl K dX4_mustBeKept_0 ?_
  refine G_aload_n rfl 0 rfl K dX4_mustBeKept_1 ?_
  refine G_iconst (v := 0) rfl K dX4_mustBeKept_2 ?_
  obtain ⟨r1, e1, h⟩ := wpO_bind h
  refine G_callVi (ci := 4) [.int 0] [.int x1] K dX4_mustBeKept_3 wv_1143 yd_X4_leastOf (Nat.le_of_ble_eq_true rfl) (sh_68 _ _) rfl (by decide) (by decide) rfl rfl (Nat.le_of_ble_eq_true rfl) (K_Day_leastOf l g htr 0 M _ e1) ?_
  refine G_iload_n rfl 3 rfl K dX4_mustBeKept_6 ?_
  refine G_imul K dX4_mustBeKept_7 ?_
  refine G_icmp_le (tgt := 26) K dX4_mustBeKept_8 (by decide) (fun hc => ?_) (fun hc => ?_)
  · have h := wpO_t h hc
    refine G_iconst (v := 0) rfl K dX4_mustBeKept_26 ?_
    cases hPHI _ (wpO_some h)
    exact G_iret K hr rfl dX4_mustBeKept_27 (Nat.le_of_ble_eq_true rfl) (Nat.le_of_ble_eq_true rfl) ⟨rfl, rfl⟩
  · have h := wpO_f h hc
    refine G_iload_n rfl 2 rfl K dX4_mustBeKept_11 ?_
    refine G_aload_n rfl 0 rfl K dX4_mustBeKept_12 ?_
    refine G_iconst (v := 1) rfl K dX4_mustBeKept_13 ?_
    obtain ⟨r2, e2, h⟩ := wpO_bind h
    refine G_callVi (ci := 4) [.int 1] [.int x2] K dX4_mustBeKept_14 wv_1143 yd_X4_leastOf (Nat.le_of_ble_eq_true rfl) (sh_68 _ _) rfl (by decide) (by decide) rfl rfl (Nat.le_of_ble_eq_true rfl) (K_Day_leastOf l g htr 1 M _ e2) ?_
    refine G_iload_n rfl 3 rfl K dX4_mustBeKept_17 ?_
    refine G_imul K dX4_mustBeKept_18 ?_
    refine G_icmp_le (tgt := 26) K dX4_mustBeKept_19 (by decide) (fun hc => ?_) (fun hc => ?_)
    · have h := wpO_t h hc
      refine G_iconst (v := 0) rfl K dX4_mustBeKept_26 ?_
      cases hPHI _ (wpO_some h)
      exact G_iret K hr rfl dX4_mustBeKept_27 (Nat.le_of_ble_eq_true rfl) (Nat.le_of_ble_eq_true rfl) ⟨rfl, rfl⟩
    · have h := wpO_f h hc
      refine G_iconst (v := 1) rfl K dX4_mustBeKept_22 ?_
      refine G_goto (tgt := 27) K dX4_mustBeKept_23 (by decide) ?_
      cases hPHI _ (wpO_some h)
      exact G_iret K hr rfl dX4_mustBeKept_27 (Nat.le_of_ble_eq_true rfl) (Nat.le_of_ble_eq_true rfl) ⟨rfl, rfl⟩
def on_X4_laterWorth : Nat := 0xad69859600b42d00b42a6d859300b42d00b42a6700b61b2a00b42a1d00a70907009a9300b42d00b42a
theorem ob_X4_laterWorth : OKB cX4_laterWorth on_X4_laterWorth 41 := ⟨by decide +kernel, by decide +kernel⟩
theorem dX4_laterWorth_0 : dc cX4_laterWorth 0 1 (.aload_n 0) 1 := o_42 ob_X4_laterWorth rfl rfl rfl
theorem dX4_laterWorth_1 : dc cX4_laterWorth 1 4 (.getfield 45) 3 := o_180 ob_X4_laterWorth rfl rfl rfl rfl
theorem dX4_laterWorth_4 : dc cX4_laterWorth 4 7 (.getfield 147) 3 := o_180 ob_X4_laterWorth rfl rfl rfl rfl
theorem dX4_laterWorth_7 : dc cX4_laterWorth 7 10 (.ifCond .ne 7) 3 := o_154 ob_X4_laterWorth rfl rfl rfl rfl
theorem dX4_laterWorth_10 : dc cX4_laterWorth 10 11 (.lconst 0) 1 := o_9 ob_X4_laterWorth rfl rfl rfl
theorem dX4_laterWorth_11 : dc cX4_laterWorth 11 14 (.goto 29) 3 := o_167 ob_X4_laterWorth rfl rfl rfl rfl
theorem dX4_laterWorth_14 : dc cX4_laterWorth 14 15 (.aload_n 0) 1 := o_42 ob_X4_laterWorth rfl rfl rfl
theorem dX4_laterWorth_15 : dc cX4_laterWorth 15 18 (.getfield 42) 3 := o_180 ob_X4_laterWorth rfl rfl rfl rfl
theorem dX4_laterWorth_18 : dc cX4_laterWorth 18 19 (.iload_n 1) 1 := o_27 ob_X4_laterWorth rfl rfl rfl
theorem dX4_laterWorth_19 : dc cX4_laterWorth 19 22 (.invokevirtual 103) 3 := o_182 ob_X4_laterWorth rfl rfl rfl rfl
theorem dX4_laterWorth_22 : dc cX4_laterWorth 22 23 (.aload_n 0) 1 := o_42 ob_X4_laterWorth rfl rfl rfl
theorem dX4_laterWorth_23 : dc cX4_laterWorth 23 26 (.getfield 45) 3 := o_180 ob_X4_laterWorth rfl rfl rfl rfl
theorem dX4_laterWorth_26 : dc cX4_laterWorth 26 29 (.getfield 147) 3 := o_180 ob_X4_laterWorth rfl rfl rfl rfl
theorem dX4_laterWorth_29 : dc cX4_laterWorth 29 30 .i2l 1 := o_133 ob_X4_laterWorth rfl rfl rfl
theorem dX4_laterWorth_30 : dc cX4_laterWorth 30 31 .ldiv 1 := o_109 ob_X4_laterWorth rfl rfl rfl
theorem dX4_laterWorth_31 : dc cX4_laterWorth 31 32 (.aload_n 0) 1 := o_42 ob_X4_laterWorth rfl rfl rfl
theorem dX4_laterWorth_32 : dc cX4_laterWorth 32 35 (.getfield 45) 3 := o_180 ob_X4_laterWorth rfl rfl rfl rfl
theorem dX4_laterWorth_35 : dc cX4_laterWorth 35 38 (.getfield 150) 3 := o_180 ob_X4_laterWorth rfl rfl rfl rfl
theorem dX4_laterWorth_38 : dc cX4_laterWorth 38 39 .i2l 1 := o_133 ob_X4_laterWorth rfl rfl rfl
theorem dX4_laterWorth_39 : dc cX4_laterWorth 39 40 .lmul 1 := o_105 ob_X4_laterWorth rfl rfl rfl
theorem dX4_laterWorth_40 : dc cX4_laterWorth 40 41 .lreturn 1 := o_173 ob_X4_laterWorth rfl rfl rfl
def F_Day_laterWorth (x1 : Int32) (M : Mem) : Option (Int64) :=
  if (M.1 1 2) = 0 then some 0 else (F_Row_at 78 10 x1 M).bind fun r1 => if ¬ ((M.1 1 2).toInt64) = 0 then some ((r1 / ((M.1 1 2).toInt64)) * ((M.1 1 1).toInt64)) else none
set_option maxRecDepth 100000 in
set_option maxHeartbeats 4000000 in
theorem K_Day_laterWorth (l : Launch) (g : GB) (htr : l.stackTraces = false) (x1 : Int32) (M : Mem) (rr : Int64) (h : F_Day_laterWorth x1 M = some rr) : CT l g yX4_laterWorth (.code yX4_laterWorth cX4_laterWorth 2 (some .long) :: wAll) { frames := 1, cells := 0, slots := 0, locals := 21 } [.ref (g.2.1 68), .int x1] M (.inl (some (.long rr))) M := by
  refine CT.of [(0, .ref (g.2.1 68)), (1, .int x1)] (by decide +kernel) (Nat.le_of_ble_eq_true rfl) rfl htr ?_
  intro p e s m args below meth c K hr ht
  skip
  obtain ⟨PHI, hPHI, h⟩ : ∃ PHI : Int64 → Prop, (∀ a, PHI a → a = rr) ∧ wpO (F_Day_laterWorth x1 M) PHI := ⟨fun a => a = rr, fun _ h => h, _, h, rfl⟩
  unfold F_Day_laterWorth at h
  refine G_aload_n rfl 0 rfl K dX4_laterWorth_0 ?_
  refine G_get (ci := 4) (k := 0) K rfl in_X4 wd_282 rfl dX4_laterWorth_1 (Nat.le_of_ble_eq_true rfl) (sh_68 _ _) (Nat.le_of_ble_eq_true rfl) rfl ?_
  refine G_get (ci := 10) (k := 2) K rfl in_X10 wd_72 rfl dX4_laterWorth_4 (Nat.le_of_ble_eq_true rfl) (sh_1 _ _) (Nat.le_of_ble_eq_true rfl) rfl ?_
  refine G_if_ne (tgt := 14) K dX4_laterWorth_7 (by decide) (fun hc => ?_) (fun hc => ?_)
  · have h := wpO_f h hc
    refine G_aload_n rfl 0 rfl K dX4_laterWorth_14 ?_
    refine G_get (ci := 4) (k := 8) K rfl in_X4 wd_293 rfl dX4_laterWorth_15 (Nat.le_of_ble_eq_true rfl) (sh_68 _ _) (Nat.le_of_ble_eq_true rfl) rfl ?_
    refine G_iload_n rfl 1 rfl K dX4_laterWorth_18 ?_
    obtain ⟨r1, e1, h⟩ := wpO_bind h
    refine G_callVl (ci := 7) [.int x1] [] K dX4_laterWorth_19 wv_1102 yd_X7_at (Nat.le_of_ble_eq_true rfl) (sh_77 _ _) rfl (by decide) (by decide) rfl rfl (Nat.le_of_ble_eq_true rfl) (K_Row_at l g htr 77 78 10 isRow_77 x1 M _ e1) ?_
    refine G_aload_n rfl 0 rfl K dX4_laterWorth_22 ?_
    refine G_get (ci := 4) (k := 0) K rfl in_X4 wd_282 rfl dX4_laterWorth_23 (Nat.le_of_ble_eq_true rfl) (sh_68 _ _) (Nat.le_of_ble_eq_true rfl) rfl ?_
    refine G_get (ci := 10) (k := 2) K rfl in_X10 wd_72 rfl dX4_laterWorth_26 (Nat.le_of_ble_eq_true rfl) (sh_1 _ _) (Nat.le_of_ble_eq_true rfl) rfl ?_
    refine G_i2l K dX4_laterWorth_29 ?_
    obtain ⟨hc, h⟩ := wpO_g h
    refine G_ldiv hc K dX4_laterWorth_30 ?_
    refine G_aload_n rfl 0 rfl K dX4_laterWorth_31 ?_
    refine G_get (ci := 4) (k := 0) K rfl in_X4 wd_282 rfl dX4_laterWorth_32 (Nat.le_of_ble_eq_true rfl) (sh_68 _ _) (Nat.le_of_ble_eq_true rfl) rfl ?_
    refine G_get (ci := 10) (k := 1) K rfl in_X10 wd_66 rfl dX4_laterWorth_35 (Nat.le_of_ble_eq_true rfl) (sh_1 _ _) (Nat.le_of_ble_eq_true rfl) rfl ?_
    refine G_i2l K dX4_laterWorth_38 ?_
    refine G_lmul K dX4_laterWorth_39 ?_
    cases hPHI _ (wpO_some h)
    exact G_lret K hr dX4_laterWorth_40 (Nat.le_of_ble_eq_true rfl) (Nat.le_of_ble_eq_true rfl) ⟨rfl, rfl⟩
  · have h := wpO_t h hc
    refine G_lconst (v := 0) rfl K dX4_laterWorth_10 ?_
    refine G_goto (tgt := 40) K dX4_laterWorth_11 (by decide) ?_
    cases hPHI _ (wpO_some h)
    exact G_lret K hr dX4_laterWorth_40 (Nat.le_of_ble_eq_true rfl) (Nat.le_of_ble_eq_true rfl) ⟨rfl, rfl⟩
def on_X4_mostOtherwise : Nat := 0xac0415d4ffa701058404363800b83100b61d05151b2d00b42a04151300a704150800a01c05152600a23500b42d00b42a051505360304363100b61d030400a70407009a1c1b2d00b42a
theorem ob_X4_mostOtherwise : OKB cX4_mostOtherwise on_X4_mostOtherwise 73 := ⟨by decide +kernel, by decide +kernel⟩
theorem dX4_mostOtherwise_0 : dc cX4_mostOtherwise 0 1 (.aload_n 0) 1 := o_42 ob_X4_mostOtherwise rfl rfl rfl
theorem dX4_mostOtherwise_1 : dc cX4_mostOtherwise 1 4 (.getfield 45) 3 := o_180 ob_X4_mostOtherwise rfl rfl rfl rfl
theorem dX4_mostOtherwise_4 : dc cX4_mostOtherwise 4 5 (.iload_n 1) 1 := o_27 ob_X4_mostOtherwise rfl rfl rfl
theorem dX4_mostOtherwise_5 : dc cX4_mostOtherwise 5 6 (.iload_n 2) 1 := o_28 ob_X4_mostOtherwise rfl rfl rfl
theorem dX4_mostOtherwise_6 : dc cX4_mostOtherwise 6 9 (.ifCond .ne 7) 3 := o_154 ob_X4_mostOtherwise rfl rfl rfl rfl
theorem dX4_mostOtherwise_9 : dc cX4_mostOtherwise 9 10 (.iconst 1) 1 := o_4 ob_X4_mostOtherwise rfl rfl rfl
theorem dX4_mostOtherwise_10 : dc cX4_mostOtherwise 10 13 (.goto 4) 3 := o_167 ob_X4_mostOtherwise rfl rfl rfl rfl
theorem dX4_mostOtherwise_13 : dc cX4_mostOtherwise 13 14 (.iconst 0) 1 := o_3 ob_X4_mostOtherwise rfl rfl rfl
theorem dX4_mostOtherwise_14 : dc cX4_mostOtherwise 14 15 (.iload_n 3) 1 := o_29 ob_X4_mostOtherwise rfl rfl rfl
theorem dX4_mostOtherwise_15 : dc cX4_mostOtherwise 15 18 (.invokevirtual 49) 3 := o_182 ob_X4_mostOtherwise rfl rfl rfl rfl
theorem dX4_mostOtherwise_18 : dc cX4_mostOtherwise 18 20 (.istore 4) 2 := o_54 ob_X4_mostOtherwise rfl rfl rfl rfl
theorem dX4_mostOtherwise_20 : dc cX4_mostOtherwise 20 21 (.iconst 0) 1 := o_3 ob_X4_mostOtherwise rfl rfl rfl
theorem dX4_mostOtherwise_21 : dc cX4_mostOtherwise 21 23 (.istore 5) 2 := o_54 ob_X4_mostOtherwise rfl rfl rfl rfl
theorem dX4_mostOtherwise_23 : dc cX4_mostOtherwise 23 25 (.iload 5) 2 := o_21 ob_X4_mostOtherwise rfl rfl rfl rfl
theorem dX4_mostOtherwise_25 : dc cX4_mostOtherwise 25 26 (.aload_n 0) 1 := o_42 ob_X4_mostOtherwise rfl rfl rfl
theorem dX4_mostOtherwise_26 : dc cX4_mostOtherwise 26 29 (.getfield 45) 3 := o_180 ob_X4_mostOtherwise rfl rfl rfl rfl
theorem dX4_mostOtherwise_29 : dc cX4_mostOtherwise 29 32 (.getfield 53) 3 := o_180 ob_X4_mostOtherwise rfl rfl rfl rfl
theorem dX4_mostOtherwise_32 : dc cX4_mostOtherwise 32 35 (.if_icmp .ge 38) 3 := o_162 ob_X4_mostOtherwise rfl rfl rfl rfl
theorem dX4_mostOtherwise_35 : dc cX4_mostOtherwise 35 37 (.iload 5) 2 := o_21 ob_X4_mostOtherwise rfl rfl rfl rfl
theorem dX4_mostOtherwise_37 : dc cX4_mostOtherwise 37 38 (.iload_n 2) 1 := o_28 ob_X4_mostOtherwise rfl rfl rfl
theorem dX4_mostOtherwise_38 : dc cX4_mostOtherwise 38 41 (.if_icmp .ne 8) 3 := o_160 ob_X4_mostOtherwise rfl rfl rfl rfl
theorem dX4_mostOtherwise_41 : dc cX4_mostOtherwise 41 43 (.iload 4) 2 := o_21 ob_X4_mostOtherwise rfl rfl rfl rfl
theorem dX4_mostOtherwise_43 : dc cX4_mostOtherwise 43 46 (.goto 19) 3 := o_167 ob_X4_mostOtherwise rfl rfl rfl rfl
theorem dX4_mostOtherwise_46 : dc cX4_mostOtherwise 46 48 (.iload 4) 2 := o_21 ob_X4_mostOtherwise rfl rfl rfl rfl
theorem dX4_mostOtherwise_48 : dc cX4_mostOtherwise 48 49 (.aload_n 0) 1 := o_42 ob_X4_mostOtherwise rfl rfl rfl
theorem dX4_mostOtherwise_49 : dc cX4_mostOtherwise 49 52 (.getfield 45) 3 := o_180 ob_X4_mostOtherwise rfl rfl rfl rfl
theorem dX4_mostOtherwise_52 : dc cX4_mostOtherwise 52 53 (.iload_n 1) 1 := o_27 ob_X4_mostOtherwise rfl rfl rfl
theorem dX4_mostOtherwise_53 : dc cX4_mostOtherwise 53 55 (.iload 5) 2 := o_21 ob_X4_mostOtherwise rfl rfl rfl rfl
theorem dX4_mostOtherwise_55 : dc cX4_mostOtherwise 55 56 (.iload_n 3) 1 := o_29 ob_X4_mostOtherwise rfl rfl rfl
theorem dX4_mostOtherwise_56 : dc cX4_mostOtherwise 56 59 (.invokevirtual 49) 3 := o_182 ob_X4_mostOtherwise rfl rfl rfl rfl
theorem dX4_mostOtherwise_59 : dc cX4_mostOtherwise 59 62 (.invokestatic 56) 3 := o_184 ob_X4_mostOtherwise rfl rfl rfl rfl
theorem dX4_mostOtherwise_62 : dc cX4_mostOtherwise 62 64 (.istore 4) 2 := o_54 ob_X4_mostOtherwise rfl rfl rfl rfl
theorem dX4_mostOtherwise_64 : dc cX4_mostOtherwise 64 67 (.iinc 5 1) 3 := o_132 ob_X4_mostOtherwise rfl rfl rfl rfl rfl
theorem dX4_mostOtherwise_67 : dc cX4_mostOtherwise 67 70 (.goto (-44)) 3 := o_167 ob_X4_mostOtherwise rfl rfl rfl rfl
theorem dX4_mostOtherwise_70 : dc cX4_mostOtherwise 70 72 (.iload 4) 2 := o_21 ob_X4_mostOtherwise rfl rfl rfl rfl
theorem dX4_mostOtherwise_72 : dc cX4_mostOtherwise 72 73 .ireturn 1 := o_172 ob_X4_mostOtherwise rfl rfl rfl
def F_Day_mostOtherwise_b23 (x1 : Int32) (x2 : Int32) (x3 : Int32) (M : Mem) (z : Int32 × Int32) : Option ((Int32 × Int32) ⊕ ((Int32))) :=
  if (M.1 1 0) ≤ z.2 then some (.inr z.1) else if z.2 = x2 then some (.inl ((z.1, z.2 + 1))) else (F_Well_bringsOwn x1 z.2 x3 M).bind fun r2 => (F_Math_max_III z.1 r2 M).bind fun r3 => some (.inl ((r3, z.2 + 1)))
def F_Day_mostOtherwise_l23 (x1 : Int32) (x2 : Int32) (x3 : Int32) (x4 : Int32) (x5 : Int32) (M : Mem) : Option (Int32) :=
  (iter (F_Day_mostOtherwise_b23 x1 x2 x3 M) FUEL (x4, x5)).bind fun r => some r
def F_Day_mostOtherwise_j14 (x1 : Int32) (x2 : Int32) (x3 : Int32) (s1 : Int32) (s2 : Bool) (M : Mem) : Option (Int32) :=
  (F_Well_bringsOwn s1 ((b2i s2)) x3 M).bind fun r1 => F_Day_mostOtherwise_l23 x1 x2 x3 r1 0 M
def F_Day_mostOtherwise (x1 : Int32) (x2 : Int32) (x3 : Int32) (M : Mem) : Option (Int32) :=
  if x2 = 0 then F_Day_mostOtherwise_j14 x1 x2 x3 x1 true M else F_Day_mostOtherwise_j14 x1 x2 x3 x1 false M
set_option maxRecDepth 100000 in
set_option maxHeartbeats 4000000 in
theorem K_Day_mostOtherwise (l : Launch) (g : GB) (htr : l.stackTraces = false) (x1 : Int32) (x2 : Int32) (x3 : Int32) (M : Mem) (rr : Int32) (h : F_Day_mostOtherwise x1 x2 x3 M = some rr) : CT l g yX4_mostOtherwise (.code yX4_mostOtherwise cX4_mostOtherwise 6 (some .int) :: wAll) { frames := 2, cells := 0, slots := 0, locals := 44 } [.ref (g.2.1 68), .int x1, .int x2, .int x3] M (.inl (some (.int rr))) M := by
  refine CT.of [(0, .ref (g.2.1 68)), (1, .int x1), (2, .int x2), (3, .int x3)] (by decide +kernel) (Nat.le_of_ble_eq_true rfl) rfl htr ?_
  intro p e s m args below meth c K hr ht
  skip
  obtain ⟨PHI, hPHI, h⟩ : ∃ PHI : Int32 → Prop, (∀ a, PHI a → a = rr) ∧ wpO (F_Day_mostOtherwise x1 x2 x3 M) PHI := ⟨fun a => a = rr, fun _ h => h, _, h, rfl⟩
  have J23 : ∀ (x1 : Int32) (x2 : Int32) (x3 : Int32) (x4 : Int32) (x5 : Int32), wpO (F_Day_mostOtherwise_l23 x1 x2 x3 x4 x5 M) PHI → GG p l e { frames := 2, cells := 0, slots := 0, locals := 44 } s m args below meth c g 6 (vx_MQ below (Qn g s.heap.size (.inl (some (.int rr))) M) (QX g s.heap.size (.inl (some (.int rr))) M) args s 0 0 (AS g s.heap.size)) 0 0 23 [(0, .ref (g.2.1 68)), (1, .int x1), (2, .int x2), (3, .int x3), (4, .int x4), (5, .int x5)] [] M := by
    intro x1 x2 x3 x4 x5 h
    unfold F_Day_mostOtherwise_l23 at h
    refine loop_C2 (G := fun (x4 : Int32) (x5 : Int32) => GG p l e { frames := 2, cells := 0, slots := 0, locals := 44 } s m args below meth c g 6 (vx_MQ below (Qn g s.heap.size (.inl (some (.int rr))) M) (QX g s.heap.size (.inl (some (.int rr))) M) args s 0 0 (AS g s.heap.size)) 0 0 23 [(0, .ref (g.2.1 68)), (1, .int x1), (2, .int x2), (3, .int x3), (4, .int x4), (5, .int x5)] [] M) (body := F_Day_mostOtherwise_b23 x1 x2 x3 M) ?_ FUEL _ _ (wpO_bind h)
    intro P23 E23 X23
    intro z h
    unfold F_Day_mostOtherwise_b23 at h
    refine G_iload 5 rfl K dX4_mostOtherwise_23 ?_
    refine G_aload_n rfl 0 rfl K dX4_mostOtherwise_25 ?_
    refine G_get (ci := 4) (k := 0) K rfl in_X4 wd_282 rfl dX4_mostOtherwise_26 (Nat.le_of_ble_eq_true rfl) (sh_68 _ _) (Nat.le_of_ble_eq_true rfl) rfl ?_
    refine G_get (ci := 10) (k := 0) K rfl in_X10 wd_57 rfl dX4_mostOtherwise_29 (Nat.le_of_ble_eq_true rfl) (sh_1 _ _) (Nat.le_of_ble_eq_true rfl) rfl ?_
    refine G_icmp_ge (tgt := 70) K dX4_mostOtherwise_32 (by decide) (fun hc => ?_) (fun hc => ?_)
    · have h := wpO_t h hc
      have h := X23 _ (wpO_some h)
      try dsimp only at h
      refine G_iload 4 rfl K dX4_mostOtherwise_70 ?_
      cases hPHI _ (wpO_some h)
      exact G_iret K hr rfl dX4_mostOtherwise_72 (Nat.le_of_ble_eq_true rfl) (Nat.le_of_ble_eq_true rfl) ⟨rfl, rfl⟩
    · have h := wpO_f h hc
      refine G_iload 5 rfl K dX4_mostOtherwise_35 ?_
      refine G_iload_n rfl 2 rfl K dX4_mostOtherwise_37 ?_
      refine G_icmp_ne (tgt := 46) K dX4_mostOtherwise_38 (by decide) (fun hc => ?_) (fun hc => ?_)
      · have h := wpO_f h hc
        refine G_iload 4 rfl K dX4_mostOtherwise_46 ?_
        refine G_aload_n rfl 0 rfl K dX4_mostOtherwise_48 ?_
        refine G_get (ci := 4) (k := 0) K rfl in_X4 wd_282 rfl dX4_mostOtherwise_49 (Nat.le_of_ble_eq_true rfl) (sh_68 _ _) (Nat.le_of_ble_eq_true rfl) rfl ?_
        refine G_iload_n rfl 1 rfl K dX4_mostOtherwise_52 ?_
        refine G_iload 5 rfl K dX4_mostOtherwise_53 ?_
        refine G_iload_n rfl 3 rfl K dX4_mostOtherwise_55 ?_
        obtain ⟨r2, e2, h⟩ := wpO_bind h
        refine G_callVi (ci := 10) [.int x1, .int z.2, .int x3] [.int z.1] K dX4_mostOtherwise_56 wv_577 yd_X10_bringsOwn (Nat.le_of_ble_eq_true rfl) (sh_1 _ _) rfl (by decide) (by decide) rfl rfl (Nat.le_of_ble_eq_true rfl) (K_Well_bringsOwn l g htr x1 z.2 x3 M _ e2) ?_
        obtain ⟨r3, e3, h⟩ := wpO_bind h
        refine G_callSi [.int z.1, .int r2] [] K dX4_mostOtherwise_59 wv_581 yd_J9_max_7cf53 (by decide) (by decide) rfl rfl (Nat.le_of_ble_eq_true rfl) (K_Math_max_III l g htr z.1 r2 M _ e3) ?_
        refine G_istore K dX4_mostOtherwise_62 (Nat.le_of_ble_eq_true rfl) rfl ?_
        refine G_iinc (v := z.2 + 1) 5 rfl K dX4_mostOtherwise_64 rfl (Nat.le_of_ble_eq_true rfl) rfl ?_
        refine G_goto (tgt := 23) K dX4_mostOtherwise_67 (by decide) ?_
        exact G_lv (lv' := [(0, .ref (g.2.1 68)), (1, .int x1), (2, .int x2), (3, .int x3), (4, .int r3), (5, .int (z.2 + 1))]) [2, 3, 4, 5, 1, 0] rfl (E23 r3 (z.2 + 1) (wpO_some h))
      · have h := wpO_t h hc
        refine G_iload 4 rfl K dX4_mostOtherwise_41 ?_
        refine G_goto (tgt := 62) K dX4_mostOtherwise_43 (by decide) ?_
        refine G_istore K dX4_mostOtherwise_62 (Nat.le_of_ble_eq_true rfl) rfl ?_
        refine G_iinc (v := z.2 + 1) 5 rfl K dX4_mostOtherwise_64 rfl (Nat.le_of_ble_eq_true rfl) rfl ?_
        refine G_goto (tgt := 23) K dX4_mostOtherwise_67 (by decide) ?_
        exact G_lv (lv' := [(0, .ref (g.2.1 68)), (1, .int x1), (2, .int x2), (3, .int x3), (4, .int z.1), (5, .int (z.2 + 1))]) [2, 3, 4, 5, 1, 0] rfl (E23 z.1 (z.2 + 1) (wpO_some h))
  have J14 : ∀ (x1 : Int32) (x2 : Int32) (x3 : Int32) (s1 : Int32) (s2 : Bool), wpO (F_Day_mostOtherwise_j14 x1 x2 x3 s1 s2 M) PHI → GG p l e { frames := 2, cells := 0, slots := 0, locals := 44 } s m args below meth c g 6 (vx_MQ below (Qn g s.heap.size (.inl (some (.int rr))) M) (QX g s.heap.size (.inl (some (.int rr))) M) args s 0 0 (AS g s.heap.size)) 0 0 14 [(0, .ref (g.2.1 68)), (1, .int x1), (2, .int x2), (3, .int x3)] [.int ((b2i s2)), .int s1, .ref (g.2.1 1)] M := by
    intro x1 x2 x3 s1 s2 h
    unfold F_Day_mostOtherwise_j14 at h
    refine G_iload_n rfl 3 rfl K dX4_mostOtherwise_14 ?_
    obtain ⟨r1, e1, h⟩ := wpO_bind h
    refine G_callVi (ci := 10) [.int s1, .int ((b2i s2)), .int x3] [] K dX4_mostOtherwise_15 wv_577 yd_X10_bringsOwn (Nat.le_of_ble_eq_true rfl) (sh_1 _ _) rfl (by decide) (by decide) rfl rfl (Nat.le_of_ble_eq_true rfl) (K_Well_bringsOwn l g htr s1 ((b2i s2)) x3 M _ e1) ?_
    refine G_istore K dX4_mostOtherwise_18 (Nat.le_of_ble_eq_true rfl) rfl ?_
    refine G_iconst (v := 0) rfl K dX4_mostOtherwise_20 ?_
    refine G_istore K dX4_mostOtherwise_21 (Nat.le_of_ble_eq_true rfl) rfl ?_
    exact G_lv (lv' := [(0, .ref (g.2.1 68)), (1, .int x1), (2, .int x2), (3, .int x3), (4, .int r1), (5, .int 0)]) [2, 3, 4, 5, 1, 0] rfl (J23 x1 x2 x3 r1 0 h)
  unfold F_Day_mostOtherwise at h
  refine G_aload_n rfl 0 rfl K dX4_mostOtherwise_0 ?_
  refine G_get (ci := 4) (k := 0) K rfl in_X4 wd_282 rfl dX4_mostOtherwise_1 (Nat.le_of_ble_eq_true rfl) (sh_68 _ _) (Nat.le_of_ble_eq_true rfl) rfl ?_
  refine G_iload_n rfl 1 rfl K dX4_mostOtherwise_4 ?_
  refine G_iload_n rfl 2 rfl K dX4_mostOtherwise_5 ?_
  refine G_if_ne (tgt := 13) K dX4_mostOtherwise_6 (by decide) (fun hc => ?_) (fun hc => ?_)
  · have h := wpO_f h hc
    refine G_iconst (v := 0) rfl K dX4_mostOtherwise_13 ?_
    exact J14 x1 x2 x3 x1 false h
  · have h := wpO_t h hc
    refine G_iconst (v := 1) rfl K dX4_mostOtherwise_9 ?_
    refine G_goto (tgt := 14) K dX4_mostOtherwise_10 (by decide) ?_
    exact J14 x1 x2 x3 x1 true h
theorem yd_X4_laterWorth : ydN yX4_laterWorth 1 := ⟨by decide, by decide, by decide +kernel⟩
theorem yd_X4_mostOtherwise : ydN yX4_mostOtherwise 3 := ⟨by decide, by decide, by decide +kernel⟩
theorem wv_1159 : wdV "KeptWell$Day" 153 yX4_laterWorth cX4_laterWorth 2 (some .long) := ⟨wd_1159, wd_1161, ws_X4_laterWorth, wd_9, wd_1162⟩
theorem wv_1163 : wdV "KeptWell$Day" 156 yX4_mostOtherwise cX4_mostOtherwise 6 (some .int) := ⟨wd_1163, wd_1165, ws_X4_mostOtherwise, wd_9, wd_1166⟩
def on_X4_isThreatEnough : Nat := 0xac030400a70407009a0d15cdffa7010e840d36030400a70407009c946169859c00b6051504151b2a07160b166700b60e152a00b42a20009a0d153200a306150e150e36040d36030400a70407009c946169859c00b61d1c1b2a07160b166700b6032a00b42a0b379900b606152ad4ffa7010b844800b6619900b664040b152a69853100b6051504151b2d00b42a07160b152a00b42a2b00a306150b150b36044800b669853100b61d1c1b2d00b42a0916032a00b42a093769859300b42d00b42a6d85649600b42d00b42a9300b42d00b42a07161f00a70907009d649600b42d00b42a9300b42d00b42ae9ffa7010984073769859300b42d00b42a07161600a309100915093603073785649600b42d00b42a9300b42d00b42a
theorem ob_X4_isThreatEnough : OKB cX4_isThreatEnough on_X4_isThreatEnough 280 := ⟨by decide +kernel, by decide +kernel⟩
theorem dX4_isThreatEnough_0 : dc cX4_isThreatEnough 0 1 (.aload_n 0) 1 := o_42 ob_X4_isThreatEnough rfl rfl rfl
theorem dX4_isThreatEnough_1 : dc cX4_isThreatEnough 1 4 (.getfield 45) 3 := o_180 ob_X4_isThreatEnough rfl rfl rfl rfl
theorem dX4_isThreatEnough_4 : dc cX4_isThreatEnough 4 7 (.getfield 147) 3 := o_180 ob_X4_isThreatEnough rfl rfl rfl rfl
theorem dX4_isThreatEnough_7 : dc cX4_isThreatEnough 7 8 (.aload_n 0) 1 := o_42 ob_X4_isThreatEnough rfl rfl rfl
theorem dX4_isThreatEnough_8 : dc cX4_isThreatEnough 8 11 (.getfield 45) 3 := o_180 ob_X4_isThreatEnough rfl rfl rfl rfl
theorem dX4_isThreatEnough_11 : dc cX4_isThreatEnough 11 14 (.getfield 150) 3 := o_180 ob_X4_isThreatEnough rfl rfl rfl rfl
theorem dX4_isThreatEnough_14 : dc cX4_isThreatEnough 14 15 .isub 1 := o_100 ob_X4_isThreatEnough rfl rfl rfl
theorem dX4_isThreatEnough_15 : dc cX4_isThreatEnough 15 16 .i2l 1 := o_133 ob_X4_isThreatEnough rfl rfl rfl
theorem dX4_isThreatEnough_16 : dc cX4_isThreatEnough 16 18 (.lstore 7) 2 := o_55 ob_X4_isThreatEnough rfl rfl rfl rfl
theorem dX4_isThreatEnough_18 : dc cX4_isThreatEnough 18 19 (.iconst 0) 1 := o_3 ob_X4_isThreatEnough rfl rfl rfl
theorem dX4_isThreatEnough_19 : dc cX4_isThreatEnough 19 21 (.istore 9) 2 := o_54 ob_X4_isThreatEnough rfl rfl rfl rfl
theorem dX4_isThreatEnough_21 : dc cX4_isThreatEnough 21 23 (.iload 9) 2 := o_21 ob_X4_isThreatEnough rfl rfl rfl rfl
theorem dX4_isThreatEnough_23 : dc cX4_isThreatEnough 23 25 (.bipush 9) 2 := o_16 ob_X4_isThreatEnough rfl rfl rfl rfl
theorem dX4_isThreatEnough_25 : dc cX4_isThreatEnough 25 28 (.if_icmp .gt 22) 3 := o_163 ob_X4_isThreatEnough rfl rfl rfl rfl
theorem dX4_isThreatEnough_28 : dc cX4_isThreatEnough 28 30 (.lload 7) 2 := o_22 ob_X4_isThreatEnough rfl rfl rfl rfl
theorem dX4_isThreatEnough_30 : dc cX4_isThreatEnough 30 31 (.aload_n 0) 1 := o_42 ob_X4_isThreatEnough rfl rfl rfl
theorem dX4_isThreatEnough_31 : dc cX4_isThreatEnough 31 34 (.getfield 45) 3 := o_180 ob_X4_isThreatEnough rfl rfl rfl rfl
theorem dX4_isThreatEnough_34 : dc cX4_isThreatEnough 34 37 (.getfield 147) 3 := o_180 ob_X4_isThreatEnough rfl rfl rfl rfl
theorem dX4_isThreatEnough_37 : dc cX4_isThreatEnough 37 38 .i2l 1 := o_133 ob_X4_isThreatEnough rfl rfl rfl
theorem dX4_isThreatEnough_38 : dc cX4_isThreatEnough 38 39 .lmul 1 := o_105 ob_X4_isThreatEnough rfl rfl rfl
theorem dX4_isThreatEnough_39 : dc cX4_isThreatEnough 39 41 (.lstore 7) 2 := o_55 ob_X4_isThreatEnough rfl rfl rfl rfl
theorem dX4_isThreatEnough_41 : dc cX4_isThreatEnough 41 44 (.iinc 9 1) 3 := o_132 ob_X4_isThreatEnough rfl rfl rfl rfl rfl
theorem dX4_isThreatEnough_44 : dc cX4_isThreatEnough 44 47 (.goto (-23)) 3 := o_167 ob_X4_isThreatEnough rfl rfl rfl rfl
theorem dX4_isThreatEnough_47 : dc cX4_isThreatEnough 47 48 (.aload_n 0) 1 := o_42 ob_X4_isThreatEnough rfl rfl rfl
theorem dX4_isThreatEnough_48 : dc cX4_isThreatEnough 48 51 (.getfield 45) 3 := o_180 ob_X4_isThreatEnough rfl rfl rfl rfl
theorem dX4_isThreatEnough_51 : dc cX4_isThreatEnough 51 54 (.getfield 147) 3 := o_180 ob_X4_isThreatEnough rfl rfl rfl rfl
theorem dX4_isThreatEnough_54 : dc cX4_isThreatEnough 54 55 (.aload_n 0) 1 := o_42 ob_X4_isThreatEnough rfl rfl rfl
theorem dX4_isThreatEnough_55 : dc cX4_isThreatEnough 55 58 (.getfield 45) 3 := o_180 ob_X4_isThreatEnough rfl rfl rfl rfl
theorem dX4_isThreatEnough_58 : dc cX4_isThreatEnough 58 61 (.getfield 150) 3 := o_180 ob_X4_isThreatEnough rfl rfl rfl rfl
theorem dX4_isThreatEnough_61 : dc cX4_isThreatEnough 61 62 .isub 1 := o_100 ob_X4_isThreatEnough rfl rfl rfl
theorem dX4_isThreatEnough_62 : dc cX4_isThreatEnough 62 65 (.ifCond .gt 7) 3 := o_157 ob_X4_isThreatEnough rfl rfl rfl rfl
theorem dX4_isThreatEnough_65 : dc cX4_isThreatEnough 65 66 (.lconst 0) 1 := o_9 ob_X4_isThreatEnough rfl rfl rfl
theorem dX4_isThreatEnough_66 : dc cX4_isThreatEnough 66 69 (.goto 31) 3 := o_167 ob_X4_isThreatEnough rfl rfl rfl rfl
theorem dX4_isThreatEnough_69 : dc cX4_isThreatEnough 69 71 (.lload 7) 2 := o_22 ob_X4_isThreatEnough rfl rfl rfl rfl
theorem dX4_isThreatEnough_71 : dc cX4_isThreatEnough 71 72 (.aload_n 0) 1 := o_42 ob_X4_isThreatEnough rfl rfl rfl
theorem dX4_isThreatEnough_72 : dc cX4_isThreatEnough 72 75 (.getfield 45) 3 := o_180 ob_X4_isThreatEnough rfl rfl rfl rfl
theorem dX4_isThreatEnough_75 : dc cX4_isThreatEnough 75 78 (.getfield 147) 3 := o_180 ob_X4_isThreatEnough rfl rfl rfl rfl
theorem dX4_isThreatEnough_78 : dc cX4_isThreatEnough 78 79 (.aload_n 0) 1 := o_42 ob_X4_isThreatEnough rfl rfl rfl
theorem dX4_isThreatEnough_79 : dc cX4_isThreatEnough 79 82 (.getfield 45) 3 := o_180 ob_X4_isThreatEnough rfl rfl rfl rfl
theorem dX4_isThreatEnough_82 : dc cX4_isThreatEnough 82 85 (.getfield 150) 3 := o_180 ob_X4_isThreatEnough rfl rfl rfl rfl
theorem dX4_isThreatEnough_85 : dc cX4_isThreatEnough 85 86 .isub 1 := o_100 ob_X4_isThreatEnough rfl rfl rfl
theorem dX4_isThreatEnough_86 : dc cX4_isThreatEnough 86 87 .i2l 1 := o_133 ob_X4_isThreatEnough rfl rfl rfl
theorem dX4_isThreatEnough_87 : dc cX4_isThreatEnough 87 88 .ldiv 1 := o_109 ob_X4_isThreatEnough rfl rfl rfl
theorem dX4_isThreatEnough_88 : dc cX4_isThreatEnough 88 89 (.aload_n 0) 1 := o_42 ob_X4_isThreatEnough rfl rfl rfl
theorem dX4_isThreatEnough_89 : dc cX4_isThreatEnough 89 92 (.getfield 45) 3 := o_180 ob_X4_isThreatEnough rfl rfl rfl rfl
theorem dX4_isThreatEnough_92 : dc cX4_isThreatEnough 92 95 (.getfield 147) 3 := o_180 ob_X4_isThreatEnough rfl rfl rfl rfl
theorem dX4_isThreatEnough_95 : dc cX4_isThreatEnough 95 96 .i2l 1 := o_133 ob_X4_isThreatEnough rfl rfl rfl
theorem dX4_isThreatEnough_96 : dc cX4_isThreatEnough 96 97 .lmul 1 := o_105 ob_X4_isThreatEnough rfl rfl rfl
theorem dX4_isThreatEnough_97 : dc cX4_isThreatEnough 97 99 (.lstore 9) 2 := o_55 ob_X4_isThreatEnough rfl rfl rfl rfl
theorem dX4_isThreatEnough_99 : dc cX4_isThreatEnough 99 100 (.aload_n 0) 1 := o_42 ob_X4_isThreatEnough rfl rfl rfl
theorem dX4_isThreatEnough_100 : dc cX4_isThreatEnough 100 103 (.getfield 42) 3 := o_180 ob_X4_isThreatEnough rfl rfl rfl rfl
theorem dX4_isThreatEnough_103 : dc cX4_isThreatEnough 103 104 (.iconst 0) 1 := o_3 ob_X4_isThreatEnough rfl rfl rfl
theorem dX4_isThreatEnough_104 : dc cX4_isThreatEnough 104 106 (.lload 9) 2 := o_22 ob_X4_isThreatEnough rfl rfl rfl rfl
theorem dX4_isThreatEnough_106 : dc cX4_isThreatEnough 106 107 (.aload_n 0) 1 := o_42 ob_X4_isThreatEnough rfl rfl rfl
theorem dX4_isThreatEnough_107 : dc cX4_isThreatEnough 107 110 (.getfield 45) 3 := o_180 ob_X4_isThreatEnough rfl rfl rfl rfl
theorem dX4_isThreatEnough_110 : dc cX4_isThreatEnough 110 111 (.iload_n 1) 1 := o_27 ob_X4_isThreatEnough rfl rfl rfl
theorem dX4_isThreatEnough_111 : dc cX4_isThreatEnough 111 112 (.iload_n 2) 1 := o_28 ob_X4_isThreatEnough rfl rfl rfl
theorem dX4_isThreatEnough_112 : dc cX4_isThreatEnough 112 113 (.iload_n 3) 1 := o_29 ob_X4_isThreatEnough rfl rfl rfl
theorem dX4_isThreatEnough_113 : dc cX4_isThreatEnough 113 116 (.invokevirtual 49) 3 := o_182 ob_X4_isThreatEnough rfl rfl rfl rfl
theorem dX4_isThreatEnough_116 : dc cX4_isThreatEnough 116 117 .i2l 1 := o_133 ob_X4_isThreatEnough rfl rfl rfl
theorem dX4_isThreatEnough_117 : dc cX4_isThreatEnough 117 118 .lmul 1 := o_105 ob_X4_isThreatEnough rfl rfl rfl
theorem dX4_isThreatEnough_118 : dc cX4_isThreatEnough 118 121 (.invokevirtual 72) 3 := o_182 ob_X4_isThreatEnough rfl rfl rfl rfl
theorem dX4_isThreatEnough_121 : dc cX4_isThreatEnough 121 122 (.iconst 1) 1 := o_4 ob_X4_isThreatEnough rfl rfl rfl
theorem dX4_isThreatEnough_122 : dc cX4_isThreatEnough 122 124 (.istore 11) 2 := o_54 ob_X4_isThreatEnough rfl rfl rfl rfl
theorem dX4_isThreatEnough_124 : dc cX4_isThreatEnough 124 126 (.iload 11) 2 := o_21 ob_X4_isThreatEnough rfl rfl rfl rfl
theorem dX4_isThreatEnough_126 : dc cX4_isThreatEnough 126 128 (.iload 6) 2 := o_21 ob_X4_isThreatEnough rfl rfl rfl rfl
theorem dX4_isThreatEnough_128 : dc cX4_isThreatEnough 128 131 (.if_icmp .gt 43) 3 := o_163 ob_X4_isThreatEnough rfl rfl rfl rfl
theorem dX4_isThreatEnough_131 : dc cX4_isThreatEnough 131 132 (.aload_n 0) 1 := o_42 ob_X4_isThreatEnough rfl rfl rfl
theorem dX4_isThreatEnough_132 : dc cX4_isThreatEnough 132 135 (.getfield 42) 3 := o_180 ob_X4_isThreatEnough rfl rfl rfl rfl
theorem dX4_isThreatEnough_135 : dc cX4_isThreatEnough 135 137 (.iload 11) 2 := o_21 ob_X4_isThreatEnough rfl rfl rfl rfl
theorem dX4_isThreatEnough_137 : dc cX4_isThreatEnough 137 139 (.lload 7) 2 := o_22 ob_X4_isThreatEnough rfl rfl rfl rfl
theorem dX4_isThreatEnough_139 : dc cX4_isThreatEnough 139 140 (.aload_n 0) 1 := o_42 ob_X4_isThreatEnough rfl rfl rfl
theorem dX4_isThreatEnough_140 : dc cX4_isThreatEnough 140 143 (.getfield 45) 3 := o_180 ob_X4_isThreatEnough rfl rfl rfl rfl
theorem dX4_isThreatEnough_143 : dc cX4_isThreatEnough 143 144 (.iload_n 1) 1 := o_27 ob_X4_isThreatEnough rfl rfl rfl
theorem dX4_isThreatEnough_144 : dc cX4_isThreatEnough 144 146 (.iload 4) 2 := o_21 ob_X4_isThreatEnough rfl rfl rfl rfl
theorem dX4_isThreatEnough_146 : dc cX4_isThreatEnough 146 148 (.iload 5) 2 := o_21 ob_X4_isThreatEnough rfl rfl rfl rfl
theorem dX4_isThreatEnough_148 : dc cX4_isThreatEnough 148 151 (.invokevirtual 49) 3 := o_182 ob_X4_isThreatEnough rfl rfl rfl rfl
theorem dX4_isThreatEnough_151 : dc cX4_isThreatEnough 151 152 .i2l 1 := o_133 ob_X4_isThreatEnough rfl rfl rfl
theorem dX4_isThreatEnough_152 : dc cX4_isThreatEnough 152 153 .lmul 1 := o_105 ob_X4_isThreatEnough rfl rfl rfl
theorem dX4_isThreatEnough_153 : dc cX4_isThreatEnough 153 154 (.aload_n 0) 1 := o_42 ob_X4_isThreatEnough rfl rfl rfl
theorem dX4_isThreatEnough_154 : dc cX4_isThreatEnough 154 156 (.iload 11) 2 := o_21 ob_X4_isThreatEnough rfl rfl rfl rfl
theorem dX4_isThreatEnough_156 : dc cX4_isThreatEnough 156 157 (.iconst 1) 1 := o_4 ob_X4_isThreatEnough rfl rfl rfl
theorem dX4_isThreatEnough_157 : dc cX4_isThreatEnough 157 158 .isub 1 := o_100 ob_X4_isThreatEnough rfl rfl rfl
theorem dX4_isThreatEnough_158 : dc cX4_isThreatEnough 158 161 (.invokevirtual 153) 3 := o_182 ob_X4_isThreatEnough rfl rfl rfl rfl
theorem dX4_isThreatEnough_161 : dc cX4_isThreatEnough 161 162 .ladd 1 := o_97 ob_X4_isThreatEnough rfl rfl rfl
theorem dX4_isThreatEnough_162 : dc cX4_isThreatEnough 162 165 (.invokevirtual 72) 3 := o_182 ob_X4_isThreatEnough rfl rfl rfl rfl
theorem dX4_isThreatEnough_165 : dc cX4_isThreatEnough 165 168 (.iinc 11 1) 3 := o_132 ob_X4_isThreatEnough rfl rfl rfl rfl rfl
theorem dX4_isThreatEnough_168 : dc cX4_isThreatEnough 168 171 (.goto (-44)) 3 := o_167 ob_X4_isThreatEnough rfl rfl rfl rfl
theorem dX4_isThreatEnough_171 : dc cX4_isThreatEnough 171 172 (.aload_n 0) 1 := o_42 ob_X4_isThreatEnough rfl rfl rfl
theorem dX4_isThreatEnough_172 : dc cX4_isThreatEnough 172 174 (.iload 6) 2 := o_21 ob_X4_isThreatEnough rfl rfl rfl rfl
theorem dX4_isThreatEnough_174 : dc cX4_isThreatEnough 174 177 (.invokevirtual 153) 3 := o_182 ob_X4_isThreatEnough rfl rfl rfl rfl
theorem dX4_isThreatEnough_177 : dc cX4_isThreatEnough 177 179 (.lstore 11) 2 := o_55 ob_X4_isThreatEnough rfl rfl rfl rfl
theorem dX4_isThreatEnough_179 : dc cX4_isThreatEnough 179 180 (.aload_n 0) 1 := o_42 ob_X4_isThreatEnough rfl rfl rfl
theorem dX4_isThreatEnough_180 : dc cX4_isThreatEnough 180 183 (.getfield 42) 3 := o_180 ob_X4_isThreatEnough rfl rfl rfl rfl
theorem dX4_isThreatEnough_183 : dc cX4_isThreatEnough 183 184 (.iconst 0) 1 := o_3 ob_X4_isThreatEnough rfl rfl rfl
theorem dX4_isThreatEnough_184 : dc cX4_isThreatEnough 184 187 (.invokevirtual 103) 3 := o_182 ob_X4_isThreatEnough rfl rfl rfl rfl
theorem dX4_isThreatEnough_187 : dc cX4_isThreatEnough 187 189 (.lload 11) 2 := o_22 ob_X4_isThreatEnough rfl rfl rfl rfl
theorem dX4_isThreatEnough_189 : dc cX4_isThreatEnough 189 191 (.lload 7) 2 := o_22 ob_X4_isThreatEnough rfl rfl rfl rfl
theorem dX4_isThreatEnough_191 : dc cX4_isThreatEnough 191 192 (.aload_n 0) 1 := o_42 ob_X4_isThreatEnough rfl rfl rfl
theorem dX4_isThreatEnough_192 : dc cX4_isThreatEnough 192 193 (.iload_n 1) 1 := o_27 ob_X4_isThreatEnough rfl rfl rfl
theorem dX4_isThreatEnough_193 : dc cX4_isThreatEnough 193 194 (.iload_n 2) 1 := o_28 ob_X4_isThreatEnough rfl rfl rfl
theorem dX4_isThreatEnough_194 : dc cX4_isThreatEnough 194 195 (.iload_n 3) 1 := o_29 ob_X4_isThreatEnough rfl rfl rfl
theorem dX4_isThreatEnough_195 : dc cX4_isThreatEnough 195 198 (.invokevirtual 156) 3 := o_182 ob_X4_isThreatEnough rfl rfl rfl rfl
theorem dX4_isThreatEnough_198 : dc cX4_isThreatEnough 198 199 .i2l 1 := o_133 ob_X4_isThreatEnough rfl rfl rfl
theorem dX4_isThreatEnough_199 : dc cX4_isThreatEnough 199 200 .lmul 1 := o_105 ob_X4_isThreatEnough rfl rfl rfl
theorem dX4_isThreatEnough_200 : dc cX4_isThreatEnough 200 201 .ladd 1 := o_97 ob_X4_isThreatEnough rfl rfl rfl
theorem dX4_isThreatEnough_201 : dc cX4_isThreatEnough 201 202 .lcmp 1 := o_148 ob_X4_isThreatEnough rfl rfl rfl
theorem dX4_isThreatEnough_202 : dc cX4_isThreatEnough 202 205 (.ifCond .ge 7) 3 := o_156 ob_X4_isThreatEnough rfl rfl rfl rfl
theorem dX4_isThreatEnough_205 : dc cX4_isThreatEnough 205 206 (.iconst 1) 1 := o_4 ob_X4_isThreatEnough rfl rfl rfl
theorem dX4_isThreatEnough_206 : dc cX4_isThreatEnough 206 209 (.goto 4) 3 := o_167 ob_X4_isThreatEnough rfl rfl rfl rfl
theorem dX4_isThreatEnough_209 : dc cX4_isThreatEnough 209 210 (.iconst 0) 1 := o_3 ob_X4_isThreatEnough rfl rfl rfl
theorem dX4_isThreatEnough_210 : dc cX4_isThreatEnough 210 212 (.istore 13) 2 := o_54 ob_X4_isThreatEnough rfl rfl rfl rfl
theorem dX4_isThreatEnough_212 : dc cX4_isThreatEnough 212 213 (.iconst 1) 1 := o_4 ob_X4_isThreatEnough rfl rfl rfl
theorem dX4_isThreatEnough_213 : dc cX4_isThreatEnough 213 215 (.istore 14) 2 := o_54 ob_X4_isThreatEnough rfl rfl rfl rfl
theorem dX4_isThreatEnough_215 : dc cX4_isThreatEnough 215 217 (.iload 14) 2 := o_21 ob_X4_isThreatEnough rfl rfl rfl rfl
theorem dX4_isThreatEnough_217 : dc cX4_isThreatEnough 217 219 (.iload 6) 2 := o_21 ob_X4_isThreatEnough rfl rfl rfl rfl
theorem dX4_isThreatEnough_219 : dc cX4_isThreatEnough 219 222 (.if_icmp .gt 50) 3 := o_163 ob_X4_isThreatEnough rfl rfl rfl rfl
theorem dX4_isThreatEnough_222 : dc cX4_isThreatEnough 222 224 (.iload 13) 2 := o_21 ob_X4_isThreatEnough rfl rfl rfl rfl
theorem dX4_isThreatEnough_224 : dc cX4_isThreatEnough 224 227 (.ifCond .ne 32) 3 := o_154 ob_X4_isThreatEnough rfl rfl rfl rfl
theorem dX4_isThreatEnough_227 : dc cX4_isThreatEnough 227 228 (.aload_n 0) 1 := o_42 ob_X4_isThreatEnough rfl rfl rfl
theorem dX4_isThreatEnough_228 : dc cX4_isThreatEnough 228 231 (.getfield 42) 3 := o_180 ob_X4_isThreatEnough rfl rfl rfl rfl
theorem dX4_isThreatEnough_231 : dc cX4_isThreatEnough 231 233 (.iload 14) 2 := o_21 ob_X4_isThreatEnough rfl rfl rfl rfl
theorem dX4_isThreatEnough_233 : dc cX4_isThreatEnough 233 236 (.invokevirtual 103) 3 := o_182 ob_X4_isThreatEnough rfl rfl rfl rfl
theorem dX4_isThreatEnough_236 : dc cX4_isThreatEnough 236 238 (.lload 11) 2 := o_22 ob_X4_isThreatEnough rfl rfl rfl rfl
theorem dX4_isThreatEnough_238 : dc cX4_isThreatEnough 238 240 (.lload 7) 2 := o_22 ob_X4_isThreatEnough rfl rfl rfl rfl
theorem dX4_isThreatEnough_240 : dc cX4_isThreatEnough 240 241 (.aload_n 0) 1 := o_42 ob_X4_isThreatEnough rfl rfl rfl
theorem dX4_isThreatEnough_241 : dc cX4_isThreatEnough 241 242 (.iload_n 1) 1 := o_27 ob_X4_isThreatEnough rfl rfl rfl
theorem dX4_isThreatEnough_242 : dc cX4_isThreatEnough 242 244 (.iload 4) 2 := o_21 ob_X4_isThreatEnough rfl rfl rfl rfl
theorem dX4_isThreatEnough_244 : dc cX4_isThreatEnough 244 246 (.iload 5) 2 := o_21 ob_X4_isThreatEnough rfl rfl rfl rfl
theorem dX4_isThreatEnough_246 : dc cX4_isThreatEnough 246 249 (.invokevirtual 156) 3 := o_182 ob_X4_isThreatEnough rfl rfl rfl rfl
theorem dX4_isThreatEnough_249 : dc cX4_isThreatEnough 249 250 .i2l 1 := o_133 ob_X4_isThreatEnough rfl rfl rfl
theorem dX4_isThreatEnough_250 : dc cX4_isThreatEnough 250 251 .lmul 1 := o_105 ob_X4_isThreatEnough rfl rfl rfl
theorem dX4_isThreatEnough_251 : dc cX4_isThreatEnough 251 252 .ladd 1 := o_97 ob_X4_isThreatEnough rfl rfl rfl
theorem dX4_isThreatEnough_252 : dc cX4_isThreatEnough 252 253 .lcmp 1 := o_148 ob_X4_isThreatEnough rfl rfl rfl
theorem dX4_isThreatEnough_253 : dc cX4_isThreatEnough 253 256 (.ifCond .ge 7) 3 := o_156 ob_X4_isThreatEnough rfl rfl rfl rfl
theorem dX4_isThreatEnough_256 : dc cX4_isThreatEnough 256 257 (.iconst 1) 1 := o_4 ob_X4_isThreatEnough rfl rfl rfl
theorem dX4_isThreatEnough_257 : dc cX4_isThreatEnough 257 260 (.goto 4) 3 := o_167 ob_X4_isThreatEnough rfl rfl rfl rfl
theorem dX4_isThreatEnough_260 : dc cX4_isThreatEnough 260 261 (.iconst 0) 1 := o_3 ob_X4_isThreatEnough rfl rfl rfl
theorem dX4_isThreatEnough_261 : dc cX4_isThreatEnough 261 263 (.istore 13) 2 := o_54 ob_X4_isThreatEnough rfl rfl rfl rfl
theorem dX4_isThreatEnough_263 : dc cX4_isThreatEnough 263 266 (.iinc 14 1) 3 := o_132 ob_X4_isThreatEnough rfl rfl rfl rfl rfl
theorem dX4_isThreatEnough_266 : dc cX4_isThreatEnough 266 269 (.goto (-51)) 3 := o_167 ob_X4_isThreatEnough rfl rfl rfl rfl
theorem dX4_isThreatEnough_269 : dc cX4_isThreatEnough 269 271 (.iload 13) 2 := o_21 ob_X4_isThreatEnough rfl rfl rfl rfl
theorem dX4_isThreatEnough_271 : dc cX4_isThreatEnough 271 274 (.ifCond .ne 7) 3 := o_154 ob_X4_isThreatEnough rfl rfl rfl rfl
theorem dX4_isThreatEnough_274 : dc cX4_isThreatEnough 274 275 (.iconst 1) 1 := o_4 ob_X4_isThreatEnough rfl rfl rfl
theorem dX4_isThreatEnough_275 : dc cX4_isThreatEnough 275 278 (.goto 4) 3 := o_167 ob_X4_isThreatEnough rfl rfl rfl rfl
theorem dX4_isThreatEnough_278 : dc cX4_isThreatEnough 278 279 (.iconst 0) 1 := o_3 ob_X4_isThreatEnough rfl rfl rfl
theorem dX4_isThreatEnough_279 : dc cX4_isThreatEnough 279 280 .ireturn 1 := o_172 ob_X4_isThreatEnough rfl rfl rfl
def F_Day_isThreatEnough_j269 (x13 : Bool) (M : Mem) : Option (Bool × Mem) :=
  if x13 = true then some ((false, M)) else some ((true, M))
def F_Day_isThreatEnough_b215 (x1 : Int32) (x4 : Int32) (x5 : Int32) (x6 : Int32) (x7 : Int64) (x11 : Int64) (M : Mem) (z : Bool × Int32) : Option ((Bool × Int32) ⊕ ((Bool))) :=
  if x6 < z.2 then some (.inr z.1) else if z.1 = true then some (.inl ((true, z.2 + 1))) else (F_Row_at 78 10 z.2 M).bind fun r6 => (F_Day_mostOtherwise x1 x4 x5 M).bind fun r7 => if (x11 + (x7 * r7.toInt64)) ≤ r6 then some (.inl ((false, z.2 + 1))) else some (.inl ((true, z.2 + 1)))
def F_Day_isThreatEnough_l215 (x1 : Int32) (x4 : Int32) (x5 : Int32) (x6 : Int32) (x7 : Int64) (x11 : Int64) (x13 : Bool) (x14 : Int32) (M : Mem) : Option (Bool × Mem) :=
  (iter (F_Day_isThreatEnough_b215 x1 x4 x5 x6 x7 x11 M) FUEL (x13, x14)).bind fun r => F_Day_isThreatEnough_j269 r M
def F_Day_isThreatEnough_j171 (x1 : Int32) (x2 : Int32) (x3 : Int32) (x4 : Int32) (x5 : Int32) (x6 : Int32) (x7 : Int64) (M : Mem) : Option (Bool × Mem) :=
  (F_Day_laterWorth x6 M).bind fun r3 => (F_Row_at 78 10 0 M).bind fun r4 => (F_Day_mostOtherwise x1 x2 x3 M).bind fun r5 => if (r3 + (x7 * r5.toInt64)) ≤ r4 then F_Day_isThreatEnough_l215 x1 x4 x5 x6 x7 r3 false 1 M else F_Day_isThreatEnough_l215 x1 x4 x5 x6 x7 r3 true 1 M
def F_Day_isThreatEnough_b124 (x1 : Int32) (x2 : Int32) (x3 : Int32) (x4 : Int32) (x5 : Int32) (x6 : Int32) (x7 : Int64) (z : Int32 × Mem) : Option ((Int32 × Mem) ⊕ ((Mem))) :=
  if x6 < z.1 then some (.inr z.2) else (F_Well_bringsOwn x1 x4 x5 z.2).bind fun r8 => (F_Day_laterWorth (z.1 - 1) z.2).bind fun r9 => (F_Row_put 78 10 z.1 ((x7 * r8.toInt64) + r9) z.2).bind fun r10 => some (.inl ((z.1 + 1, r10)))
def F_Day_isThreatEnough_l124 (x1 : Int32) (x2 : Int32) (x3 : Int32) (x4 : Int32) (x5 : Int32) (x6 : Int32) (x7 : Int64) (x11 : Int32) (M : Mem) : Option (Bool × Mem) :=
  (iter (F_Day_isThreatEnough_b124 x1 x2 x3 x4 x5 x6 x7) FUEL (x11, M)).bind fun r => F_Day_isThreatEnough_j171 x1 x2 x3 x4 x5 x6 x7 r
def F_Day_isThreatEnough_j97 (x1 : Int32) (x2 : Int32) (x3 : Int32) (x4 : Int32) (x5 : Int32) (x6 : Int32) (x7 : Int64) (s0 : Int64) (M : Mem) : Option (Bool × Mem) :=
  (F_Well_bringsOwn x1 x2 x3 M).bind fun r1 => (F_Row_put 78 10 0 (s0 * r1.toInt64) M).bind fun r2 => F_Day_isThreatEnough_l124 x1 x2 x3 x4 x5 x6 x7 1 r2
def F_Day_isThreatEnough_j47 (x1 : Int32) (x2 : Int32) (x3 : Int32) (x4 : Int32) (x5 : Int32) (x6 : Int32) (x7 : Int64) (M : Mem) : Option (Bool × Mem) :=
  if 0 < ((M.1 1 2) - (M.1 1 1)) then if ¬ (((M.1 1 2) - (M.1 1 1)).toInt64) = 0 then F_Day_isThreatEnough_j97 x1 x2 x3 x4 x5 x6 x7 ((x7 / (((M.1 1 2) - (M.1 1 1)).toInt64)) * ((M.1 1 2).toInt64)) M else none else F_Day_isThreatEnough_j97 x1 x2 x3 x4 x5 x6 x7 0 M
def F_Day_isThreatEnough_b21 (x1 : Int32) (x2 : Int32) (x3 : Int32) (x4 : Int32) (x5 : Int32) (x6 : Int32) (M : Mem) (z : Int64 × Int32) : Option ((Int64 × Int32) ⊕ ((Int64))) :=
  if 9 < z.2 then some (.inr z.1) else some (.inl ((z.1 * ((M.1 1 2).toInt64), z.2 + 1)))
def F_Day_isThreatEnough_l21 (x1 : Int32) (x2 : Int32) (x3 : Int32) (x4 : Int32) (x5 : Int32) (x6 : Int32) (x7 : Int64) (x9 : Int32) (M : Mem) : Option (Bool × Mem) :=
  (iter (F_Day_isThreatEnough_b21 x1 x2 x3 x4 x5 x6 M) FUEL (x7, x9)).bind fun r => F_Day_isThreatEnough_j47 x1 x2 x3 x4 x5 x6 r M
def F_Day_isThreatEnough (x1 : Int32) (x2 : Int32) (x3 : Int32) (x4 : Int32) (x5 : Int32) (x6 : Int32) (M : Mem) : Option (Bool × Mem) :=
  F_Day_isThreatEnough_l21 x1 x2 x3 x4 x5 x6 (((M.1 1 2) - (M.1 1 1)).toInt64) 0 M
set_option maxRecDepth 100000 in
set_option maxHeartbeats 4000000 in
theorem K_Day_isThreatEnough (l : Launch) (g : GB) (htr : l.stackTraces = false) (x1 : Int32) (x2 : Int32) (x3 : Int32) (x4 : Int32) (x5 : Int32) (x6 : Int32) (M : Mem) (rr : Bool) (MZ : Mem) (h : F_Day_isThreatEnough x1 x2 x3 x4 x5 x6 M = some (rr, MZ)) : CT l g yX4_isThreatEnough (.code yX4_isThreatEnough cX4_isThreatEnough 15 (some .boolean) :: wAll) { frames := 3, cells := 0, slots := 0, locals := 69 } [.ref (g.2.1 68), .int x1, .int x2, .int x3, .int x4, .int x5, .int x6] M (.inl (some (.int (b2i rr)))) MZ := by
  refine CT.of [(0, .ref (g.2.1 68)), (1, .int x1), (2, .int x2), (3, .int x3), (4, .int x4), (5, .int x5), (6, .int x6)] (by decide +kernel) (Nat.le_of_ble_eq_true rfl) rfl htr ?_
  intro p e s m args below meth c K hr ht
  skip
  obtain ⟨PHI, hPHI, h⟩ : ∃ PHI : Bool × Mem → Prop, (∀ a, PHI a → a = (rr, MZ)) ∧ wpO (F_Day_isThreatEnough x1 x2 x3 x4 x5 x6 M) PHI := ⟨fun a => a = (rr, MZ), fun _ h => h, _, h, rfl⟩
  have J269 : ∀ (x13 : Bool) (M : Mem), wpO (F_Day_isThreatEnough_j269 x13 M) PHI → GG p l e { frames := 3, cells := 0, slots := 0, locals := 69 } s m args below meth c g 15 (vx_MQ below (Qn g s.heap.size (.inl (some (.int (b2i rr)))) MZ) (QX g s.heap.size (.inl (some (.int (b2i rr)))) MZ) args s 0 0 (AS g s.heap.size)) 0 0 269 [(13, .int ((b2i x13)))] [] M := by
    intro x13 M h
    unfold F_Day_isThreatEnough_j269 at h
    refine G_iload 0 rfl K dX4_isThreatEnough_269 ?_
    refine G_ifb_ne (tgt := 278) K dX4_isThreatEnough_271 (by decide) (fun hc => ?_) (fun hc => ?_)
    · have h := wpO_t h hc
      refine G_iconst (v := 0) rfl K dX4_isThreatEnough_278 ?_
      cases hPHI _ (wpO_some h)
      exact G_iret K hr rfl dX4_isThreatEnough_279 (Nat.le_of_ble_eq_true rfl) (Nat.le_of_ble_eq_true rfl) ⟨rfl, rfl⟩
    · have h := wpO_bf h hc
      refine G_iconst (v := 1) rfl K dX4_isThreatEnough_274 ?_
      refine G_goto (tgt := 279) K dX4_isThreatEnough_275 (by decide) ?_
      cases hPHI _ (wpO_some h)
      exact G_iret K hr rfl dX4_isThreatEnough_279 (Nat.le_of_ble_eq_true rfl) (Nat.le_of_ble_eq_true rfl) ⟨rfl, rfl⟩
  have J215 : ∀ (x1 : Int32) (x4 : Int32) (x5 : Int32) (x6 : Int32) (x7 : Int64) (x11 : Int64) (x13 : Bool) (x14 : Int32) (M : Mem), wpO (F_Day_isThreatEnough_l215 x1 x4 x5 x6 x7 x11 x13 x14 M) PHI → GG p l e { frames := 3, cells := 0, slots := 0, locals := 69 } s m args below meth c g 15 (vx_MQ below (Qn g s.heap.size (.inl (some (.int (b2i rr)))) MZ) (QX g s.heap.size (.inl (some (.int (b2i rr)))) MZ) args s 0 0 (AS g s.heap.size)) 0 0 215 [(0, .ref (g.2.1 68)), (1, .int x1), (4, .int x4), (5, .int x5), (6, .int x6), (7, .long x7), (11, .long x11), (13, .int ((b2i x13))), (14, .int x14)] [] M := by
    intro x1 x4 x5 x6 x7 x11 x13 x14 M h
    unfold F_Day_isThreatEnough_l215 at h
    refine loop_C2 (G := fun (x13 : Bool) (x14 : Int32) => GG p l e { frames := 3, cells := 0, slots := 0, locals := 69 } s m args below meth c g 15 (vx_MQ below (Qn g s.heap.size (.inl (some (.int (b2i rr)))) MZ) (QX g s.heap.size (.inl (some (.int (b2i rr)))) MZ) args s 0 0 (AS g s.heap.size)) 0 0 215 [(0, .ref (g.2.1 68)), (1, .int x1), (4, .int x4), (5, .int x5), (6, .int x6), (7, .long x7), (11, .long x11), (13, .int ((b2i x13))), (14, .int x14)] [] M) (body := F_Day_isThreatEnough_b215 x1 x4 x5 x6 x7 x11 M) ?_ FUEL _ _ (wpO_bind h)
    intro P215 E215 X215
    intro z h
    unfold F_Day_isThreatEnough_b215 at h
    refine G_iload 8 rfl K dX4_isThreatEnough_215 ?_
    refine G_iload 4 rfl K dX4_isThreatEnough_217 ?_
    refine G_icmp_gt (tgt := 269) K dX4_isThreatEnough_219 (by decide) (fun hc => ?_) (fun hc => ?_)
    · have h := wpO_t h hc
      have h := X215 _ (wpO_some h)
      try dsimp only at h
      exact G_lv (lv' := [(13, .int ((b2i z.1)))]) [7] rfl (J269 z.1 M h)
    · have h := wpO_f h hc
      refine G_iload 7 rfl K dX4_isThreatEnough_222 ?_
      refine G_ifb_ne (tgt := 256) K dX4_isThreatEnough_224 (by decide) (fun hc => ?_) (fun hc => ?_)
      · have h := wpO_t h hc
        refine G_iconst (v := 1) rfl K dX4_isThreatEnough_256 ?_
        refine G_goto (tgt := 261) K dX4_isThreatEnough_257 (by decide) ?_
        refine G_istore K dX4_isThreatEnough_261 (Nat.le_of_ble_eq_true rfl) rfl ?_
        refine G_iinc (v := z.2 + 1) 8 rfl K dX4_isThreatEnough_263 rfl (Nat.le_of_ble_eq_true rfl) rfl ?_
        refine G_goto (tgt := 215) K dX4_isThreatEnough_266 (by decide) ?_
        exact G_lv (lv' := [(0, .ref (g.2.1 68)), (1, .int x1), (4, .int x4), (5, .int x5), (6, .int x6), (7, .long x7), (11, .long x11), (13, .int 1), (14, .int (z.2 + 1))]) [2, 3, 4, 5, 6, 7, 8, 1, 0] rfl (E215 true (z.2 + 1) (wpO_some h))
      · have h := wpO_bf h hc
        refine G_aload_n rfl 0 rfl K dX4_isThreatEnough_227 ?_
        refine G_get (ci := 4) (k := 8) K rfl in_X4 wd_293 rfl dX4_isThreatEnough_228 (Nat.le_of_ble_eq_true rfl) (sh_68 _ _) (Nat.le_of_ble_eq_true rfl) rfl ?_
        refine G_iload 8 rfl K dX4_isThreatEnough_231 ?_
        obtain ⟨r6, e6, h⟩ := wpO_bind h
        refine G_callVl (ci := 7) [.int z.2] [] K dX4_isThreatEnough_233 wv_1102 yd_X7_at (Nat.le_of_ble_eq_true rfl) (sh_77 _ _) rfl (by decide) (by decide) rfl rfl (Nat.le_of_ble_eq_true rfl) (K_Row_at l g htr 77 78 10 isRow_77 z.2 M _ e6) ?_
        refine G_lload 6 rfl K dX4_isThreatEnough_236 ?_
        refine G_lload 5 rfl K dX4_isThreatEnough_238 ?_
        refine G_aload_n rfl 0 rfl K dX4_isThreatEnough_240 ?_
        refine G_iload_n rfl 1 rfl K dX4_isThreatEnough_241 ?_
        refine G_iload 2 rfl K dX4_isThreatEnough_242 ?_
        refine G_iload 3 rfl K dX4_isThreatEnough_244 ?_
        obtain ⟨r7, e7, h⟩ := wpO_bind h
        refine G_callVi (ci := 4) [.int x1, .int x4, .int x5] [.long x7, .long x11, .long r6] K dX4_isThreatEnough_246 wv_1163 yd_X4_mostOtherwise (Nat.le_of_ble_eq_true rfl) (sh_68 _ _) rfl (by decide) (by decide) rfl rfl (Nat.le_of_ble_eq_true rfl) (K_Day_mostOtherwise l g htr x1 x4 x5 M _ e7) ?_
        refine G_i2l K dX4_isThreatEnough_249 ?_
        refine G_lmul K dX4_isThreatEnough_250 ?_
        refine G_ladd K dX4_isThreatEnough_251 ?_
        refine G_lcmp_ge (tgt := 260) K dX4_isThreatEnough_252 dX4_isThreatEnough_253 (by decide) (fun hc => ?_) (fun hc => ?_)
        · have h := wpO_t h hc
          refine G_iconst (v := 0) rfl K dX4_isThreatEnough_260 ?_
          refine G_istore K dX4_isThreatEnough_261 (Nat.le_of_ble_eq_true rfl) rfl ?_
          refine G_iinc (v := z.2 + 1) 8 rfl K dX4_isThreatEnough_263 rfl (Nat.le_of_ble_eq_true rfl) rfl ?_
          refine G_goto (tgt := 215) K dX4_isThreatEnough_266 (by decide) ?_
          exact G_lv (lv' := [(0, .ref (g.2.1 68)), (1, .int x1), (4, .int x4), (5, .int x5), (6, .int x6), (7, .long x7), (11, .long x11), (13, .int 0), (14, .int (z.2 + 1))]) [2, 3, 4, 5, 6, 7, 8, 1, 0] rfl (E215 false (z.2 + 1) (wpO_some h))
        · have h := wpO_f h hc
          refine G_iconst (v := 1) rfl K dX4_isThreatEnough_256 ?_
          refine G_goto (tgt := 261) K dX4_isThreatEnough_257 (by decide) ?_
          refine G_istore K dX4_isThreatEnough_261 (Nat.le_of_ble_eq_true rfl) rfl ?_
          refine G_iinc (v := z.2 + 1) 8 rfl K dX4_isThreatEnough_263 rfl (Nat.le_of_ble_eq_true rfl) rfl ?_
          refine G_goto (tgt := 215) K dX4_isThreatEnough_266 (by decide) ?_
          exact G_lv (lv' := [(0, .ref (g.2.1 68)), (1, .int x1), (4, .int x4), (5, .int x5), (6, .int x6), (7, .long x7), (11, .long x11), (13, .int 1), (14, .int (z.2 + 1))]) [2, 3, 4, 5, 6, 7, 8, 1, 0] rfl (E215 true (z.2 + 1) (wpO_some h))
  have J171 : ∀ (x1 : Int32) (x2 : Int32) (x3 : Int32) (x4 : Int32) (x5 : Int32) (x6 : Int32) (x7 : Int64) (M : Mem), wpO (F_Day_isThreatEnough_j171 x1 x2 x3 x4 x5 x6 x7 M) PHI → GG p l e { frames := 3, cells := 0, slots := 0, locals := 69 } s m args below meth c g 15 (vx_MQ below (Qn g s.heap.size (.inl (some (.int (b2i rr)))) MZ) (QX g s.heap.size (.inl (some (.int (b2i rr)))) MZ) args s 0 0 (AS g s.heap.size)) 0 0 171 [(0, .ref (g.2.1 68)), (1, .int x1), (2, .int x2), (3, .int x3), (4, .int x4), (5, .int x5), (6, .int x6), (7, .long x7)] [] M := by
    intro x1 x2 x3 x4 x5 x6 x7 M h
    unfold F_Day_isThreatEnough_j171 at h
    refine G_aload_n rfl 0 rfl K dX4_isThreatEnough_171 ?_
    refine G_iload 6 rfl K dX4_isThreatEnough_172 ?_
    obtain ⟨r3, e3, h⟩ := wpO_bind h
    refine G_callVl (ci := 4) [.int x6] [] K dX4_isThreatEnough_174 wv_1159 yd_X4_laterWorth (Nat.le_of_ble_eq_true rfl) (sh_68 _ _) rfl (by decide) (by decide) rfl rfl (Nat.le_of_ble_eq_true rfl) (K_Day_laterWorth l g htr x6 M _ e3) ?_
    refine G_lstore K dX4_isThreatEnough_177 (Nat.le_of_ble_eq_true rfl) rfl ?_
    refine G_aload_n rfl 1 rfl K dX4_isThreatEnough_179 ?_
    refine G_get (ci := 4) (k := 8) K rfl in_X4 wd_293 rfl dX4_isThreatEnough_180 (Nat.le_of_ble_eq_true rfl) (sh_68 _ _) (Nat.le_of_ble_eq_true rfl) rfl ?_
    refine G_iconst (v := 0) rfl K dX4_isThreatEnough_183 ?_
    obtain ⟨r4, e4, h⟩ := wpO_bind h
    refine G_callVl (ci := 7) [.int 0] [] K dX4_isThreatEnough_184 wv_1102 yd_X7_at (Nat.le_of_ble_eq_true rfl) (sh_77 _ _) rfl (by decide) (by decide) rfl rfl (Nat.le_of_ble_eq_true rfl) (K_Row_at l g htr 77 78 10 isRow_77 0 M _ e4) ?_
    refine G_lload 0 rfl K dX4_isThreatEnough_187 ?_
    refine G_lload 8 rfl K dX4_isThreatEnough_189 ?_
    refine G_aload_n rfl 1 rfl K dX4_isThreatEnough_191 ?_
    refine G_iload_n rfl 2 rfl K dX4_isThreatEnough_192 ?_
    refine G_iload_n rfl 3 rfl K dX4_isThreatEnough_193 ?_
    refine G_iload_n rfl 4 rfl K dX4_isThreatEnough_194 ?_
    obtain ⟨r5, e5, h⟩ := wpO_bind h
    refine G_callVi (ci := 4) [.int x1, .int x2, .int x3] [.long x7, .long r3, .long r4] K dX4_isThreatEnough_195 wv_1163 yd_X4_mostOtherwise (Nat.le_of_ble_eq_true rfl) (sh_68 _ _) rfl (by decide) (by decide) rfl rfl (Nat.le_of_ble_eq_true rfl) (K_Day_mostOtherwise l g htr x1 x2 x3 M _ e5) ?_
    refine G_i2l K dX4_isThreatEnough_198 ?_
    refine G_lmul K dX4_isThreatEnough_199 ?_
    refine G_ladd K dX4_isThreatEnough_200 ?_
    refine G_lcmp_ge (tgt := 209) K dX4_isThreatEnough_201 dX4_isThreatEnough_202 (by decide) (fun hc => ?_) (fun hc => ?_)
    · have h := wpO_t h hc
      refine G_iconst (v := 0) rfl K dX4_isThreatEnough_209 ?_
      refine G_istore K dX4_isThreatEnough_210 (Nat.le_of_ble_eq_true rfl) rfl ?_
      refine G_iconst (v := 1) rfl K dX4_isThreatEnough_212 ?_
      refine G_istore K dX4_isThreatEnough_213 (Nat.le_of_ble_eq_true rfl) rfl ?_
      exact G_lv (lv' := [(0, .ref (g.2.1 68)), (1, .int x1), (4, .int x4), (5, .int x5), (6, .int x6), (7, .long x7), (11, .long r3), (13, .int 0), (14, .int 1)]) [3, 4, 7, 8, 9, 10, 2, 1, 0] rfl (J215 x1 x4 x5 x6 x7 r3 false 1 M h)
    · have h := wpO_f h hc
      refine G_iconst (v := 1) rfl K dX4_isThreatEnough_205 ?_
      refine G_goto (tgt := 210) K dX4_isThreatEnough_206 (by decide) ?_
      refine G_istore K dX4_isThreatEnough_210 (Nat.le_of_ble_eq_true rfl) rfl ?_
      refine G_iconst (v := 1) rfl K dX4_isThreatEnough_212 ?_
      refine G_istore K dX4_isThreatEnough_213 (Nat.le_of_ble_eq_true rfl) rfl ?_
      exact G_lv (lv' := [(0, .ref (g.2.1 68)), (1, .int x1), (4, .int x4), (5, .int x5), (6, .int x6), (7, .long x7), (11, .long r3), (13, .int 1), (14, .int 1)]) [3, 4, 7, 8, 9, 10, 2, 1, 0] rfl (J215 x1 x4 x5 x6 x7 r3 true 1 M h)
  have J124 : ∀ (x1 : Int32) (x2 : Int32) (x3 : Int32) (x4 : Int32) (x5 : Int32) (x6 : Int32) (x7 : Int64) (x11 : Int32) (M : Mem), wpO (F_Day_isThreatEnough_l124 x1 x2 x3 x4 x5 x6 x7 x11 M) PHI → GG p l e { frames := 3, cells := 0, slots := 0, locals := 69 } s m args below meth c g 15 (vx_MQ below (Qn g s.heap.size (.inl (some (.int (b2i rr)))) MZ) (QX g s.heap.size (.inl (some (.int (b2i rr)))) MZ) args s 0 0 (AS g s.heap.size)) 0 0 124 [(0, .ref (g.2.1 68)), (1, .int x1), (2, .int x2), (3, .int x3), (4, .int x4), (5, .int x5), (6, .int x6), (7, .long x7), (11, .int x11)] [] M := by
    intro x1 x2 x3 x4 x5 x6 x7 x11 M h
    unfold F_Day_isThreatEnough_l124 at h
    refine loop_C2 (G := fun (x11 : Int32) (M : Mem) => GG p l e { frames := 3, cells := 0, slots := 0, locals := 69 } s m args below meth c g 15 (vx_MQ below (Qn g s.heap.size (.inl (some (.int (b2i rr)))) MZ) (QX g s.heap.size (.inl (some (.int (b2i rr)))) MZ) args s 0 0 (AS g s.heap.size)) 0 0 124 [(0, .ref (g.2.1 68)), (1, .int x1), (2, .int x2), (3, .int x3), (4, .int x4), (5, .int x5), (6, .int x6), (7, .long x7), (11, .int x11)] [] M) (body := F_Day_isThreatEnough_b124 x1 x2 x3 x4 x5 x6 x7) ?_ FUEL _ _ (wpO_bind h)
    intro P124 E124 X124
    intro z h
    unfold F_Day_isThreatEnough_b124 at h
    refine G_iload 8 rfl K dX4_isThreatEnough_124 ?_
    refine G_iload 6 rfl K dX4_isThreatEnough_126 ?_
    refine G_icmp_gt (tgt := 171) K dX4_isThreatEnough_128 (by decide) (fun hc => ?_) (fun hc => ?_)
    · have h := wpO_t h hc
      have h := X124 _ (wpO_some h)
      try dsimp only at h
      exact G_lv (lv' := [(0, .ref (g.2.1 68)), (1, .int x1), (2, .int x2), (3, .int x3), (4, .int x4), (5, .int x5), (6, .int x6), (7, .long x7)]) [0, 1, 2, 3, 4, 5, 6, 7] rfl (J171 x1 x2 x3 x4 x5 x6 x7 z.2 h)
    · have h := wpO_f h hc
      refine G_aload_n rfl 0 rfl K dX4_isThreatEnough_131 ?_
      refine G_get (ci := 4) (k := 8) K rfl in_X4 wd_293 rfl dX4_isThreatEnough_132 (Nat.le_of_ble_eq_true rfl) (sh_68 _ _) (Nat.le_of_ble_eq_true rfl) rfl ?_
      refine G_iload 8 rfl K dX4_isThreatEnough_135 ?_
      refine G_lload 7 rfl K dX4_isThreatEnough_137 ?_
      refine G_aload_n rfl 0 rfl K dX4_isThreatEnough_139 ?_
      refine G_get (ci := 4) (k := 0) K rfl in_X4 wd_282 rfl dX4_isThreatEnough_140 (Nat.le_of_ble_eq_true rfl) (sh_68 _ _) (Nat.le_of_ble_eq_true rfl) rfl ?_
      refine G_iload_n rfl 1 rfl K dX4_isThreatEnough_143 ?_
      refine G_iload 4 rfl K dX4_isThreatEnough_144 ?_
      refine G_iload 5 rfl K dX4_isThreatEnough_146 ?_
      obtain ⟨r8, e8, h⟩ := wpO_bind h
      refine G_callVi (ci := 10) [.int x1, .int x4, .int x5] [.long x7, .int z.1, .ref (g.2.1 77)] K dX4_isThreatEnough_148 wv_577 yd_X10_bringsOwn (Nat.le_of_ble_eq_true rfl) (sh_1 _ _) rfl (by decide) (by decide) rfl rfl (Nat.le_of_ble_eq_true rfl) (K_Well_bringsOwn l g htr x1 x4 x5 z.2 _ e8) ?_
      refine G_i2l K dX4_isThreatEnough_151 ?_
      refine G_lmul K dX4_isThreatEnough_152 ?_
      refine G_aload_n rfl 0 rfl K dX4_isThreatEnough_153 ?_
      refine G_iload 8 rfl K dX4_isThreatEnough_154 ?_
      refine G_iconst (v := 1) rfl K dX4_isThreatEnough_156 ?_
      refine G_isub K dX4_isThreatEnough_157 ?_
      obtain ⟨r9, e9, h⟩ := wpO_bind h
      refine G_callVl (ci := 4) [.int (z.1 - 1)] [.long (x7 * r8.toInt64), .int z.1, .ref (g.2.1 77)] K dX4_isThreatEnough_158 wv_1159 yd_X4_laterWorth (Nat.le_of_ble_eq_true rfl) (sh_68 _ _) rfl (by decide) (by decide) rfl rfl (Nat.le_of_ble_eq_true rfl) (K_Day_laterWorth l g htr (z.1 - 1) z.2 _ e9) ?_
      refine G_ladd K dX4_isThreatEnough_161 ?_
      obtain ⟨r10, e10, h⟩ := wpO_bind h
      refine G_callVv (ci := 7) [.int z.1, .long ((x7 * r8.toInt64) + r9)] [] K dX4_isThreatEnough_162 wv_606 yd_X7_put (Nat.le_of_ble_eq_true rfl) (sh_77 _ _) rfl (by decide) (by decide) rfl rfl (Nat.le_of_ble_eq_true rfl) (K_Row_put l g htr 77 78 10 isRow_77 z.1 ((x7 * r8.toInt64) + r9) z.2 _ e10) ?_
      refine G_iinc (v := z.1 + 1) 8 rfl K dX4_isThreatEnough_165 rfl (Nat.le_of_ble_eq_true rfl) rfl ?_
      refine G_goto (tgt := 124) K dX4_isThreatEnough_168 (by decide) ?_
      exact G_lv (lv' := [(0, .ref (g.2.1 68)), (1, .int x1), (2, .int x2), (3, .int x3), (4, .int x4), (5, .int x5), (6, .int x6), (7, .long x7), (11, .int (z.1 + 1))]) [1, 2, 3, 4, 5, 6, 7, 8, 0] rfl (E124 (z.1 + 1) r10 (wpO_some h))
  have J97 : ∀ (x1 : Int32) (x2 : Int32) (x3 : Int32) (x4 : Int32) (x5 : Int32) (x6 : Int32) (x7 : Int64) (s0 : Int64) (M : Mem), wpO (F_Day_isThreatEnough_j97 x1 x2 x3 x4 x5 x6 x7 s0 M) PHI → GG p l e { frames := 3, cells := 0, slots := 0, locals := 69 } s m args below meth c g 15 (vx_MQ below (Qn g s.heap.size (.inl (some (.int (b2i rr)))) MZ) (QX g s.heap.size (.inl (some (.int (b2i rr)))) MZ) args s 0 0 (AS g s.heap.size)) 0 0 97 [(0, .ref (g.2.1 68)), (1, .int x1), (2, .int x2), (3, .int x3), (4, .int x4), (5, .int x5), (6, .int x6), (7, .long x7)] [.long s0] M := by
    intro x1 x2 x3 x4 x5 x6 x7 s0 M h
    unfold F_Day_isThreatEnough_j97 at h
    refine G_lstore K dX4_isThreatEnough_97 (Nat.le_of_ble_eq_true rfl) rfl ?_
    refine G_aload_n rfl 1 rfl K dX4_isThreatEnough_99 ?_
    refine G_get (ci := 4) (k := 8) K rfl in_X4 wd_293 rfl dX4_isThreatEnough_100 (Nat.le_of_ble_eq_true rfl) (sh_68 _ _) (Nat.le_of_ble_eq_true rfl) rfl ?_
    refine G_iconst (v := 0) rfl K dX4_isThreatEnough_103 ?_
    refine G_lload 0 rfl K dX4_isThreatEnough_104 ?_
    refine G_aload_n rfl 1 rfl K dX4_isThreatEnough_106 ?_
    refine G_get (ci := 4) (k := 0) K rfl in_X4 wd_282 rfl dX4_isThreatEnough_107 (Nat.le_of_ble_eq_true rfl) (sh_68 _ _) (Nat.le_of_ble_eq_true rfl) rfl ?_
    refine G_iload_n rfl 2 rfl K dX4_isThreatEnough_110 ?_
    refine G_iload_n rfl 3 rfl K dX4_isThreatEnough_111 ?_
    refine G_iload_n rfl 4 rfl K dX4_isThreatEnough_112 ?_
    obtain ⟨r1, e1, h⟩ := wpO_bind h
    refine G_callVi (ci := 10) [.int x1, .int x2, .int x3] [.long s0, .int 0, .ref (g.2.1 77)] K dX4_isThreatEnough_113 wv_577 yd_X10_bringsOwn (Nat.le_of_ble_eq_true rfl) (sh_1 _ _) rfl (by decide) (by decide) rfl rfl (Nat.le_of_ble_eq_true rfl) (K_Well_bringsOwn l g htr x1 x2 x3 M _ e1) ?_
    refine G_i2l K dX4_isThreatEnough_116 ?_
    refine G_lmul K dX4_isThreatEnough_117 ?_
    obtain ⟨r2, e2, h⟩ := wpO_bind h
    refine G_callVv (ci := 7) [.int 0, .long (s0 * r1.toInt64)] [] K dX4_isThreatEnough_118 wv_606 yd_X7_put (Nat.le_of_ble_eq_true rfl) (sh_77 _ _) rfl (by decide) (by decide) rfl rfl (Nat.le_of_ble_eq_true rfl) (K_Row_put l g htr 77 78 10 isRow_77 0 (s0 * r1.toInt64) M _ e2) ?_
    refine G_iconst (v := 1) rfl K dX4_isThreatEnough_121 ?_
    refine G_istore K dX4_isThreatEnough_122 (Nat.le_of_ble_eq_true rfl) rfl ?_
    exact G_lv (lv' := [(0, .ref (g.2.1 68)), (1, .int x1), (2, .int x2), (3, .int x3), (4, .int x4), (5, .int x5), (6, .int x6), (7, .long x7), (11, .int 1)]) [2, 3, 4, 5, 6, 7, 8, 9, 0] rfl (J124 x1 x2 x3 x4 x5 x6 x7 1 r2 h)
  have J47 : ∀ (x1 : Int32) (x2 : Int32) (x3 : Int32) (x4 : Int32) (x5 : Int32) (x6 : Int32) (x7 : Int64) (M : Mem), wpO (F_Day_isThreatEnough_j47 x1 x2 x3 x4 x5 x6 x7 M) PHI → GG p l e { frames := 3, cells := 0, slots := 0, locals := 69 } s m args below meth c g 15 (vx_MQ below (Qn g s.heap.size (.inl (some (.int (b2i rr)))) MZ) (QX g s.heap.size (.inl (some (.int (b2i rr)))) MZ) args s 0 0 (AS g s.heap.size)) 0 0 47 [(0, .ref (g.2.1 68)), (1, .int x1), (2, .int x2), (3, .int x3), (4, .int x4), (5, .int x5), (6, .int x6), (7, .long x7)] [] M := by
    intro x1 x2 x3 x4 x5 x6 x7 M h
    unfold F_Day_isThreatEnough_j47 at h
    refine G_aload_n rfl 0 rfl K dX4_isThreatEnough_47 ?_
    refine G_get (ci := 4) (k := 0) K rfl in_X4 wd_282 rfl dX4_isThreatEnough_48 (Nat.le_of_ble_eq_true rfl) (sh_68 _ _) (Nat.le_of_ble_eq_true rfl) rfl ?_
    refine G_get (ci := 10) (k := 2) K rfl in_X10 wd_72 rfl dX4_isThreatEnough_51 (Nat.le_of_ble_eq_true rfl) (sh_1 _ _) (Nat.le_of_ble_eq_true rfl) rfl ?_
    refine G_aload_n rfl 0 rfl K dX4_isThreatEnough_54 ?_
    refine G_get (ci := 4) (k := 0) K rfl in_X4 wd_282 rfl dX4_isThreatEnough_55 (Nat.le_of_ble_eq_true rfl) (sh_68 _ _) (Nat.le_of_ble_eq_true rfl) rfl ?_
    refine G_get (ci := 10) (k := 1) K rfl in_X10 wd_66 rfl dX4_isThreatEnough_58 (Nat.le_of_ble_eq_true rfl) (sh_1 _ _) (Nat.le_of_ble_eq_true rfl) rfl ?_
    refine G_isub K dX4_isThreatEnough_61 ?_
    refine G_if_gt (tgt := 69) K dX4_isThreatEnough_62 (by decide) (fun hc => ?_) (fun hc => ?_)
    · have h := wpO_t h hc
      refine G_lload 7 rfl K dX4_isThreatEnough_69 ?_
      refine G_aload_n rfl 0 rfl K dX4_isThreatEnough_71 ?_
      refine G_get (ci := 4) (k := 0) K rfl in_X4 wd_282 rfl dX4_isThreatEnough_72 (Nat.le_of_ble_eq_true rfl) (sh_68 _ _) (Nat.le_of_ble_eq_true rfl) rfl ?_
      refine G_get (ci := 10) (k := 2) K rfl in_X10 wd_72 rfl dX4_isThreatEnough_75 (Nat.le_of_ble_eq_true rfl) (sh_1 _ _) (Nat.le_of_ble_eq_true rfl) rfl ?_
      refine G_aload_n rfl 0 rfl K dX4_isThreatEnough_78 ?_
      refine G_get (ci := 4) (k := 0) K rfl in_X4 wd_282 rfl dX4_isThreatEnough_79 (Nat.le_of_ble_eq_true rfl) (sh_68 _ _) (Nat.le_of_ble_eq_true rfl) rfl ?_
      refine G_get (ci := 10) (k := 1) K rfl in_X10 wd_66 rfl dX4_isThreatEnough_82 (Nat.le_of_ble_eq_true rfl) (sh_1 _ _) (Nat.le_of_ble_eq_true rfl) rfl ?_
      refine G_isub K dX4_isThreatEnough_85 ?_
      refine G_i2l K dX4_isThreatEnough_86 ?_
      obtain ⟨hc, h⟩ := wpO_g h
      refine G_ldiv hc K dX4_isThreatEnough_87 ?_
      refine G_aload_n rfl 0 rfl K dX4_isThreatEnough_88 ?_
      refine G_get (ci := 4) (k := 0) K rfl in_X4 wd_282 rfl dX4_isThreatEnough_89 (Nat.le_of_ble_eq_true rfl) (sh_68 _ _) (Nat.le_of_ble_eq_true rfl) rfl ?_
      refine G_get (ci := 10) (k := 2) K rfl in_X10 wd_72 rfl dX4_isThreatEnough_92 (Nat.le_of_ble_eq_true rfl) (sh_1 _ _) (Nat.le_of_ble_eq_true rfl) rfl ?_
      refine G_i2l K dX4_isThreatEnough_95 ?_
      refine G_lmul K dX4_isThreatEnough_96 ?_
      exact J97 x1 x2 x3 x4 x5 x6 x7 ((x7 / (((M.1 1 2) - (M.1 1 1)).toInt64)) * ((M.1 1 2).toInt64)) M h
    · have h := wpO_f h hc
      refine G_lconst (v := 0) rfl K dX4_isThreatEnough_65 ?_
      refine G_goto (tgt := 97) K dX4_isThreatEnough_66 (by decide) ?_
      exact J97 x1 x2 x3 x4 x5 x6 x7 0 M h
  have J21 : ∀ (x1 : Int32) (x2 : Int32) (x3 : Int32) (x4 : Int32) (x5 : Int32) (x6 : Int32) (x7 : Int64) (x9 : Int32) (M : Mem), wpO (F_Day_isThreatEnough_l21 x1 x2 x3 x4 x5 x6 x7 x9 M) PHI → GG p l e { frames := 3, cells := 0, slots := 0, locals := 69 } s m args below meth c g 15 (vx_MQ below (Qn g s.heap.size (.inl (some (.int (b2i rr)))) MZ) (QX g s.heap.size (.inl (some (.int (b2i rr)))) MZ) args s 0 0 (AS g s.heap.size)) 0 0 21 [(0, .ref (g.2.1 68)), (1, .int x1), (2, .int x2), (3, .int x3), (4, .int x4), (5, .int x5), (6, .int x6), (7, .long x7), (9, .int x9)] [] M := by
    intro x1 x2 x3 x4 x5 x6 x7 x9 M h
    unfold F_Day_isThreatEnough_l21 at h
    refine loop_C2 (G := fun (x7 : Int64) (x9 : Int32) => GG p l e { frames := 3, cells := 0, slots := 0, locals := 69 } s m args below meth c g 15 (vx_MQ below (Qn g s.heap.size (.inl (some (.int (b2i rr)))) MZ) (QX g s.heap.size (.inl (some (.int (b2i rr)))) MZ) args s 0 0 (AS g s.heap.size)) 0 0 21 [(0, .ref (g.2.1 68)), (1, .int x1), (2, .int x2), (3, .int x3), (4, .int x4), (5, .int x5), (6, .int x6), (7, .long x7), (9, .int x9)] [] M) (body := F_Day_isThreatEnough_b21 x1 x2 x3 x4 x5 x6 M) ?_ FUEL _ _ (wpO_bind h)
    intro P21 E21 X21
    intro z h
    unfold F_Day_isThreatEnough_b21 at h
    refine G_iload 8 rfl K dX4_isThreatEnough_21 ?_
    refine G_bipush (v := 9) rfl K dX4_isThreatEnough_23 ?_
    refine G_icmp_gt (tgt := 47) K dX4_isThreatEnough_25 (by decide) (fun hc => ?_) (fun hc => ?_)
    · have h := wpO_t h hc
      have h := X21 _ (wpO_some h)
      try dsimp only at h
      exact G_lv (lv' := [(0, .ref (g.2.1 68)), (1, .int x1), (2, .int x2), (3, .int x3), (4, .int x4), (5, .int x5), (6, .int x6), (7, .long z.1)]) [0, 1, 2, 3, 4, 5, 6, 7] rfl (J47 x1 x2 x3 x4 x5 x6 z.1 M h)
    · have h := wpO_f h hc
      refine G_lload 7 rfl K dX4_isThreatEnough_28 ?_
      refine G_aload_n rfl 0 rfl K dX4_isThreatEnough_30 ?_
      refine G_get (ci := 4) (k := 0) K rfl in_X4 wd_282 rfl dX4_isThreatEnough_31 (Nat.le_of_ble_eq_true rfl) (sh_68 _ _) (Nat.le_of_ble_eq_true rfl) rfl ?_
      refine G_get (ci := 10) (k := 2) K rfl in_X10 wd_72 rfl dX4_isThreatEnough_34 (Nat.le_of_ble_eq_true rfl) (sh_1 _ _) (Nat.le_of_ble_eq_true rfl) rfl ?_
      refine G_i2l K dX4_isThreatEnough_37 ?_
      refine G_lmul K dX4_isThreatEnough_38 ?_
      refine G_lstore K dX4_isThreatEnough_39 (Nat.le_of_ble_eq_true rfl) rfl ?_
      refine G_iinc (v := z.2 + 1) 8 rfl K dX4_isThreatEnough_41 rfl (Nat.le_of_ble_eq_true rfl) rfl ?_
      refine G_goto (tgt := 21) K dX4_isThreatEnough_44 (by decide) ?_
      exact G_lv (lv' := [(0, .ref (g.2.1 68)), (1, .int x1), (2, .int x2), (3, .int x3), (4, .int x4), (5, .int x5), (6, .int x6), (7, .long (z.1 * ((M.1 1 2).toInt64))), (9, .int (z.2 + 1))]) [2, 3, 4, 5, 6, 7, 8, 1, 0] rfl (E21 (z.1 * ((M.1 1 2).toInt64)) (z.2 + 1) (wpO_some h))
  unfold F_Day_isThreatEnough at h
  refine G_aload_n rfl 0 rfl K dX4_isThreatEnough_0 ?_
  refine G_get (ci := 4) (k := 0) K rfl in_X4 wd_282 rfl dX4_isThreatEnough_1 (Nat.le_of_ble_eq_true rfl) (sh_68 _ _) (Nat.le_of_ble_eq_true rfl) rfl ?_
  refine G_get (ci := 10) (k := 2) K rfl in_X10 wd_72 rfl dX4_isThreatEnough_4 (Nat.le_of_ble_eq_true rfl) (sh_1 _ _) (Nat.le_of_ble_eq_true rfl) rfl ?_
  refine G_aload_n rfl 0 rfl K dX4_isThreatEnough_7 ?_
  refine G_get (ci := 4) (k := 0) K rfl in_X4 wd_282 rfl dX4_isThreatEnough_8 (Nat.le_of_ble_eq_true rfl) (sh_68 _ _) (Nat.le_of_ble_eq_true rfl) rfl ?_
  refine G_get (ci := 10) (k := 1) K rfl in_X10 wd_66 rfl dX4_isThreatEnough_11 (Nat.le_of_ble_eq_true rfl) (sh_1 _ _) (Nat.le_of_ble_eq_true rfl) rfl ?_
  refine G_isub K dX4_isThreatEnough_14 ?_
  refine G_i2l K dX4_isThreatEnough_15 ?_
  refine G_lstore K dX4_isThreatEnough_16 (Nat.le_of_ble_eq_true rfl) rfl ?_
  refine G_iconst (v := 0) rfl K dX4_isThreatEnough_18 ?_
  refine G_istore K dX4_isThreatEnough_19 (Nat.le_of_ble_eq_true rfl) rfl ?_
  exact G_lv (lv' := [(0, .ref (g.2.1 68)), (1, .int x1), (2, .int x2), (3, .int x3), (4, .int x4), (5, .int x5), (6, .int x6), (7, .long (((M.1 1 2) - (M.1 1 1)).toInt64)), (9, .int 0)]) [2, 3, 4, 5, 6, 7, 8, 1, 0] rfl (J21 x1 x2 x3 x4 x5 x6 (((M.1 1 2) - (M.1 1 1)).toInt64) 0 M h)
theorem yd_X4_isThreatEnough : ydN yX4_isThreatEnough 6 := ⟨by decide, by decide, by decide +kernel⟩
theorem wv_1155 : wdV "KeptWell$Day" 143 yX4_isThreatEnough cX4_isThreatEnough 15 (some .boolean) := ⟨wd_1155, wd_1157, ws_X4_isThreatEnough, wd_9, wd_1158⟩
def on_X4_fewestThreatDays : Nat := 0xac02d5ffa7010584ac05150600998f00b605151d04151b1c042a1500998f00b6051504151d1c1b032a2a00a309100515053603
theorem ob_X4_fewestThreatDays : OKB cX4_fewestThreatDays on_X4_fewestThreatDays 51 := ⟨by decide +kernel, by decide +kernel⟩
theorem dX4_fewestThreatDays_0 : dc cX4_fewestThreatDays 0 1 (.iconst 0) 1 := o_3 ob_X4_fewestThreatDays rfl rfl rfl
theorem dX4_fewestThreatDays_1 : dc cX4_fewestThreatDays 1 3 (.istore 5) 2 := o_54 ob_X4_fewestThreatDays rfl rfl rfl rfl
theorem dX4_fewestThreatDays_3 : dc cX4_fewestThreatDays 3 5 (.iload 5) 2 := o_21 ob_X4_fewestThreatDays rfl rfl rfl rfl
theorem dX4_fewestThreatDays_5 : dc cX4_fewestThreatDays 5 7 (.bipush 9) 2 := o_16 ob_X4_fewestThreatDays rfl rfl rfl rfl
theorem dX4_fewestThreatDays_7 : dc cX4_fewestThreatDays 7 10 (.if_icmp .gt 42) 3 := o_163 ob_X4_fewestThreatDays rfl rfl rfl rfl
theorem dX4_fewestThreatDays_10 : dc cX4_fewestThreatDays 10 11 (.aload_n 0) 1 := o_42 ob_X4_fewestThreatDays rfl rfl rfl
theorem dX4_fewestThreatDays_11 : dc cX4_fewestThreatDays 11 12 (.iconst 0) 1 := o_3 ob_X4_fewestThreatDays rfl rfl rfl
theorem dX4_fewestThreatDays_12 : dc cX4_fewestThreatDays 12 13 (.iload_n 1) 1 := o_27 ob_X4_fewestThreatDays rfl rfl rfl
theorem dX4_fewestThreatDays_13 : dc cX4_fewestThreatDays 13 14 (.iload_n 2) 1 := o_28 ob_X4_fewestThreatDays rfl rfl rfl
theorem dX4_fewestThreatDays_14 : dc cX4_fewestThreatDays 14 15 (.iload_n 3) 1 := o_29 ob_X4_fewestThreatDays rfl rfl rfl
theorem dX4_fewestThreatDays_15 : dc cX4_fewestThreatDays 15 17 (.iload 4) 2 := o_21 ob_X4_fewestThreatDays rfl rfl rfl rfl
theorem dX4_fewestThreatDays_17 : dc cX4_fewestThreatDays 17 19 (.iload 5) 2 := o_21 ob_X4_fewestThreatDays rfl rfl rfl rfl
theorem dX4_fewestThreatDays_19 : dc cX4_fewestThreatDays 19 22 (.invokevirtual 143) 3 := o_182 ob_X4_fewestThreatDays rfl rfl rfl rfl
theorem dX4_fewestThreatDays_22 : dc cX4_fewestThreatDays 22 25 (.ifCond .eq 21) 3 := o_153 ob_X4_fewestThreatDays rfl rfl rfl rfl
theorem dX4_fewestThreatDays_25 : dc cX4_fewestThreatDays 25 26 (.aload_n 0) 1 := o_42 ob_X4_fewestThreatDays rfl rfl rfl
theorem dX4_fewestThreatDays_26 : dc cX4_fewestThreatDays 26 27 (.iconst 1) 1 := o_4 ob_X4_fewestThreatDays rfl rfl rfl
theorem dX4_fewestThreatDays_27 : dc cX4_fewestThreatDays 27 28 (.iload_n 2) 1 := o_28 ob_X4_fewestThreatDays rfl rfl rfl
theorem dX4_fewestThreatDays_28 : dc cX4_fewestThreatDays 28 29 (.iload_n 1) 1 := o_27 ob_X4_fewestThreatDays rfl rfl rfl
theorem dX4_fewestThreatDays_29 : dc cX4_fewestThreatDays 29 31 (.iload 4) 2 := o_21 ob_X4_fewestThreatDays rfl rfl rfl rfl
theorem dX4_fewestThreatDays_31 : dc cX4_fewestThreatDays 31 32 (.iload_n 3) 1 := o_29 ob_X4_fewestThreatDays rfl rfl rfl
theorem dX4_fewestThreatDays_32 : dc cX4_fewestThreatDays 32 34 (.iload 5) 2 := o_21 ob_X4_fewestThreatDays rfl rfl rfl rfl
theorem dX4_fewestThreatDays_34 : dc cX4_fewestThreatDays 34 37 (.invokevirtual 143) 3 := o_182 ob_X4_fewestThreatDays rfl rfl rfl rfl
theorem dX4_fewestThreatDays_37 : dc cX4_fewestThreatDays 37 40 (.ifCond .eq 6) 3 := o_153 ob_X4_fewestThreatDays rfl rfl rfl rfl
theorem dX4_fewestThreatDays_40 : dc cX4_fewestThreatDays 40 42 (.iload 5) 2 := o_21 ob_X4_fewestThreatDays rfl rfl rfl rfl
theorem dX4_fewestThreatDays_42 : dc cX4_fewestThreatDays 42 43 .ireturn 1 := o_172 ob_X4_fewestThreatDays rfl rfl rfl
theorem dX4_fewestThreatDays_43 : dc cX4_fewestThreatDays 43 46 (.iinc 5 1) 3 := o_132 ob_X4_fewestThreatDays rfl rfl rfl rfl rfl
theorem dX4_fewestThreatDays_46 : dc cX4_fewestThreatDays 46 49 (.goto (-43)) 3 := o_167 ob_X4_fewestThreatDays rfl rfl rfl rfl
theorem dX4_fewestThreatDays_49 : dc cX4_fewestThreatDays 49 50 (.iconst (-1)) 1 := o_2 ob_X4_fewestThreatDays rfl rfl rfl
theorem dX4_fewestThreatDays_50 : dc cX4_fewestThreatDays 50 51 .ireturn 1 := o_172 ob_X4_fewestThreatDays rfl rfl rfl
def F_Day_fewestThreatDays_b3 (x1 : Int32) (x2 : Int32) (x3 : Int32) (x4 : Int32) (z : Int32 × Mem) : Option ((Int32 × Mem) ⊕ ((Int32 × Mem) ⊕ ((Mem)))) :=
  if 9 < z.1 then some (.inr (.inr z.2)) else (F_Day_isThreatEnough 0 x1 x2 x3 x4 z.1 z.2).bind fun r1 => if r1.1 = true then (F_Day_isThreatEnough 1 x2 x1 x4 x3 z.1 r1.2).bind fun r2 => if r2.1 = true then some (.inr (.inl ((z.1, r2.2)))) else some (.inl ((z.1 + 1, r2.2))) else some (.inl ((z.1 + 1, r1.2)))
def F_Day_fewestThreatDays_l3 (x1 : Int32) (x2 : Int32) (x3 : Int32) (x4 : Int32) (x5 : Int32) (M : Mem) : Option (Int32 × Mem) :=
  (iter (F_Day_fewestThreatDays_b3 x1 x2 x3 x4) FUEL (x5, M)).bind fun q => match q with
    | .inl r => some ((r.1, r.2))
    | .inr r => some (((-1), r))
def F_Day_fewestThreatDays (x1 : Int32) (x2 : Int32) (x3 : Int32) (x4 : Int32) (M : Mem) : Option (Int32 × Mem) :=
  F_Day_fewestThreatDays_l3 x1 x2 x3 x4 0 M
set_option maxRecDepth 100000 in
set_option maxHeartbeats 4000000 in
theorem K_Day_fewestThreatDays (l : Launch) (g : GB) (htr : l.stackTraces = false) (x1 : Int32) (x2 : Int32) (x3 : Int32) (x4 : Int32) (M : Mem) (rr : Int32) (MZ : Mem) (h : F_Day_fewestThreatDays x1 x2 x3 x4 M = some (rr, MZ)) : CT l g yX4_fewestThreatDays (.code yX4_fewestThreatDays cX4_fewestThreatDays 6 (some .int) :: wAll) { frames := 4, cells := 0, slots := 0, locals := 103 } [.ref (g.2.1 68), .int x1, .int x2, .int x3, .int x4] M (.inl (some (.int rr))) MZ := by
  refine CT.of [(0, .ref (g.2.1 68)), (1, .int x1), (2, .int x2), (3, .int x3), (4, .int x4)] (by decide +kernel) (Nat.le_of_ble_eq_true rfl) rfl htr ?_
  intro p e s m args below meth c K hr ht
  skip
  obtain ⟨PHI, hPHI, h⟩ : ∃ PHI : Int32 × Mem → Prop, (∀ a, PHI a → a = (rr, MZ)) ∧ wpO (F_Day_fewestThreatDays x1 x2 x3 x4 M) PHI := ⟨fun a => a = (rr, MZ), fun _ h => h, _, h, rfl⟩
  have J3 : ∀ (x1 : Int32) (x2 : Int32) (x3 : Int32) (x4 : Int32) (x5 : Int32) (M : Mem), wpO (F_Day_fewestThreatDays_l3 x1 x2 x3 x4 x5 M) PHI → GG p l e { frames := 4, cells := 0, slots := 0, locals := 103 } s m args below meth c g 6 (vx_MQ below (Qn g s.heap.size (.inl (some (.int rr))) MZ) (QX g s.heap.size (.inl (some (.int rr))) MZ) args s 0 0 (AS g s.heap.size)) 0 0 3 [(0, .ref (g.2.1 68)), (1, .int x1), (2, .int x2), (3, .int x3), (4, .int x4), (5, .int x5)] [] M := by
    intro x1 x2 x3 x4 x5 M h
    unfold F_Day_fewestThreatDays_l3 at h
    refine loop_C2 (G := fun (x5 : Int32) (M : Mem) => GG p l e { frames := 4, cells := 0, slots := 0, locals := 103 } s m args below meth c g 6 (vx_MQ below (Qn g s.heap.size (.inl (some (.int rr))) MZ) (QX g s.heap.size (.inl (some (.int rr))) MZ) args s 0 0 (AS g s.heap.size)) 0 0 3 [(0, .ref (g.2.1 68)), (1, .int x1), (2, .int x2), (3, .int x3), (4, .int x4), (5, .int x5)] [] M) (body := F_Day_fewestThreatDays_b3 x1 x2 x3 x4) ?_ FUEL _ _ (wpO_bind h)
    intro P3 E3 X3
    intro z h
    unfold F_Day_fewestThreatDays_b3 at h
    refine G_iload 5 rfl K dX4_fewestThreatDays_3 ?_
    refine G_bipush (v := 9) rfl K dX4_fewestThreatDays_5 ?_
    refine G_icmp_gt (tgt := 49) K dX4_fewestThreatDays_7 (by decide) (fun hc => ?_) (fun hc => ?_)
    · have h := wpO_t h hc
      have h := X3 _ (wpO_some h)
      try dsimp only at h
      refine G_iconst (v := (-1)) rfl K dX4_fewestThreatDays_49 ?_
      cases hPHI _ (wpO_some h)
      exact G_iret K hr rfl dX4_fewestThreatDays_50 (Nat.le_of_ble_eq_true rfl) (Nat.le_of_ble_eq_true rfl) ⟨rfl, rfl⟩
    · have h := wpO_f h hc
      refine G_aload_n rfl 0 rfl K dX4_fewestThreatDays_10 ?_
      refine G_iconst (v := 0) rfl K dX4_fewestThreatDays_11 ?_
      refine G_iload_n rfl 1 rfl K dX4_fewestThreatDays_12 ?_
      refine G_iload_n rfl 2 rfl K dX4_fewestThreatDays_13 ?_
      refine G_iload_n rfl 3 rfl K dX4_fewestThreatDays_14 ?_
      refine G_iload 4 rfl K dX4_fewestThreatDays_15 ?_
      refine G_iload 5 rfl K dX4_fewestThreatDays_17 ?_
      obtain ⟨r1, e1, h⟩ := wpO_bind h
      refine G_callVi (ci := 4) [.int 0, .int x1, .int x2, .int x3, .int x4, .int z.1] [] K dX4_fewestThreatDays_19 wv_1155 yd_X4_isThreatEnough (Nat.le_of_ble_eq_true rfl) (sh_68 _ _) rfl (by decide) (by decide) rfl rfl (Nat.le_of_ble_eq_true rfl) (K_Day_isThreatEnough l g htr 0 x1 x2 x3 x4 z.1 z.2 _ _ e1) ?_
      refine G_ifb_eq (tgt := 43) K dX4_fewestThreatDays_22 (by decide) (fun hc => ?_) (fun hc => ?_)
      · have h := wpO_bf h hc
        refine G_iinc (v := z.1 + 1) 5 rfl K dX4_fewestThreatDays_43 rfl (Nat.le_of_ble_eq_true rfl) rfl ?_
        refine G_goto (tgt := 3) K dX4_fewestThreatDays_46 (by decide) ?_
        exact G_lv (lv' := [(0, .ref (g.2.1 68)), (1, .int x1), (2, .int x2), (3, .int x3), (4, .int x4), (5, .int (z.1 + 1))]) [1, 2, 3, 4, 5, 0] rfl (E3 (z.1 + 1) r1.2 (wpO_some h))
      · have h := wpO_t h hc
        refine G_aload_n rfl 0 rfl K dX4_fewestThreatDays_25 ?_
        refine G_iconst (v := 1) rfl K dX4_fewestThreatDays_26 ?_
        refine G_iload_n rfl 2 rfl K dX4_fewestThreatDays_27 ?_
        refine G_iload_n rfl 1 rfl K dX4_fewestThreatDays_28 ?_
        refine G_iload 4 rfl K dX4_fewestThreatDays_29 ?_
        refine G_iload_n rfl 3 rfl K dX4_fewestThreatDays_31 ?_
        refine G_iload 5 rfl K dX4_fewestThreatDays_32 ?_
        obtain ⟨r2, e2, h⟩ := wpO_bind h
        refine G_callVi (ci := 4) [.int 1, .int x2, .int x1, .int x4, .int x3, .int z.1] [] K dX4_fewestThreatDays_34 wv_1155 yd_X4_isThreatEnough (Nat.le_of_ble_eq_true rfl) (sh_68 _ _) rfl (by decide) (by decide) rfl rfl (Nat.le_of_ble_eq_true rfl) (K_Day_isThreatEnough l g htr 1 x2 x1 x4 x3 z.1 r1.2 _ _ e2) ?_
        refine G_ifb_eq (tgt := 43) K dX4_fewestThreatDays_37 (by decide) (fun hc => ?_) (fun hc => ?_)
        · have h := wpO_bf h hc
          refine G_iinc (v := z.1 + 1) 5 rfl K dX4_fewestThreatDays_43 rfl (Nat.le_of_ble_eq_true rfl) rfl ?_
          refine G_goto (tgt := 3) K dX4_fewestThreatDays_46 (by decide) ?_
          exact G_lv (lv' := [(0, .ref (g.2.1 68)), (1, .int x1), (2, .int x2), (3, .int x3), (4, .int x4), (5, .int (z.1 + 1))]) [1, 2, 3, 4, 5, 0] rfl (E3 (z.1 + 1) r2.2 (wpO_some h))
        · have h := wpO_t h hc
          have h := X3 _ (wpO_some h)
          try dsimp only at h
          refine G_iload 5 rfl K dX4_fewestThreatDays_40 ?_
          cases hPHI _ (wpO_some h)
          exact G_iret K hr rfl dX4_fewestThreatDays_42 (Nat.le_of_ble_eq_true rfl) (Nat.le_of_ble_eq_true rfl) ⟨rfl, rfl⟩
  unfold F_Day_fewestThreatDays at h
  refine G_iconst (v := 0) rfl K dX4_fewestThreatDays_0 ?_
  refine G_istore K dX4_fewestThreatDays_1 (Nat.le_of_ble_eq_true rfl) rfl ?_
  exact G_lv (lv' := [(0, .ref (g.2.1 68)), (1, .int x1), (2, .int x2), (3, .int x3), (4, .int x4), (5, .int 0)]) [1, 2, 3, 4, 5, 0] rfl (J3 x1 x2 x3 x4 0 M h)
