theorem wv_1441 : wdV "KeptWell$Bridge" 28 yX7_at cX7_at 2 (some .long) := ⟨wd_1441, wd_528, wd_529, wd_3, wd_530⟩
theorem wv_1442 : wdV "KeptWell$Bridge" 37 yX5_be cX5_be 7 none := ⟨wd_1442, wd_970, wd_971, wd_13, wd_972⟩
theorem drX1_tellEdge_0 : ([(0, (.aload_n 0), 1), (1, (.getfield 18), 3), (4, (.getfield 22), 3), (7, (.iload_n 1), 1), (8, (.invokevirtual 28), 3), (11, (.aload_n 0), 1), (12, (.getfield 18), 3), (15, (.getfield 34), 3), (18, (.iload_n 1), 1), (19, (.invokevirtual 28), 3), (22, .lsub, 1), (23, (.lstore 4), 2), (25, (.iload_n 2), 1), (26, (.iconst 1), 1), (27, .isub, 1), (28, .i2l, 1), (29, (.aload_n 0), 1), (30, (.getfield 18), 3), (33, (.getfield 34), 3), (36, (.iload_n 1), 1), (37, (.invokevirtual 28), 3), (40, .lmul, 1), (41, (.lstore 6), 2), (43, (.lload 4), 2), (45, (.lconst 0), 1), (46, .lcmp, 1), (47, (.ifCond .gt 12), 3), (50, (.aload_n 3), 1), (51, (.lconst 0), 1), (52, (.lconst 1), 1), (53, (.invokevirtual 37), 3), (56, (.goto 28), 3), (59, (.lload 4), 2), (61, (.lload 6), 2), (63, .lcmp, 1), (64, (.ifCond .lt 12), 3), (67, (.aload_n 3), 1), (68, (.lconst 1), 1), (69, (.lconst 1), 1), (70, (.invokevirtual 37), 3), (73, (.goto 11), 3), (76, (.aload_n 3), 1), (77, (.lload 4), 2), (79, (.lload 6), 2), (81, (.invokevirtual 37), 3), (84, .return_, 1)] : List (Nat × Instr × Nat)).all (fun q => decide (decode cX1_tellEdge q.1 = .ok q.2)) = true := by decide +kernel
theorem dX1_tellEdge_0 : dc cX1_tellEdge 0 1 (.aload_n 0) 1 := ⟨dr_at drX1_tellEdge_0 (i := 0) rfl, rfl⟩
theorem dX1_tellEdge_1 : dc cX1_tellEdge 1 4 (.getfield 18) 3 := ⟨dr_at drX1_tellEdge_0 (i := 1) rfl, rfl⟩
theorem dX1_tellEdge_4 : dc cX1_tellEdge 4 7 (.getfield 22) 3 := ⟨dr_at drX1_tellEdge_0 (i := 2) rfl, rfl⟩
theorem dX1_tellEdge_7 : dc cX1_tellEdge 7 8 (.iload_n 1) 1 := ⟨dr_at drX1_tellEdge_0 (i := 3) rfl, rfl⟩
theorem dX1_tellEdge_8 : dc cX1_tellEdge 8 11 (.invokevirtual 28) 3 := ⟨dr_at drX1_tellEdge_0 (i := 4) rfl, rfl⟩
theorem dX1_tellEdge_11 : dc cX1_tellEdge 11 12 (.aload_n 0) 1 := ⟨dr_at drX1_tellEdge_0 (i := 5) rfl, rfl⟩
theorem dX1_tellEdge_12 : dc cX1_tellEdge 12 15 (.getfield 18) 3 := ⟨dr_at drX1_tellEdge_0 (i := 6) rfl, rfl⟩
theorem dX1_tellEdge_15 : dc cX1_tellEdge 15 18 (.getfield 34) 3 := ⟨dr_at drX1_tellEdge_0 (i := 7) rfl, rfl⟩
theorem dX1_tellEdge_18 : dc cX1_tellEdge 18 19 (.iload_n 1) 1 := ⟨dr_at drX1_tellEdge_0 (i := 8) rfl, rfl⟩
theorem dX1_tellEdge_19 : dc cX1_tellEdge 19 22 (.invokevirtual 28) 3 := ⟨dr_at drX1_tellEdge_0 (i := 9) rfl, rfl⟩
theorem dX1_tellEdge_22 : dc cX1_tellEdge 22 23 .lsub 1 := ⟨dr_at drX1_tellEdge_0 (i := 10) rfl, rfl⟩
theorem dX1_tellEdge_23 : dc cX1_tellEdge 23 25 (.lstore 4) 2 := ⟨dr_at drX1_tellEdge_0 (i := 11) rfl, rfl⟩
theorem dX1_tellEdge_25 : dc cX1_tellEdge 25 26 (.iload_n 2) 1 := ⟨dr_at drX1_tellEdge_0 (i := 12) rfl, rfl⟩
theorem dX1_tellEdge_26 : dc cX1_tellEdge 26 27 (.iconst 1) 1 := ⟨dr_at drX1_tellEdge_0 (i := 13) rfl, rfl⟩
theorem dX1_tellEdge_27 : dc cX1_tellEdge 27 28 .isub 1 := ⟨dr_at drX1_tellEdge_0 (i := 14) rfl, rfl⟩
theorem dX1_tellEdge_28 : dc cX1_tellEdge 28 29 .i2l 1 := ⟨dr_at drX1_tellEdge_0 (i := 15) rfl, rfl⟩
theorem dX1_tellEdge_29 : dc cX1_tellEdge 29 30 (.aload_n 0) 1 := ⟨dr_at drX1_tellEdge_0 (i := 16) rfl, rfl⟩
theorem dX1_tellEdge_30 : dc cX1_tellEdge 30 33 (.getfield 18) 3 := ⟨dr_at drX1_tellEdge_0 (i := 17) rfl, rfl⟩
theorem dX1_tellEdge_33 : dc cX1_tellEdge 33 36 (.getfield 34) 3 := ⟨dr_at drX1_tellEdge_0 (i := 18) rfl, rfl⟩
theorem dX1_tellEdge_36 : dc cX1_tellEdge 36 37 (.iload_n 1) 1 := ⟨dr_at drX1_tellEdge_0 (i := 19) rfl, rfl⟩
theorem dX1_tellEdge_37 : dc cX1_tellEdge 37 40 (.invokevirtual 28) 3 := ⟨dr_at drX1_tellEdge_0 (i := 20) rfl, rfl⟩
theorem dX1_tellEdge_40 : dc cX1_tellEdge 40 41 .lmul 1 := ⟨dr_at drX1_tellEdge_0 (i := 21) rfl, rfl⟩
theorem dX1_tellEdge_41 : dc cX1_tellEdge 41 43 (.lstore 6) 2 := ⟨dr_at drX1_tellEdge_0 (i := 22) rfl, rfl⟩
theorem dX1_tellEdge_43 : dc cX1_tellEdge 43 45 (.lload 4) 2 := ⟨dr_at drX1_tellEdge_0 (i := 23) rfl, rfl⟩
theorem dX1_tellEdge_45 : dc cX1_tellEdge 45 46 (.lconst 0) 1 := ⟨dr_at drX1_tellEdge_0 (i := 24) rfl, rfl⟩
theorem dX1_tellEdge_46 : dc cX1_tellEdge 46 47 .lcmp 1 := ⟨dr_at drX1_tellEdge_0 (i := 25) rfl, rfl⟩
theorem dX1_tellEdge_47 : dc cX1_tellEdge 47 50 (.ifCond .gt 12) 3 := ⟨dr_at drX1_tellEdge_0 (i := 26) rfl, rfl⟩
theorem dX1_tellEdge_50 : dc cX1_tellEdge 50 51 (.aload_n 3) 1 := ⟨dr_at drX1_tellEdge_0 (i := 27) rfl, rfl⟩
theorem dX1_tellEdge_51 : dc cX1_tellEdge 51 52 (.lconst 0) 1 := ⟨dr_at drX1_tellEdge_0 (i := 28) rfl, rfl⟩
theorem dX1_tellEdge_52 : dc cX1_tellEdge 52 53 (.lconst 1) 1 := ⟨dr_at drX1_tellEdge_0 (i := 29) rfl, rfl⟩
theorem dX1_tellEdge_53 : dc cX1_tellEdge 53 56 (.invokevirtual 37) 3 := ⟨dr_at drX1_tellEdge_0 (i := 30) rfl, rfl⟩
theorem dX1_tellEdge_56 : dc cX1_tellEdge 56 59 (.goto 28) 3 := ⟨dr_at drX1_tellEdge_0 (i := 31) rfl, rfl⟩
theorem dX1_tellEdge_59 : dc cX1_tellEdge 59 61 (.lload 4) 2 := ⟨dr_at drX1_tellEdge_0 (i := 32) rfl, rfl⟩
theorem dX1_tellEdge_61 : dc cX1_tellEdge 61 63 (.lload 6) 2 := ⟨dr_at drX1_tellEdge_0 (i := 33) rfl, rfl⟩
theorem dX1_tellEdge_63 : dc cX1_tellEdge 63 64 .lcmp 1 := ⟨dr_at drX1_tellEdge_0 (i := 34) rfl, rfl⟩
theorem dX1_tellEdge_64 : dc cX1_tellEdge 64 67 (.ifCond .lt 12) 3 := ⟨dr_at drX1_tellEdge_0 (i := 35) rfl, rfl⟩
theorem dX1_tellEdge_67 : dc cX1_tellEdge 67 68 (.aload_n 3) 1 := ⟨dr_at drX1_tellEdge_0 (i := 36) rfl, rfl⟩
theorem dX1_tellEdge_68 : dc cX1_tellEdge 68 69 (.lconst 1) 1 := ⟨dr_at drX1_tellEdge_0 (i := 37) rfl, rfl⟩
theorem dX1_tellEdge_69 : dc cX1_tellEdge 69 70 (.lconst 1) 1 := ⟨dr_at drX1_tellEdge_0 (i := 38) rfl, rfl⟩
theorem dX1_tellEdge_70 : dc cX1_tellEdge 70 73 (.invokevirtual 37) 3 := ⟨dr_at drX1_tellEdge_0 (i := 39) rfl, rfl⟩
theorem dX1_tellEdge_73 : dc cX1_tellEdge 73 76 (.goto 11) 3 := ⟨dr_at drX1_tellEdge_0 (i := 40) rfl, rfl⟩
theorem dX1_tellEdge_76 : dc cX1_tellEdge 76 77 (.aload_n 3) 1 := ⟨dr_at drX1_tellEdge_0 (i := 41) rfl, rfl⟩
theorem dX1_tellEdge_77 : dc cX1_tellEdge 77 79 (.lload 4) 2 := ⟨dr_at drX1_tellEdge_0 (i := 42) rfl, rfl⟩
theorem dX1_tellEdge_79 : dc cX1_tellEdge 79 81 (.lload 6) 2 := ⟨dr_at drX1_tellEdge_0 (i := 43) rfl, rfl⟩
theorem dX1_tellEdge_81 : dc cX1_tellEdge 81 84 (.invokevirtual 37) 3 := ⟨dr_at drX1_tellEdge_0 (i := 44) rfl, rfl⟩
theorem dX1_tellEdge_84 : dc cX1_tellEdge 84 85 .return_ 1 := ⟨dr_at drX1_tellEdge_0 (i := 45) rfl, rfl⟩
def F_Bridge_tellEdge (o3 : Nat) (x1 : Int32) (x2 : Int32) (M : Mem) : Option (Mem) :=
  (F_Row_at 11 6 x1 M).bind fun r1 => (F_Row_at 13 6 x1 M).bind fun r2 => (F_Row_at 13 6 x1 M).bind fun r3 => if 0 < (r1 - r2) then if (r1 - r2) < (((x2 - 1).toInt64) * r3) then (F_Fraction_be o3 (r1 - r2) (((x2 - 1).toInt64) * r3) M).bind fun r4 => some r4 else (F_Fraction_be o3 1 1 M).bind fun r5 => some r5 else (F_Fraction_be o3 0 1 M).bind fun r6 => some r6
set_option maxRecDepth 100000 in
set_option maxHeartbeats 4000000 in
theorem K_Bridge_tellEdge (l : Launch) (g : GB) (htr : l.stackTraces = false) (o3 : Nat) (ho3 : isFrac o3) (x1 : Int32) (x2 : Int32) (M : Mem) (MZ : Mem) (h : F_Bridge_tellEdge o3 x1 x2 M = some MZ) : CT l g yX1_tellEdge (.code yX1_tellEdge cX1_tellEdge 8 none :: wAll) { frames := 3, cells := 0, slots := 0, locals := 77 } [.ref (g.2.1 91), .int x1, .int x2, .ref (g.2.1 o3)] M (.inl none) MZ := by
  refine CT.of [(0, .ref (g.2.1 91)), (1, .int x1), (2, .int x2), (3, .ref (g.2.1 o3))] (by decide +kernel) (Nat.le_of_ble_eq_true rfl) rfl htr ?_
  intro p e s m args below meth c K hr ht
  skip
  obtain ⟨PHI, hPHI, h⟩ : ∃ PHI : Mem → Prop, (∀ a, PHI a → a = MZ) ∧ wpO (F_Bridge_tellEdge o3 x1 x2 M) PHI := ⟨fun a => a = MZ, fun _ h => h, _, h, rfl⟩
  unfold F_Bridge_tellEdge at h
  refine G_aload_n rfl 0 rfl K dX1_tellEdge_0 ?_
  refine G_get (ci := 1) (k := 0) K rfl in_X1 wd_393 rfl dX1_tellEdge_1 (Nat.le_of_ble_eq_true rfl) (sh_91 _ _) (Nat.le_of_ble_eq_true rfl) rfl ?_
  refine G_get (ci := 10) (k := 13) K rfl in_X10 wd_103 rfl dX1_tellEdge_4 (Nat.le_of_ble_eq_true rfl) (sh_1 _ _) (Nat.le_of_ble_eq_true rfl) rfl ?_
  refine G_iload_n rfl 1 rfl K dX1_tellEdge_7 ?_
  obtain ⟨r1, e1, h⟩ := wpO_bind h
  refine G_callVl (ci := 7) [.int x1] [] K dX1_tellEdge_8 wv_1441 yd_X7_at (Nat.le_of_ble_eq_true rfl) (sh_10 _ _) rfl (by decide) (by decide) rfl rfl (Nat.le_of_ble_eq_true rfl) (K_Row_at l g htr 10 11 6 isRow_10 x1 M _ e1) ?_
  refine G_aload_n rfl 0 rfl K dX1_tellEdge_11 ?_
  refine G_get (ci := 1) (k := 0) K rfl in_X1 wd_393 rfl dX1_tellEdge_12 (Nat.le_of_ble_eq_true rfl) (sh_91 _ _) (Nat.le_of_ble_eq_true rfl) rfl ?_
  refine G_get (ci := 10) (k := 14) K rfl in_X10 wd_106 rfl dX1_tellEdge_15 (Nat.le_of_ble_eq_true rfl) (sh_1 _ _) (Nat.le_of_ble_eq_true rfl) rfl ?_
  refine G_iload_n rfl 1 rfl K dX1_tellEdge_18 ?_
  obtain ⟨r2, e2, h⟩ := wpO_bind h
  refine G_callVl (ci := 7) [.int x1] [.long r1] K dX1_tellEdge_19 wv_1441 yd_X7_at (Nat.le_of_ble_eq_true rfl) (sh_12 _ _) rfl (by decide) (by decide) rfl rfl (Nat.le_of_ble_eq_true rfl) (K_Row_at l g htr 12 13 6 isRow_12 x1 M _ e2) ?_
  refine G_lsub K dX1_tellEdge_22 ?_
  refine G_lstore K dX1_tellEdge_23 (Nat.le_of_ble_eq_true rfl) rfl ?_
  refine G_iload_n rfl 3 rfl K dX1_tellEdge_25 ?_
  refine G_iconst (v := 1) rfl K dX1_tellEdge_26 ?_
  refine G_isub K dX1_tellEdge_27 ?_
  refine G_i2l K dX1_tellEdge_28 ?_
  refine G_aload_n rfl 1 rfl K dX1_tellEdge_29 ?_
  refine G_get (ci := 1) (k := 0) K rfl in_X1 wd_393 rfl dX1_tellEdge_30 (Nat.le_of_ble_eq_true rfl) (sh_91 _ _) (Nat.le_of_ble_eq_true rfl) rfl ?_
  refine G_get (ci := 10) (k := 14) K rfl in_X10 wd_106 rfl dX1_tellEdge_33 (Nat.le_of_ble_eq_true rfl) (sh_1 _ _) (Nat.le_of_ble_eq_true rfl) rfl ?_
  refine G_iload_n rfl 2 rfl K dX1_tellEdge_36 ?_
  obtain ⟨r3, e3, h⟩ := wpO_bind h
  refine G_callVl (ci := 7) [.int x1] [.long ((x2 - 1).toInt64)] K dX1_tellEdge_37 wv_1441 yd_X7_at (Nat.le_of_ble_eq_true rfl) (sh_12 _ _) rfl (by decide) (by decide) rfl rfl (Nat.le_of_ble_eq_true rfl) (K_Row_at l g htr 12 13 6 isRow_12 x1 M _ e3) ?_
  refine G_lmul K dX1_tellEdge_40 ?_
  refine G_lstore K dX1_tellEdge_41 (Nat.le_of_ble_eq_true rfl) rfl ?_
  refine G_lload 1 rfl K dX1_tellEdge_43 ?_
  refine G_lconst (v := 0) rfl K dX1_tellEdge_45 ?_
  refine G_lcmp_gt (tgt := 59) K dX1_tellEdge_46 dX1_tellEdge_47 (by decide) (fun hc => ?_) (fun hc => ?_)
  · have h := wpO_t h hc
    refine G_lload 1 rfl K dX1_tellEdge_59 ?_
    refine G_lload 0 rfl K dX1_tellEdge_61 ?_
    refine G_lcmp_lt (tgt := 76) K dX1_tellEdge_63 dX1_tellEdge_64 (by decide) (fun hc => ?_) (fun hc => ?_)
    · have h := wpO_t h hc
      refine G_aload_n rfl 5 rfl K dX1_tellEdge_76 ?_
      refine G_lload 1 rfl K dX1_tellEdge_77 ?_
      refine G_lload 0 rfl K dX1_tellEdge_79 ?_
      obtain ⟨r4, e4, h⟩ := wpO_bind h
      refine G_callVv (ci := 5) [.long (r1 - r2), .long (((x2 - 1).toInt64) * r3)] [] K dX1_tellEdge_81 wv_1442 yd_X5_be ho3.1 (ho3.2 _ _) rfl (by decide) (by decide) rfl rfl (Nat.le_of_ble_eq_true rfl) (K_Fraction_be l g htr o3 ho3 (r1 - r2) (((x2 - 1).toInt64) * r3) M _ e4) ?_
      cases hPHI _ (wpO_some h)
      exact G_vret K hr dX1_tellEdge_84 (Nat.le_of_ble_eq_true rfl) (Nat.le_of_ble_eq_true rfl) ⟨rfl, rfl⟩
    · have h := wpO_f h hc
      refine G_aload_n rfl 5 rfl K dX1_tellEdge_67 ?_
      refine G_lconst (v := 1) rfl K dX1_tellEdge_68 ?_
      refine G_lconst (v := 1) rfl K dX1_tellEdge_69 ?_
      obtain ⟨r5, e5, h⟩ := wpO_bind h
      refine G_callVv (ci := 5) [.long 1, .long 1] [] K dX1_tellEdge_70 wv_1442 yd_X5_be ho3.1 (ho3.2 _ _) rfl (by decide) (by decide) rfl rfl (Nat.le_of_ble_eq_true rfl) (K_Fraction_be l g htr o3 ho3 1 1 M _ e5) ?_
      refine G_goto (tgt := 84) K dX1_tellEdge_73 (by decide) ?_
      cases hPHI _ (wpO_some h)
      exact G_vret K hr dX1_tellEdge_84 (Nat.le_of_ble_eq_true rfl) (Nat.le_of_ble_eq_true rfl) ⟨rfl, rfl⟩
  · have h := wpO_f h hc
    refine G_aload_n rfl 5 rfl K dX1_tellEdge_50 ?_
    refine G_lconst (v := 0) rfl K dX1_tellEdge_51 ?_
    refine G_lconst (v := 1) rfl K dX1_tellEdge_52 ?_
    obtain ⟨r6, e6, h⟩ := wpO_bind h
    refine G_callVv (ci := 5) [.long 0, .long 1] [] K dX1_tellEdge_53 wv_1442 yd_X5_be ho3.1 (ho3.2 _ _) rfl (by decide) (by decide) rfl rfl (Nat.le_of_ble_eq_true rfl) (K_Fraction_be l g htr o3 ho3 0 1 M _ e6) ?_
    refine G_goto (tgt := 84) K dX1_tellEdge_56 (by decide) ?_
    cases hPHI _ (wpO_some h)
    exact G_vret K hr dX1_tellEdge_84 (Nat.le_of_ble_eq_true rfl) (Nat.le_of_ble_eq_true rfl) ⟨rfl, rfl⟩
theorem yd_X1_tellEdge : ydN yX1_tellEdge 3 := ⟨by decide, by decide, by decide +kernel⟩
theorem wv_1454 : wdV "KeptWell$Bridge" 45 yX1_tellEdge cX1_tellEdge 8 none := ⟨wd_1454, wd_1438, wd_1439, wd_12, wd_1440⟩
theorem drX1_weakest_0 : ([(0, (.iconst (-1)), 1), (1, (.istore_n 1), 1), (2, (.lconst 0), 1), (3, (.lstore_n 2), 1), (4, (.lconst 1), 1), (5, (.lstore 4), 2), (7, (.iconst 0), 1), (8, (.istore 6), 2), (10, (.iload 6), 2), (12, (.aload_n 0), 1), (13, (.getfield 18), 3), (16, (.getfield 41), 3), (19, (.if_icmp .ge 74), 3), (22, (.aload_n 0), 1), (23, (.iload 6), 2), (25, (.aload_n 0), 1), (26, (.getfield 18), 3), (29, (.getfield 41), 3), (32, (.aload_n 0), 1), (33, (.getfield 12), 3), (36, (.invokevirtual 45), 3), (39, (.iload_n 1), 1), (40, (.iconst (-1)), 1), (41, (.if_icmp .eq 26), 3), (44, (.aload_n 0), 1), (45, (.getfield 12), 3), (48, (.getfield 49), 3), (51, (.lload 4), 2), (53, .lmul, 1), (54, (.lload_n 2), 1), (55, (.aload_n 0), 1), (56, (.getfield 12), 3), (59, (.getfield 53), 3), (62, .lmul, 1), (63, .lcmp, 1), (64, (.ifCond .le 23), 3), (67, (.iload 6), 2), (69, (.istore_n 1), 1), (70, (.aload_n 0), 1), (71, (.getfield 12), 3), (74, (.getfield 49), 3), (77, (.lstore_n 2), 1), (78, (.aload_n 0), 1), (79, (.getfield 12), 3), (82, (.getfield 53), 3), (85, (.lstore 4), 2), (87, (.iinc 6 1), 3), (90, (.goto (-80)), 3), (93, (.iload_n 1), 1), (94, .ireturn, 1)] : List (Nat × Instr × Nat)).all (fun q => decide (decode cX1_weakest q.1 = .ok q.2)) = true := by decide +kernel
theorem dX1_weakest_0 : dc cX1_weakest 0 1 (.iconst (-1)) 1 := ⟨dr_at drX1_weakest_0 (i := 0) rfl, rfl⟩
theorem dX1_weakest_1 : dc cX1_weakest 1 2 (.istore_n 1) 1 := ⟨dr_at drX1_weakest_0 (i := 1) rfl, rfl⟩
theorem dX1_weakest_2 : dc cX1_weakest 2 3 (.lconst 0) 1 := ⟨dr_at drX1_weakest_0 (i := 2) rfl, rfl⟩
theorem dX1_weakest_3 : dc cX1_weakest 3 4 (.lstore_n 2) 1 := ⟨dr_at drX1_weakest_0 (i := 3) rfl, rfl⟩
theorem dX1_weakest_4 : dc cX1_weakest 4 5 (.lconst 1) 1 := ⟨dr_at drX1_weakest_0 (i := 4) rfl, rfl⟩
theorem dX1_weakest_5 : dc cX1_weakest 5 7 (.lstore 4) 2 := ⟨dr_at drX1_weakest_0 (i := 5) rfl, rfl⟩
theorem dX1_weakest_7 : dc cX1_weakest 7 8 (.iconst 0) 1 := ⟨dr_at drX1_weakest_0 (i := 6) rfl, rfl⟩
theorem dX1_weakest_8 : dc cX1_weakest 8 10 (.istore 6) 2 := ⟨dr_at drX1_weakest_0 (i := 7) rfl, rfl⟩
theorem dX1_weakest_10 : dc cX1_weakest 10 12 (.iload 6) 2 := ⟨dr_at drX1_weakest_0 (i := 8) rfl, rfl⟩
theorem dX1_weakest_12 : dc cX1_weakest 12 13 (.aload_n 0) 1 := ⟨dr_at drX1_weakest_0 (i := 9) rfl, rfl⟩
theorem dX1_weakest_13 : dc cX1_weakest 13 16 (.getfield 18) 3 := ⟨dr_at drX1_weakest_0 (i := 10) rfl, rfl⟩
theorem dX1_weakest_16 : dc cX1_weakest 16 19 (.getfield 41) 3 := ⟨dr_at drX1_weakest_0 (i := 11) rfl, rfl⟩
theorem dX1_weakest_19 : dc cX1_weakest 19 22 (.if_icmp .ge 74) 3 := ⟨dr_at drX1_weakest_0 (i := 12) rfl, rfl⟩
theorem dX1_weakest_22 : dc cX1_weakest 22 23 (.aload_n 0) 1 := ⟨dr_at drX1_weakest_0 (i := 13) rfl, rfl⟩
theorem dX1_weakest_23 : dc cX1_weakest 23 25 (.iload 6) 2 := ⟨dr_at drX1_weakest_0 (i := 14) rfl, rfl⟩
theorem dX1_weakest_25 : dc cX1_weakest 25 26 (.aload_n 0) 1 := ⟨dr_at drX1_weakest_0 (i := 15) rfl, rfl⟩
theorem dX1_weakest_26 : dc cX1_weakest 26 29 (.getfield 18) 3 := ⟨dr_at drX1_weakest_0 (i := 16) rfl, rfl⟩
theorem dX1_weakest_29 : dc cX1_weakest 29 32 (.getfield 41) 3 := ⟨dr_at drX1_weakest_0 (i := 17) rfl, rfl⟩
theorem dX1_weakest_32 : dc cX1_weakest 32 33 (.aload_n 0) 1 := ⟨dr_at drX1_weakest_0 (i := 18) rfl, rfl⟩
theorem dX1_weakest_33 : dc cX1_weakest 33 36 (.getfield 12) 3 := ⟨dr_at drX1_weakest_0 (i := 19) rfl, rfl⟩
theorem dX1_weakest_36 : dc cX1_weakest 36 39 (.invokevirtual 45) 3 := ⟨dr_at drX1_weakest_0 (i := 20) rfl, rfl⟩
theorem dX1_weakest_39 : dc cX1_weakest 39 40 (.iload_n 1) 1 := ⟨dr_at drX1_weakest_0 (i := 21) rfl, rfl⟩
theorem dX1_weakest_40 : dc cX1_weakest 40 41 (.iconst (-1)) 1 := ⟨dr_at drX1_weakest_0 (i := 22) rfl, rfl⟩
theorem dX1_weakest_41 : dc cX1_weakest 41 44 (.if_icmp .eq 26) 3 := ⟨dr_at drX1_weakest_0 (i := 23) rfl, rfl⟩
theorem dX1_weakest_44 : dc cX1_weakest 44 45 (.aload_n 0) 1 := ⟨dr_at drX1_weakest_0 (i := 24) rfl, rfl⟩
theorem dX1_weakest_45 : dc cX1_weakest 45 48 (.getfield 12) 3 := ⟨dr_at drX1_weakest_0 (i := 25) rfl, rfl⟩
theorem dX1_weakest_48 : dc cX1_weakest 48 51 (.getfield 49) 3 := ⟨dr_at drX1_weakest_0 (i := 26) rfl, rfl⟩
theorem dX1_weakest_51 : dc cX1_weakest 51 53 (.lload 4) 2 := ⟨dr_at drX1_weakest_0 (i := 27) rfl, rfl⟩
theorem dX1_weakest_53 : dc cX1_weakest 53 54 .lmul 1 := ⟨dr_at drX1_weakest_0 (i := 28) rfl, rfl⟩
theorem dX1_weakest_54 : dc cX1_weakest 54 55 (.lload_n 2) 1 := ⟨dr_at drX1_weakest_0 (i := 29) rfl, rfl⟩
theorem dX1_weakest_55 : dc cX1_weakest 55 56 (.aload_n 0) 1 := ⟨dr_at drX1_weakest_0 (i := 30) rfl, rfl⟩
theorem dX1_weakest_56 : dc cX1_weakest 56 59 (.getfield 12) 3 := ⟨dr_at drX1_weakest_0 (i := 31) rfl, rfl⟩
theorem dX1_weakest_59 : dc cX1_weakest 59 62 (.getfield 53) 3 := ⟨dr_at drX1_weakest_0 (i := 32) rfl, rfl⟩
theorem dX1_weakest_62 : dc cX1_weakest 62 63 .lmul 1 := ⟨dr_at drX1_weakest_0 (i := 33) rfl, rfl⟩
theorem dX1_weakest_63 : dc cX1_weakest 63 64 .lcmp 1 := ⟨dr_at drX1_weakest_0 (i := 34) rfl, rfl⟩
theorem dX1_weakest_64 : dc cX1_weakest 64 67 (.ifCond .le 23) 3 := ⟨dr_at drX1_weakest_0 (i := 35) rfl, rfl⟩
theorem dX1_weakest_67 : dc cX1_weakest 67 69 (.iload 6) 2 := ⟨dr_at drX1_weakest_0 (i := 36) rfl, rfl⟩
theorem dX1_weakest_69 : dc cX1_weakest 69 70 (.istore_n 1) 1 := ⟨dr_at drX1_weakest_0 (i := 37) rfl, rfl⟩
theorem dX1_weakest_70 : dc cX1_weakest 70 71 (.aload_n 0) 1 := ⟨dr_at drX1_weakest_0 (i := 38) rfl, rfl⟩
theorem dX1_weakest_71 : dc cX1_weakest 71 74 (.getfield 12) 3 := ⟨dr_at drX1_weakest_0 (i := 39) rfl, rfl⟩
theorem dX1_weakest_74 : dc cX1_weakest 74 77 (.getfield 49) 3 := ⟨dr_at drX1_weakest_0 (i := 40) rfl, rfl⟩
theorem dX1_weakest_77 : dc cX1_weakest 77 78 (.lstore_n 2) 1 := ⟨dr_at drX1_weakest_0 (i := 41) rfl, rfl⟩
theorem dX1_weakest_78 : dc cX1_weakest 78 79 (.aload_n 0) 1 := ⟨dr_at drX1_weakest_0 (i := 42) rfl, rfl⟩
theorem dX1_weakest_79 : dc cX1_weakest 79 82 (.getfield 12) 3 := ⟨dr_at drX1_weakest_0 (i := 43) rfl, rfl⟩
theorem dX1_weakest_82 : dc cX1_weakest 82 85 (.getfield 53) 3 := ⟨dr_at drX1_weakest_0 (i := 44) rfl, rfl⟩
theorem dX1_weakest_85 : dc cX1_weakest 85 87 (.lstore 4) 2 := ⟨dr_at drX1_weakest_0 (i := 45) rfl, rfl⟩
theorem dX1_weakest_87 : dc cX1_weakest 87 90 (.iinc 6 1) 3 := ⟨dr_at drX1_weakest_0 (i := 46) rfl, rfl⟩
theorem dX1_weakest_90 : dc cX1_weakest 90 93 (.goto (-80)) 3 := ⟨dr_at drX1_weakest_0 (i := 47) rfl, rfl⟩
theorem dX1_weakest_93 : dc cX1_weakest 93 94 (.iload_n 1) 1 := ⟨dr_at drX1_weakest_0 (i := 48) rfl, rfl⟩
theorem dX1_weakest_94 : dc cX1_weakest 94 95 .ireturn 1 := ⟨dr_at drX1_weakest_0 (i := 49) rfl, rfl⟩
def F_Bridge_weakest_j67 (x6 : Int32) (M : Mem) : Option ((Int32 × Int64 × Int64 × Int32 × Mem) ⊕ ((Int32 × Mem))) :=
  some (.inl ((x6, M.2 92 0, M.2 92 1, x6 + 1, M)))
def F_Bridge_weakest_b10 (z : Int32 × Int64 × Int64 × Int32 × Mem) : Option ((Int32 × Int64 × Int64 × Int32 × Mem) ⊕ ((Int32 × Mem))) :=
  if (z.2.2.2.2.1 1 8) ≤ z.2.2.2.1 then some (.inr ((z.1, z.2.2.2.2))) else (F_Bridge_tellEdge 92 z.2.2.2.1 (z.2.2.2.2.1 1 8) z.2.2.2.2).bind fun r1 => if z.1 = ((-1)) then F_Bridge_weakest_j67 z.2.2.2.1 r1 else if ((r1.2 92 0) * z.2.2.1) ≤ (z.2.1 * (r1.2 92 1)) then some (.inl ((z.1, z.2.1, z.2.2.1, z.2.2.2.1 + 1, r1))) else F_Bridge_weakest_j67 z.2.2.2.1 r1
def F_Bridge_weakest_l10 (x1 : Int32) (x2 : Int64) (x4 : Int64) (x6 : Int32) (M : Mem) : Option (Int32 × Mem) :=
  (iter (F_Bridge_weakest_b10) FUEL (x1, x2, x4, x6, M)).bind fun r => some ((r.1, r.2))
def F_Bridge_weakest (M : Mem) : Option (Int32 × Mem) :=
  F_Bridge_weakest_l10 ((-1)) 0 1 0 M
set_option maxRecDepth 100000 in
set_option maxHeartbeats 4000000 in
theorem K_Bridge_weakest (l : Launch) (g : GB) (htr : l.stackTraces = false) (M : Mem) (rr : Int32) (MZ : Mem) (h : F_Bridge_weakest M = some (rr, MZ)) : CT l g yX1_weakest (.code yX1_weakest cX1_weakest 7 (some .int) :: wAll) { frames := 4, cells := 0, slots := 0, locals := 104 } [.ref (g.2.1 91)] M (.inl (some (.int rr))) MZ := by
  refine CT.of [(0, .ref (g.2.1 91))] (by decide +kernel) (Nat.le_of_ble_eq_true rfl) rfl htr ?_
  intro p e s m args below meth c K hr ht
  skip
  obtain ⟨PHI, hPHI, h⟩ : ∃ PHI : Int32 × Mem → Prop, (∀ a, PHI a → a = (rr, MZ)) ∧ wpO (F_Bridge_weakest M) PHI := ⟨fun a => a = (rr, MZ), fun _ h => h, _, h, rfl⟩
  have J10 : ∀ (x1 : Int32) (x2 : Int64) (x4 : Int64) (x6 : Int32) (M : Mem), wpO (F_Bridge_weakest_l10 x1 x2 x4 x6 M) PHI → GG p l e { frames := 4, cells := 0, slots := 0, locals := 104 } s m args below meth c g 7 (vx_MQ below (Qn g s.heap.size (.inl (some (.int rr))) MZ) (QX g s.heap.size (.inl (some (.int rr))) MZ) args s 0 0 (AS g s.heap.size)) 0 0 10 [(0, .ref (g.2.1 91)), (1, .int x1), (2, .long x2), (4, .long x4), (6, .int x6)] [] M := by
    intro x1 x2 x4 x6 M h
    unfold F_Bridge_weakest_l10 at h
    refine loop_C5 (G := fun (x1 : Int32) (x2 : Int64) (x4 : Int64) (x6 : Int32) (M : Mem) => GG p l e { frames := 4, cells := 0, slots := 0, locals := 104 } s m args below meth c g 7 (vx_MQ below (Qn g s.heap.size (.inl (some (.int rr))) MZ) (QX g s.heap.size (.inl (some (.int rr))) MZ) args s 0 0 (AS g s.heap.size)) 0 0 10 [(0, .ref (g.2.1 91)), (1, .int x1), (2, .long x2), (4, .long x4), (6, .int x6)] [] M) (body := F_Bridge_weakest_b10) ?_ FUEL _ _ _ _ _ (wpO_bind h)
    intro P10 E10 X10
    have J67 : ∀ (x6 : Int32) (M : Mem), wpO (F_Bridge_weakest_j67 x6 M) P10 → GG p l e { frames := 4, cells := 0, slots := 0, locals := 104 } s m args below meth c g 7 (vx_MQ below (Qn g s.heap.size (.inl (some (.int rr))) MZ) (QX g s.heap.size (.inl (some (.int rr))) MZ) args s 0 0 (AS g s.heap.size)) 0 0 67 [(0, .ref (g.2.1 91)), (6, .int x6)] [] M := by
      intro x6 M h
      unfold F_Bridge_weakest_j67 at h
      refine G_iload 1 rfl K dX1_weakest_67 ?_
      refine G_istore_n rfl K dX1_weakest_69 (Nat.le_of_ble_eq_true rfl) rfl ?_
      refine G_aload_n rfl 1 rfl K dX1_weakest_70 ?_
      refine G_get (ci := 1) (k := 1) K rfl in_X1 wd_394 rfl dX1_weakest_71 (Nat.le_of_ble_eq_true rfl) (sh_91 _ _) (Nat.le_of_ble_eq_true rfl) rfl ?_
      refine G_get (ci := 5) (k := 0) K rfl in_X5 wd_381 rfl dX1_weakest_74 (Nat.le_of_ble_eq_true rfl) (sh_92 _ _) (Nat.le_of_ble_eq_true rfl) rfl ?_
      refine G_lstore_n rfl K dX1_weakest_77 (Nat.le_of_ble_eq_true rfl) rfl ?_
      refine G_aload_n rfl 2 rfl K dX1_weakest_78 ?_
      refine G_get (ci := 1) (k := 1) K rfl in_X1 wd_394 rfl dX1_weakest_79 (Nat.le_of_ble_eq_true rfl) (sh_91 _ _) (Nat.le_of_ble_eq_true rfl) rfl ?_
      refine G_get (ci := 5) (k := 1) K rfl in_X5 wd_385 rfl dX1_weakest_82 (Nat.le_of_ble_eq_true rfl) (sh_92 _ _) (Nat.le_of_ble_eq_true rfl) rfl ?_
      refine G_lstore K dX1_weakest_85 (Nat.le_of_ble_eq_true rfl) rfl ?_
      refine G_iinc (v := x6 + 1) 4 rfl K dX1_weakest_87 rfl (Nat.le_of_ble_eq_true rfl) rfl ?_
      refine G_goto (tgt := 10) K dX1_weakest_90 (by decide) ?_
      exact G_lv (lv' := [(0, .ref (g.2.1 91)), (1, .int x6), (2, .long (M.2 92 0)), (4, .long (M.2 92 1)), (6, .int (x6 + 1))]) [4, 3, 2, 1, 0] rfl (E10 x6 (M.2 92 0) (M.2 92 1) (x6 + 1) M (wpO_some h))
    intro z h
    unfold F_Bridge_weakest_b10 at h
    refine G_iload 4 rfl K dX1_weakest_10 ?_
    refine G_aload_n rfl 0 rfl K dX1_weakest_12 ?_
    refine G_get (ci := 1) (k := 0) K rfl in_X1 wd_393 rfl dX1_weakest_13 (Nat.le_of_ble_eq_true rfl) (sh_91 _ _) (Nat.le_of_ble_eq_true rfl) rfl ?_
    refine G_get (ci := 10) (k := 8) K rfl in_X10 wd_92 rfl dX1_weakest_16 (Nat.le_of_ble_eq_true rfl) (sh_1 _ _) (Nat.le_of_ble_eq_true rfl) rfl ?_
    refine G_icmp_ge (tgt := 93) K dX1_weakest_19 (by decide) (fun hc => ?_) (fun hc => ?_)
    · have h := wpO_t h hc
      have h := X10 _ (wpO_some h)
      try dsimp only at h
      refine G_iload_n rfl 1 rfl K dX1_weakest_93 ?_
      cases hPHI _ (wpO_some h)
      exact G_iret K hr rfl dX1_weakest_94 (Nat.le_of_ble_eq_true rfl) (Nat.le_of_ble_eq_true rfl) ⟨rfl, rfl⟩
    · have h := wpO_f h hc
      refine G_aload_n rfl 0 rfl K dX1_weakest_22 ?_
      refine G_iload 4 rfl K dX1_weakest_23 ?_
      refine G_aload_n rfl 0 rfl K dX1_weakest_25 ?_
      refine G_get (ci := 1) (k := 0) K rfl in_X1 wd_393 rfl dX1_weakest_26 (Nat.le_of_ble_eq_true rfl) (sh_91 _ _) (Nat.le_of_ble_eq_true rfl) rfl ?_
      refine G_get (ci := 10) (k := 8) K rfl in_X10 wd_92 rfl dX1_weakest_29 (Nat.le_of_ble_eq_true rfl) (sh_1 _ _) (Nat.le_of_ble_eq_true rfl) rfl ?_
      refine G_aload_n rfl 0 rfl K dX1_weakest_32 ?_
      refine G_get (ci := 1) (k := 1) K rfl in_X1 wd_394 rfl dX1_weakest_33 (Nat.le_of_ble_eq_true rfl) (sh_91 _ _) (Nat.le_of_ble_eq_true rfl) rfl ?_
      obtain ⟨r1, e1, h⟩ := wpO_bind h
      refine G_callVv (ci := 1) [.int z.2.2.2.1, .int (z.2.2.2.2.1 1 8), .ref (g.2.1 92)] [] K dX1_weakest_36 wv_1454 yd_X1_tellEdge (Nat.le_of_ble_eq_true rfl) (sh_91 _ _) rfl (by decide) (by decide) rfl rfl (Nat.le_of_ble_eq_true rfl) (K_Bridge_tellEdge l g htr 92 isFrac_92 z.2.2.2.1 (z.2.2.2.2.1 1 8) z.2.2.2.2 _ e1) ?_
      refine G_iload_n rfl 1 rfl K dX1_weakest_39 ?_
      refine G_iconst (v := (-1)) rfl K dX1_weakest_40 ?_
      refine G_icmp_eq (tgt := 67) K dX1_weakest_41 (by decide) (fun hc => ?_) (fun hc => ?_)
      · have h := wpO_t h hc
        exact G_lv (lv' := [(0, .ref (g.2.1 91)), (6, .int z.2.2.2.1)]) [0, 4] rfl (J67 z.2.2.2.1 r1 h)
      · have h := wpO_f h hc
        refine G_aload_n rfl 0 rfl K dX1_weakest_44 ?_
        refine G_get (ci := 1) (k := 1) K rfl in_X1 wd_394 rfl dX1_weakest_45 (Nat.le_of_ble_eq_true rfl) (sh_91 _ _) (Nat.le_of_ble_eq_true rfl) rfl ?_
        refine G_get (ci := 5) (k := 0) K rfl in_X5 wd_381 rfl dX1_weakest_48 (Nat.le_of_ble_eq_true rfl) (sh_92 _ _) (Nat.le_of_ble_eq_true rfl) rfl ?_
        refine G_lload 3 rfl K dX1_weakest_51 ?_
        refine G_lmul K dX1_weakest_53 ?_
        refine G_lload_n rfl 2 rfl K dX1_weakest_54 ?_
        refine G_aload_n rfl 0 rfl K dX1_weakest_55 ?_
        refine G_get (ci := 1) (k := 1) K rfl in_X1 wd_394 rfl dX1_weakest_56 (Nat.le_of_ble_eq_true rfl) (sh_91 _ _) (Nat.le_of_ble_eq_true rfl) rfl ?_
        refine G_get (ci := 5) (k := 1) K rfl in_X5 wd_385 rfl dX1_weakest_59 (Nat.le_of_ble_eq_true rfl) (sh_92 _ _) (Nat.le_of_ble_eq_true rfl) rfl ?_
        refine G_lmul K dX1_weakest_62 ?_
        refine G_lcmp_le (tgt := 87) K dX1_weakest_63 dX1_weakest_64 (by decide) (fun hc => ?_) (fun hc => ?_)
        · have h := wpO_t h hc
          refine G_iinc (v := z.2.2.2.1 + 1) 4 rfl K dX1_weakest_87 rfl (Nat.le_of_ble_eq_true rfl) rfl ?_
          refine G_goto (tgt := 10) K dX1_weakest_90 (by decide) ?_
          exact G_lv (lv' := [(0, .ref (g.2.1 91)), (1, .int z.1), (2, .long z.2.1), (4, .long z.2.2.1), (6, .int (z.2.2.2.1 + 1))]) [1, 2, 3, 4, 0] rfl (E10 z.1 z.2.1 z.2.2.1 (z.2.2.2.1 + 1) r1 (wpO_some h))
        · have h := wpO_f h hc
          exact G_lv (lv' := [(0, .ref (g.2.1 91)), (6, .int z.2.2.2.1)]) [0, 4] rfl (J67 z.2.2.2.1 r1 h)
  unfold F_Bridge_weakest at h
  refine G_iconst (v := (-1)) rfl K dX1_weakest_0 ?_
  refine G_istore_n rfl K dX1_weakest_1 (Nat.le_of_ble_eq_true rfl) rfl ?_
  refine G_lconst (v := 0) rfl K dX1_weakest_2 ?_
  refine G_lstore_n rfl K dX1_weakest_3 (Nat.le_of_ble_eq_true rfl) rfl ?_
  refine G_lconst (v := 1) rfl K dX1_weakest_4 ?_
  refine G_lstore K dX1_weakest_5 (Nat.le_of_ble_eq_true rfl) rfl ?_
  refine G_iconst (v := 0) rfl K dX1_weakest_7 ?_
  refine G_istore K dX1_weakest_8 (Nat.le_of_ble_eq_true rfl) rfl ?_
  exact G_lv (lv' := [(0, .ref (g.2.1 91)), (1, .int ((-1))), (2, .long 0), (4, .long 1), (6, .int 0)]) [4, 3, 2, 1, 0] rfl (J10 ((-1)) 0 1 0 M h)
theorem drJ6_bitCount_0f7a4_0 : ([(0, (.iload_n 0), 1), (1, (.iload_n 0), 1), (2, (.iconst 1), 1), (3, .iushr, 1), (4, (.ldc_w 265), 3), (7, .iand, 1), (8, .isub, 1), (9, (.istore_n 0), 1), (10, (.iload_n 0), 1), (11, (.ldc_w 266), 3), (14, .iand, 1), (15, (.iload_n 0), 1), (16, (.iconst 2), 1), (17, .iushr, 1), (18, (.ldc_w 266), 3), (21, .iand, 1), (22, .iadd, 1), (23, (.istore_n 0), 1), (24, (.iload_n 0), 1), (25, (.iload_n 0), 1), (26, (.iconst 4), 1), (27, .iushr, 1), (28, .iadd, 1), (29, (.ldc_w 267), 3), (32, .iand, 1), (33, (.istore_n 0), 1), (34, (.iload_n 0), 1), (35, (.iload_n 0), 1), (36, (.bipush 8), 2), (38, .iushr, 1), (39, .iadd, 1), (40, (.istore_n 0), 1), (41, (.iload_n 0), 1), (42, (.iload_n 0), 1), (43, (.bipush 16), 2), (45, .iushr, 1), (46, .iadd, 1), (47, (.istore_n 0), 1), (48, (.iload_n 0), 1), (49, (.bipush 63), 2), (51, .iand, 1), (52, .ireturn, 1)] : List (Nat × Instr × Nat)).all (fun q => decide (decode cJ6_bitCount_0f7a4 q.1 = .ok q.2)) = true := by decide +kernel
theorem dJ6_bitCount_0f7a4_0 : dc cJ6_bitCount_0f7a4 0 1 (.iload_n 0) 1 := ⟨dr_at drJ6_bitCount_0f7a4_0 (i := 0) rfl, rfl⟩
theorem dJ6_bitCount_0f7a4_1 : dc cJ6_bitCount_0f7a4 1 2 (.iload_n 0) 1 := ⟨dr_at drJ6_bitCount_0f7a4_0 (i := 1) rfl, rfl⟩
theorem dJ6_bitCount_0f7a4_2 : dc cJ6_bitCount_0f7a4 2 3 (.iconst 1) 1 := ⟨dr_at drJ6_bitCount_0f7a4_0 (i := 2) rfl, rfl⟩
theorem dJ6_bitCount_0f7a4_3 : dc cJ6_bitCount_0f7a4 3 4 .iushr 1 := ⟨dr_at drJ6_bitCount_0f7a4_0 (i := 3) rfl, rfl⟩
theorem dJ6_bitCount_0f7a4_4 : dc cJ6_bitCount_0f7a4 4 7 (.ldc_w 265) 3 := ⟨dr_at drJ6_bitCount_0f7a4_0 (i := 4) rfl, rfl⟩
theorem dJ6_bitCount_0f7a4_7 : dc cJ6_bitCount_0f7a4 7 8 .iand 1 := ⟨dr_at drJ6_bitCount_0f7a4_0 (i := 5) rfl, rfl⟩
theorem dJ6_bitCount_0f7a4_8 : dc cJ6_bitCount_0f7a4 8 9 .isub 1 := ⟨dr_at drJ6_bitCount_0f7a4_0 (i := 6) rfl, rfl⟩
theorem dJ6_bitCount_0f7a4_9 : dc cJ6_bitCount_0f7a4 9 10 (.istore_n 0) 1 := ⟨dr_at drJ6_bitCount_0f7a4_0 (i := 7) rfl, rfl⟩
theorem dJ6_bitCount_0f7a4_10 : dc cJ6_bitCount_0f7a4 10 11 (.iload_n 0) 1 := ⟨dr_at drJ6_bitCount_0f7a4_0 (i := 8) rfl, rfl⟩
theorem dJ6_bitCount_0f7a4_11 : dc cJ6_bitCount_0f7a4 11 14 (.ldc_w 266) 3 := ⟨dr_at drJ6_bitCount_0f7a4_0 (i := 9) rfl, rfl⟩
theorem dJ6_bitCount_0f7a4_14 : dc cJ6_bitCount_0f7a4 14 15 .iand 1 := ⟨dr_at drJ6_bitCount_0f7a4_0 (i := 10) rfl, rfl⟩
theorem dJ6_bitCount_0f7a4_15 : dc cJ6_bitCount_0f7a4 15 16 (.iload_n 0) 1 := ⟨dr_at drJ6_bitCount_0f7a4_0 (i := 11) rfl, rfl⟩
theorem dJ6_bitCount_0f7a4_16 : dc cJ6_bitCount_0f7a4 16 17 (.iconst 2) 1 := ⟨dr_at drJ6_bitCount_0f7a4_0 (i := 12) rfl, rfl⟩
theorem dJ6_bitCount_0f7a4_17 : dc cJ6_bitCount_0f7a4 17 18 .iushr 1 := ⟨dr_at drJ6_bitCount_0f7a4_0 (i := 13) rfl, rfl⟩
theorem dJ6_bitCount_0f7a4_18 : dc cJ6_bitCount_0f7a4 18 21 (.ldc_w 266) 3 := ⟨dr_at drJ6_bitCount_0f7a4_0 (i := 14) rfl, rfl⟩
theorem dJ6_bitCount_0f7a4_21 : dc cJ6_bitCount_0f7a4 21 22 .iand 1 := ⟨dr_at drJ6_bitCount_0f7a4_0 (i := 15) rfl, rfl⟩
theorem dJ6_bitCount_0f7a4_22 : dc cJ6_bitCount_0f7a4 22 23 .iadd 1 := ⟨dr_at drJ6_bitCount_0f7a4_0 (i := 16) rfl, rfl⟩
theorem dJ6_bitCount_0f7a4_23 : dc cJ6_bitCount_0f7a4 23 24 (.istore_n 0) 1 := ⟨dr_at drJ6_bitCount_0f7a4_0 (i := 17) rfl, rfl⟩
theorem dJ6_bitCount_0f7a4_24 : dc cJ6_bitCount_0f7a4 24 25 (.iload_n 0) 1 := ⟨dr_at drJ6_bitCount_0f7a4_0 (i := 18) rfl, rfl⟩
theorem dJ6_bitCount_0f7a4_25 : dc cJ6_bitCount_0f7a4 25 26 (.iload_n 0) 1 := ⟨dr_at drJ6_bitCount_0f7a4_0 (i := 19) rfl, rfl⟩
theorem dJ6_bitCount_0f7a4_26 : dc cJ6_bitCount_0f7a4 26 27 (.iconst 4) 1 := ⟨dr_at drJ6_bitCount_0f7a4_0 (i := 20) rfl, rfl⟩
theorem dJ6_bitCount_0f7a4_27 : dc cJ6_bitCount_0f7a4 27 28 .iushr 1 := ⟨dr_at drJ6_bitCount_0f7a4_0 (i := 21) rfl, rfl⟩
theorem dJ6_bitCount_0f7a4_28 : dc cJ6_bitCount_0f7a4 28 29 .iadd 1 := ⟨dr_at drJ6_bitCount_0f7a4_0 (i := 22) rfl, rfl⟩
theorem dJ6_bitCount_0f7a4_29 : dc cJ6_bitCount_0f7a4 29 32 (.ldc_w 267) 3 := ⟨dr_at drJ6_bitCount_0f7a4_0 (i := 23) rfl, rfl⟩
theorem dJ6_bitCount_0f7a4_32 : dc cJ6_bitCount_0f7a4 32 33 .iand 1 := ⟨dr_at drJ6_bitCount_0f7a4_0 (i := 24) rfl, rfl⟩
theorem dJ6_bitCount_0f7a4_33 : dc cJ6_bitCount_0f7a4 33 34 (.istore_n 0) 1 := ⟨dr_at drJ6_bitCount_0f7a4_0 (i := 25) rfl, rfl⟩
theorem dJ6_bitCount_0f7a4_34 : dc cJ6_bitCount_0f7a4 34 35 (.iload_n 0) 1 := ⟨dr_at drJ6_bitCount_0f7a4_0 (i := 26) rfl, rfl⟩
theorem dJ6_bitCount_0f7a4_35 : dc cJ6_bitCount_0f7a4 35 36 (.iload_n 0) 1 := ⟨dr_at drJ6_bitCount_0f7a4_0 (i := 27) rfl, rfl⟩
theorem dJ6_bitCount_0f7a4_36 : dc cJ6_bitCount_0f7a4 36 38 (.bipush 8) 2 := ⟨dr_at drJ6_bitCount_0f7a4_0 (i := 28) rfl, rfl⟩
theorem dJ6_bitCount_0f7a4_38 : dc cJ6_bitCount_0f7a4 38 39 .iushr 1 := ⟨dr_at drJ6_bitCount_0f7a4_0 (i := 29) rfl, rfl⟩
theorem dJ6_bitCount_0f7a4_39 : dc cJ6_bitCount_0f7a4 39 40 .iadd 1 := ⟨dr_at drJ6_bitCount_0f7a4_0 (i := 30) rfl, rfl⟩
theorem dJ6_bitCount_0f7a4_40 : dc cJ6_bitCount_0f7a4 40 41 (.istore_n 0) 1 := ⟨dr_at drJ6_bitCount_0f7a4_0 (i := 31) rfl, rfl⟩
theorem dJ6_bitCount_0f7a4_41 : dc cJ6_bitCount_0f7a4 41 42 (.iload_n 0) 1 := ⟨dr_at drJ6_bitCount_0f7a4_0 (i := 32) rfl, rfl⟩
theorem dJ6_bitCount_0f7a4_42 : dc cJ6_bitCount_0f7a4 42 43 (.iload_n 0) 1 := ⟨dr_at drJ6_bitCount_0f7a4_0 (i := 33) rfl, rfl⟩
theorem dJ6_bitCount_0f7a4_43 : dc cJ6_bitCount_0f7a4 43 45 (.bipush 16) 2 := ⟨dr_at drJ6_bitCount_0f7a4_0 (i := 34) rfl, rfl⟩
theorem dJ6_bitCount_0f7a4_45 : dc cJ6_bitCount_0f7a4 45 46 .iushr 1 := ⟨dr_at drJ6_bitCount_0f7a4_0 (i := 35) rfl, rfl⟩
theorem dJ6_bitCount_0f7a4_46 : dc cJ6_bitCount_0f7a4 46 47 .iadd 1 := ⟨dr_at drJ6_bitCount_0f7a4_0 (i := 36) rfl, rfl⟩
theorem dJ6_bitCount_0f7a4_47 : dc cJ6_bitCount_0f7a4 47 48 (.istore_n 0) 1 := ⟨dr_at drJ6_bitCount_0f7a4_0 (i := 37) rfl, rfl⟩
theorem dJ6_bitCount_0f7a4_48 : dc cJ6_bitCount_0f7a4 48 49 (.iload_n 0) 1 := ⟨dr_at drJ6_bitCount_0f7a4_0 (i := 38) rfl, rfl⟩
theorem dJ6_bitCount_0f7a4_49 : dc cJ6_bitCount_0f7a4 49 51 (.bipush 63) 2 := ⟨dr_at drJ6_bitCount_0f7a4_0 (i := 39) rfl, rfl⟩
theorem dJ6_bitCount_0f7a4_51 : dc cJ6_bitCount_0f7a4 51 52 .iand 1 := ⟨dr_at drJ6_bitCount_0f7a4_0 (i := 40) rfl, rfl⟩
theorem dJ6_bitCount_0f7a4_52 : dc cJ6_bitCount_0f7a4 52 53 .ireturn 1 := ⟨dr_at drJ6_bitCount_0f7a4_0 (i := 41) rfl, rfl⟩
def F_Integer_bitCount (x0 : Int32) (M : Mem) : Option (Int32) :=
  some ((((((((x0 - ((ush x0 1) &&& 1431655765)) &&& 858993459) + ((ush (x0 - ((ush x0 1) &&& 1431655765)) 2) &&& 858993459)) + (ush (((x0 - ((ush x0 1) &&& 1431655765)) &&& 858993459) + ((ush (x0 - ((ush x0 1) &&& 1431655765)) 2) &&& 858993459)) 4)) &&& 252645135) + (ush (((((x0 - ((ush x0 1) &&& 1431655765)) &&& 858993459) + ((ush (x0 - ((ush x0 1) &&& 1431655765)) 2) &&& 858993459)) + (ush (((x0 - ((ush x0 1) &&& 1431655765)) &&& 858993459) + ((ush (x0 - ((ush x0 1) &&& 1431655765)) 2) &&& 858993459)) 4)) &&& 252645135) 8)) + (ush ((((((x0 - ((ush x0 1) &&& 1431655765)) &&& 858993459) + ((ush (x0 - ((ush x0 1) &&& 1431655765)) 2) &&& 858993459)) + (ush (((x0 - ((ush x0 1) &&& 1431655765)) &&& 858993459) + ((ush (x0 - ((ush x0 1) &&& 1431655765)) 2) &&& 858993459)) 4)) &&& 252645135) + (ush (((((x0 - ((ush x0 1) &&& 1431655765)) &&& 858993459) + ((ush (x0 - ((ush x0 1) &&& 1431655765)) 2) &&& 858993459)) + (ush (((x0 - ((ush x0 1) &&& 1431655765)) &&& 858993459) + ((ush (x0 - ((ush x0 1) &&& 1431655765)) 2) &&& 858993459)) 4)) &&& 252645135) 8)) 16)) &&& 63)
set_option maxRecDepth 100000 in
set_option maxHeartbeats 4000000 in
theorem K_Integer_bitCount (l : Launch) (g : GB) (htr : l.stackTraces = false) (x0 : Int32) (M : Mem) (rr : Int32) (h : F_Integer_bitCount x0 M = some rr) : CT l g yJ6_bitCount_0f7a4 (.code yJ6_bitCount_0f7a4 cJ6_bitCount_0f7a4 1 (some .int) :: wAll) { frames := 0, cells := 0, slots := 0, locals := 0 } [.int x0] M (.inl (some (.int rr))) M := by
  refine CT.of [(0, .int x0)] (by decide +kernel) (Nat.le_of_ble_eq_true rfl) rfl htr ?_
  intro p e s m args below meth c K hr ht
  skip
  obtain ⟨PHI, hPHI, h⟩ : ∃ PHI : Int32 → Prop, (∀ a, PHI a → a = rr) ∧ wpO (F_Integer_bitCount x0 M) PHI := ⟨fun a => a = rr, fun _ h => h, _, h, rfl⟩
  unfold F_Integer_bitCount at h
  refine G_iload_n rfl 0 rfl K dJ6_bitCount_0f7a4_0 ?_
  refine G_iload_n rfl 0 rfl K dJ6_bitCount_0f7a4_1 ?_
  refine G_iconst (v := 1) rfl K dJ6_bitCount_0f7a4_2 ?_
  refine G_iushr K dJ6_bitCount_0f7a4_3 ?_
  refine G_ldc_w (v := 1431655765) K dJ6_bitCount_0f7a4_4 wd_1462 ?_
  refine G_iand K dJ6_bitCount_0f7a4_7 ?_
  refine G_isub K dJ6_bitCount_0f7a4_8 ?_
  refine G_istore_n rfl K dJ6_bitCount_0f7a4_9 (Nat.le_of_ble_eq_true rfl) rfl ?_
  refine G_iload_n rfl 0 rfl K dJ6_bitCount_0f7a4_10 ?_
  refine G_ldc_w (v := 858993459) K dJ6_bitCount_0f7a4_11 wd_1463 ?_
  refine G_iand K dJ6_bitCount_0f7a4_14 ?_
  refine G_iload_n rfl 0 rfl K dJ6_bitCount_0f7a4_15 ?_
  refine G_iconst (v := 2) rfl K dJ6_bitCount_0f7a4_16 ?_
  refine G_iushr K dJ6_bitCount_0f7a4_17 ?_
  refine G_ldc_w (v := 858993459) K dJ6_bitCount_0f7a4_18 wd_1463 ?_
  refine G_iand K dJ6_bitCount_0f7a4_21 ?_
  refine G_iadd K dJ6_bitCount_0f7a4_22 ?_
  refine G_istore_n rfl K dJ6_bitCount_0f7a4_23 (Nat.le_of_ble_eq_true rfl) rfl ?_
  refine G_iload_n rfl 0 rfl K dJ6_bitCount_0f7a4_24 ?_
  refine G_iload_n rfl 0 rfl K dJ6_bitCount_0f7a4_25 ?_
  refine G_iconst (v := 4) rfl K dJ6_bitCount_0f7a4_26 ?_
  refine G_iushr K dJ6_bitCount_0f7a4_27 ?_
  refine G_iadd K dJ6_bitCount_0f7a4_28 ?_
  refine G_ldc_w (v := 252645135) K dJ6_bitCount_0f7a4_29 wd_1464 ?_
  refine G_iand K dJ6_bitCount_0f7a4_32 ?_
  refine G_istore_n rfl K dJ6_bitCount_0f7a4_33 (Nat.le_of_ble_eq_true rfl) rfl ?_
  refine G_iload_n rfl 0 rfl K dJ6_bitCount_0f7a4_34 ?_
  refine G_iload_n rfl 0 rfl K dJ6_bitCount_0f7a4_35 ?_
  refine G_bipush (v := 8) rfl K dJ6_bitCount_0f7a4_36 ?_
  refine G_iushr K dJ6_bitCount_0f7a4_38 ?_
  refine G_iadd K dJ6_bitCount_0f7a4_39 ?_
  refine G_istore_n rfl K dJ6_bitCount_0f7a4_40 (Nat.le_of_ble_eq_true rfl) rfl ?_
  refine G_iload_n rfl 0 rfl K dJ6_bitCount_0f7a4_41 ?_
  refine G_iload_n rfl 0 rfl K dJ6_bitCount_0f7a4_42 ?_
  refine G_bipush (v := 16) rfl K dJ6_bitCount_0f7a4_43 ?_
  refine G_iushr K dJ6_bitCount_0f7a4_45 ?_
  refine G_iadd K dJ6_bitCount_0f7a4_46 ?_
  refine G_istore_n rfl K dJ6_bitCount_0f7a4_47 (Nat.le_of_ble_eq_true rfl) rfl ?_
  refine G_iload_n rfl 0 rfl K dJ6_bitCount_0f7a4_48 ?_
  refine G_bipush (v := 63) rfl K dJ6_bitCount_0f7a4_49 ?_
  refine G_iand K dJ6_bitCount_0f7a4_51 ?_
  cases hPHI _ (wpO_some h)
  exact G_iret K hr rfl dJ6_bitCount_0f7a4_52 (Nat.le_of_ble_eq_true rfl) (Nat.le_of_ble_eq_true rfl) ⟨rfl, rfl⟩
theorem yd_J6_bitCount_0f7a4 : ydN yJ6_bitCount_0f7a4 1 := ⟨by decide, by decide, by decide +kernel⟩
theorem wv_1459 : wdS "KeptWell$Bridge" 56 yJ6_bitCount_0f7a4 cJ6_bitCount_0f7a4 1 (some .int) := ⟨wd_1459, wd_1460, wd_27, wd_1461⟩
theorem drX1_isHeldWithout_0 : ([(0, (.aload_n 0), 1), (1, (.getfield 18), 3), (4, (.getfield 41), 3), (7, (.iload_n 1), 1), (8, (.invokestatic 56), 3), (11, .isub, 1), (12, (.istore_n 2), 1), (13, (.iconst 0), 1), (14, (.istore_n 3), 1), (15, (.iload_n 3), 1), (16, (.aload_n 0), 1), (17, (.getfield 18), 3), (20, (.getfield 41), 3), (23, (.if_icmp .ge 65), 3), (26, (.iload_n 1), 1), (27, (.iload_n 3), 1), (28, .ishr, 1), (29, (.iconst 1), 1), (30, .iand, 1), (31, (.ifCond .ne 51), 3), (34, (.aload_n 0), 1), (35, (.iload_n 3), 1), (36, (.iload_n 2), 1), (37, (.aload_n 0), 1), (38, (.getfield 12), 3), (41, (.invokevirtual 45), 3), (44, (.aload_n 0), 1), (45, (.getfield 18), 3), (48, (.getfield 62), 3), (51, .i2l, 1), (52, (.aload_n 0), 1), (53, (.getfield 12), 3), (56, (.getfield 53), 3), (59, .lmul, 1), (60, (.aload_n 0), 1), (61, (.getfield 12), 3), (64, (.getfield 49), 3), (67, (.aload_n 0), 1), (68, (.getfield 18), 3), (71, (.getfield 65), 3), (74, .i2l, 1), (75, .lmul, 1), (76, .lcmp, 1), (77, (.ifCond .ge 5), 3), (80, (.iconst 0), 1), (81, .ireturn, 1), (82, (.iinc 3 1), 3), (85, (.goto (-70)), 3), (88, (.iconst 1), 1), (89, .ireturn, 1)] : List (Nat × Instr × Nat)).all (fun q => decide (decode cX1_isHeldWithout q.1 = .ok q.2)) = true := by decide +kernel
theorem dX1_isHeldWithout_0 : dc cX1_isHeldWithout 0 1 (.aload_n 0) 1 := ⟨dr_at drX1_isHeldWithout_0 (i := 0) rfl, rfl⟩
theorem dX1_isHeldWithout_1 : dc cX1_isHeldWithout 1 4 (.getfield 18) 3 := ⟨dr_at drX1_isHeldWithout_0 (i := 1) rfl, rfl⟩
theorem dX1_isHeldWithout_4 : dc cX1_isHeldWithout 4 7 (.getfield 41) 3 := ⟨dr_at drX1_isHeldWithout_0 (i := 2) rfl, rfl⟩
theorem dX1_isHeldWithout_7 : dc cX1_isHeldWithout 7 8 (.iload_n 1) 1 := ⟨dr_at drX1_isHeldWithout_0 (i := 3) rfl, rfl⟩
theorem dX1_isHeldWithout_8 : dc cX1_isHeldWithout 8 11 (.invokestatic 56) 3 := ⟨dr_at drX1_isHeldWithout_0 (i := 4) rfl, rfl⟩
theorem dX1_isHeldWithout_11 : dc cX1_isHeldWithout 11 12 .isub 1 := ⟨dr_at drX1_isHeldWithout_0 (i := 5) rfl, rfl⟩
theorem dX1_isHeldWithout_12 : dc cX1_isHeldWithout 12 13 (.istore_n 2) 1 := ⟨dr_at drX1_isHeldWithout_0 (i := 6) rfl, rfl⟩
theorem dX1_isHeldWithout_13 : dc cX1_isHeldWithout 13 14 (.iconst 0) 1 := ⟨dr_at drX1_isHeldWithout_0 (i := 7) rfl, rfl⟩
theorem dX1_isHeldWithout_14 : dc cX1_isHeldWithout 14 15 (.istore_n 3) 1 := ⟨dr_at drX1_isHeldWithout_0 (i := 8) rfl, rfl⟩
theorem dX1_isHeldWithout_15 : dc cX1_isHeldWithout 15 16 (.iload_n 3) 1 := ⟨dr_at drX1_isHeldWithout_0 (i := 9) rfl, rfl⟩
theorem dX1_isHeldWithout_16 : dc cX1_isHeldWithout 16 17 (.aload_n 0) 1 := ⟨dr_at drX1_isHeldWithout_0 (i := 10) rfl, rfl⟩
theorem dX1_isHeldWithout_17 : dc cX1_isHeldWithout 17 20 (.getfield 18) 3 := ⟨dr_at drX1_isHeldWithout_0 (i := 11) rfl, rfl⟩
theorem dX1_isHeldWithout_20 : dc cX1_isHeldWithout 20 23 (.getfield 41) 3 := ⟨dr_at drX1_isHeldWithout_0 (i := 12) rfl, rfl⟩
theorem dX1_isHeldWithout_23 : dc cX1_isHeldWithout 23 26 (.if_icmp .ge 65) 3 := ⟨dr_at drX1_isHeldWithout_0 (i := 13) rfl, rfl⟩
theorem dX1_isHeldWithout_26 : dc cX1_isHeldWithout 26 27 (.iload_n 1) 1 := ⟨dr_at drX1_isHeldWithout_0 (i := 14) rfl, rfl⟩
theorem dX1_isHeldWithout_27 : dc cX1_isHeldWithout 27 28 (.iload_n 3) 1 := ⟨dr_at drX1_isHeldWithout_0 (i := 15) rfl, rfl⟩
theorem dX1_isHeldWithout_28 : dc cX1_isHeldWithout 28 29 .ishr 1 := ⟨dr_at drX1_isHeldWithout_0 (i := 16) rfl, rfl⟩
theorem dX1_isHeldWithout_29 : dc cX1_isHeldWithout 29 30 (.iconst 1) 1 := ⟨dr_at drX1_isHeldWithout_0 (i := 17) rfl, rfl⟩
theorem dX1_isHeldWithout_30 : dc cX1_isHeldWithout 30 31 .iand 1 := ⟨dr_at drX1_isHeldWithout_0 (i := 18) rfl, rfl⟩
theorem dX1_isHeldWithout_31 : dc cX1_isHeldWithout 31 34 (.ifCond .ne 51) 3 := ⟨dr_at drX1_isHeldWithout_0 (i := 19) rfl, rfl⟩
theorem dX1_isHeldWithout_34 : dc cX1_isHeldWithout 34 35 (.aload_n 0) 1 := ⟨dr_at drX1_isHeldWithout_0 (i := 20) rfl, rfl⟩
theorem dX1_isHeldWithout_35 : dc cX1_isHeldWithout 35 36 (.iload_n 3) 1 := ⟨dr_at drX1_isHeldWithout_0 (i := 21) rfl, rfl⟩
theorem dX1_isHeldWithout_36 : dc cX1_isHeldWithout 36 37 (.iload_n 2) 1 := ⟨dr_at drX1_isHeldWithout_0 (i := 22) rfl, rfl⟩
theorem dX1_isHeldWithout_37 : dc cX1_isHeldWithout 37 38 (.aload_n 0) 1 := ⟨dr_at drX1_isHeldWithout_0 (i := 23) rfl, rfl⟩
theorem dX1_isHeldWithout_38 : dc cX1_isHeldWithout 38 41 (.getfield 12) 3 := ⟨dr_at drX1_isHeldWithout_0 (i := 24) rfl, rfl⟩
theorem dX1_isHeldWithout_41 : dc cX1_isHeldWithout 41 44 (.invokevirtual 45) 3 := ⟨dr_at drX1_isHeldWithout_0 (i := 25) rfl, rfl⟩
theorem dX1_isHeldWithout_44 : dc cX1_isHeldWithout 44 45 (.aload_n 0) 1 := ⟨dr_at drX1_isHeldWithout_0 (i := 26) rfl, rfl⟩
theorem dX1_isHeldWithout_45 : dc cX1_isHeldWithout 45 48 (.getfield 18) 3 := ⟨dr_at drX1_isHeldWithout_0 (i := 27) rfl, rfl⟩
theorem dX1_isHeldWithout_48 : dc cX1_isHeldWithout 48 51 (.getfield 62) 3 := ⟨dr_at drX1_isHeldWithout_0 (i := 28) rfl, rfl⟩
theorem dX1_isHeldWithout_51 : dc cX1_isHeldWithout 51 52 .i2l 1 := ⟨dr_at drX1_isHeldWithout_0 (i := 29) rfl, rfl⟩
theorem dX1_isHeldWithout_52 : dc cX1_isHeldWithout 52 53 (.aload_n 0) 1 := ⟨dr_at drX1_isHeldWithout_0 (i := 30) rfl, rfl⟩
theorem dX1_isHeldWithout_53 : dc cX1_isHeldWithout 53 56 (.getfield 12) 3 := ⟨dr_at drX1_isHeldWithout_0 (i := 31) rfl, rfl⟩
theorem dX1_isHeldWithout_56 : dc cX1_isHeldWithout 56 59 (.getfield 53) 3 := ⟨dr_at drX1_isHeldWithout_0 (i := 32) rfl, rfl⟩
theorem dX1_isHeldWithout_59 : dc cX1_isHeldWithout 59 60 .lmul 1 := ⟨dr_at drX1_isHeldWithout_0 (i := 33) rfl, rfl⟩
theorem dX1_isHeldWithout_60 : dc cX1_isHeldWithout 60 61 (.aload_n 0) 1 := ⟨dr_at drX1_isHeldWithout_0 (i := 34) rfl, rfl⟩
theorem dX1_isHeldWithout_61 : dc cX1_isHeldWithout 61 64 (.getfield 12) 3 := ⟨dr_at drX1_isHeldWithout_0 (i := 35) rfl, rfl⟩
theorem dX1_isHeldWithout_64 : dc cX1_isHeldWithout 64 67 (.getfield 49) 3 := ⟨dr_at drX1_isHeldWithout_0 (i := 36) rfl, rfl⟩
theorem dX1_isHeldWithout_67 : dc cX1_isHeldWithout 67 68 (.aload_n 0) 1 := ⟨dr_at drX1_isHeldWithout_0 (i := 37) rfl, rfl⟩
theorem dX1_isHeldWithout_68 : dc cX1_isHeldWithout 68 71 (.getfield 18) 3 := ⟨dr_at drX1_isHeldWithout_0 (i := 38) rfl, rfl⟩
theorem dX1_isHeldWithout_71 : dc cX1_isHeldWithout 71 74 (.getfield 65) 3 := ⟨dr_at drX1_isHeldWithout_0 (i := 39) rfl, rfl⟩
theorem dX1_isHeldWithout_74 : dc cX1_isHeldWithout 74 75 .i2l 1 := ⟨dr_at drX1_isHeldWithout_0 (i := 40) rfl, rfl⟩
theorem dX1_isHeldWithout_75 : dc cX1_isHeldWithout 75 76 .lmul 1 := ⟨dr_at drX1_isHeldWithout_0 (i := 41) rfl, rfl⟩
theorem dX1_isHeldWithout_76 : dc cX1_isHeldWithout 76 77 .lcmp 1 := ⟨dr_at drX1_isHeldWithout_0 (i := 42) rfl, rfl⟩
theorem dX1_isHeldWithout_77 : dc cX1_isHeldWithout 77 80 (.ifCond .ge 5) 3 := ⟨dr_at drX1_isHeldWithout_0 (i := 43) rfl, rfl⟩
theorem dX1_isHeldWithout_80 : dc cX1_isHeldWithout 80 81 (.iconst 0) 1 := ⟨dr_at drX1_isHeldWithout_0 (i := 44) rfl, rfl⟩
theorem dX1_isHeldWithout_81 : dc cX1_isHeldWithout 81 82 .ireturn 1 := ⟨dr_at drX1_isHeldWithout_0 (i := 45) rfl, rfl⟩
theorem dX1_isHeldWithout_82 : dc cX1_isHeldWithout 82 85 (.iinc 3 1) 3 := ⟨dr_at drX1_isHeldWithout_0 (i := 46) rfl, rfl⟩
theorem dX1_isHeldWithout_85 : dc cX1_isHeldWithout 85 88 (.goto (-70)) 3 := ⟨dr_at drX1_isHeldWithout_0 (i := 47) rfl, rfl⟩
theorem dX1_isHeldWithout_88 : dc cX1_isHeldWithout 88 89 (.iconst 1) 1 := ⟨dr_at drX1_isHeldWithout_0 (i := 48) rfl, rfl⟩
theorem dX1_isHeldWithout_89 : dc cX1_isHeldWithout 89 90 .ireturn 1 := ⟨dr_at drX1_isHeldWithout_0 (i := 49) rfl, rfl⟩
def F_Bridge_isHeldWithout_b15 (x1 : Int32) (x2 : Int32) (z : Int32 × Mem) : Option ((Int32 × Mem) ⊕ ((Mem) ⊕ ((Mem)))) :=
  if (z.2.1 1 8) ≤ z.1 then some (.inr (.inr z.2)) else if ((x1 >>> (z.1 &&& 31)) &&& 1) = 0 then (F_Bridge_tellEdge 92 z.1 x2 z.2).bind fun r2 => if ((r2.2 92 0) * ((r2.1 1 2).toInt64)) ≤ (((r2.1 1 1).toInt64) * (r2.2 92 1)) then some (.inl ((z.1 + 1, r2))) else some (.inr (.inl r2)) else some (.inl ((z.1 + 1, z.2)))
def F_Bridge_isHeldWithout_l15 (x1 : Int32) (x2 : Int32) (x3 : Int32) (M : Mem) : Option (Bool × Mem) :=
  (iter (F_Bridge_isHeldWithout_b15 x1 x2) FUEL (x3, M)).bind fun q => match q with
    | .inl r => some ((false, r))
    | .inr r => some ((true, r))
def F_Bridge_isHeldWithout (x1 : Int32) (M : Mem) : Option (Bool × Mem) :=
  (F_Integer_bitCount x1 M).bind fun r1 => F_Bridge_isHeldWithout_l15 x1 ((M.1 1 8) - r1) 0 M
set_option maxRecDepth 100000 in
set_option maxHeartbeats 4000000 in
theorem K_Bridge_isHeldWithout (l : Launch) (g : GB) (htr : l.stackTraces = false) (x1 : Int32) (M : Mem) (rr : Bool) (MZ : Mem) (h : F_Bridge_isHeldWithout x1 M = some (rr, MZ)) : CT l g yX1_isHeldWithout (.code yX1_isHeldWithout cX1_isHeldWithout 4 (some .boolean) :: wAll) { frames := 4, cells := 0, slots := 0, locals := 104 } [.ref (g.2.1 91), .int x1] M (.inl (some (.int (b2i rr)))) MZ := by
  refine CT.of [(0, .ref (g.2.1 91)), (1, .int x1)] (by decide +kernel) (Nat.le_of_ble_eq_true rfl) rfl htr ?_
  intro p e s m args below meth c K hr ht
  skip
  obtain ⟨PHI, hPHI, h⟩ : ∃ PHI : Bool × Mem → Prop, (∀ a, PHI a → a = (rr, MZ)) ∧ wpO (F_Bridge_isHeldWithout x1 M) PHI := ⟨fun a => a = (rr, MZ), fun _ h => h, _, h, rfl⟩
  have J15 : ∀ (x1 : Int32) (x2 : Int32) (x3 : Int32) (M : Mem), wpO (F_Bridge_isHeldWithout_l15 x1 x2 x3 M) PHI → GG p l e { frames := 4, cells := 0, slots := 0, locals := 104 } s m args below meth c g 4 (vx_MQ below (Qn g s.heap.size (.inl (some (.int (b2i rr)))) MZ) (QX g s.heap.size (.inl (some (.int (b2i rr)))) MZ) args s 0 0 (AS g s.heap.size)) 0 0 15 [(0, .ref (g.2.1 91)), (1, .int x1), (2, .int x2), (3, .int x3)] [] M := by
    intro x1 x2 x3 M h
    unfold F_Bridge_isHeldWithout_l15 at h
    refine loop_C2 (G := fun (x3 : Int32) (M : Mem) => GG p l e { frames := 4, cells := 0, slots := 0, locals := 104 } s m args below meth c g 4 (vx_MQ below (Qn g s.heap.size (.inl (some (.int (b2i rr)))) MZ) (QX g s.heap.size (.inl (some (.int (b2i rr)))) MZ) args s 0 0 (AS g s.heap.size)) 0 0 15 [(0, .ref (g.2.1 91)), (1, .int x1), (2, .int x2), (3, .int x3)] [] M) (body := F_Bridge_isHeldWithout_b15 x1 x2) ?_ FUEL _ _ (wpO_bind h)
    intro P15 E15 X15
    intro z h
    unfold F_Bridge_isHeldWithout_b15 at h
    refine G_iload_n rfl 3 rfl K dX1_isHeldWithout_15 ?_
    refine G_aload_n rfl 0 rfl K dX1_isHeldWithout_16 ?_
    refine G_get (ci := 1) (k := 0) K rfl in_X1 wd_393 rfl dX1_isHeldWithout_17 (Nat.le_of_ble_eq_true rfl) (sh_91 _ _) (Nat.le_of_ble_eq_true rfl) rfl ?_
    refine G_get (ci := 10) (k := 8) K rfl in_X10 wd_92 rfl dX1_isHeldWithout_20 (Nat.le_of_ble_eq_true rfl) (sh_1 _ _) (Nat.le_of_ble_eq_true rfl) rfl ?_
    refine G_icmp_ge (tgt := 88) K dX1_isHeldWithout_23 (by decide) (fun hc => ?_) (fun hc => ?_)
    · have h := wpO_t h hc
      have h := X15 _ (wpO_some h)
      try dsimp only at h
      refine G_iconst (v := 1) rfl K dX1_isHeldWithout_88 ?_
      cases hPHI _ (wpO_some h)
      exact G_iret K hr rfl dX1_isHeldWithout_89 (Nat.le_of_ble_eq_true rfl) (Nat.le_of_ble_eq_true rfl) ⟨rfl, rfl⟩
    · have h := wpO_f h hc
      refine G_iload_n rfl 1 rfl K dX1_isHeldWithout_26 ?_
      refine G_iload_n rfl 3 rfl K dX1_isHeldWithout_27 ?_
      refine G_ishr K dX1_isHeldWithout_28 ?_
      refine G_iconst (v := 1) rfl K dX1_isHeldWithout_29 ?_
      refine G_iand K dX1_isHeldWithout_30 ?_
      refine G_if_ne (tgt := 82) K dX1_isHeldWithout_31 (by decide) (fun hc => ?_) (fun hc => ?_)
      · have h := wpO_f h hc
        refine G_iinc (v := z.1 + 1) 3 rfl K dX1_isHeldWithout_82 rfl (Nat.le_of_ble_eq_true rfl) rfl ?_
        refine G_goto (tgt := 15) K dX1_isHeldWithout_85 (by decide) ?_
        exact G_lv (lv' := [(0, .ref (g.2.1 91)), (1, .int x1), (2, .int x2), (3, .int (z.1 + 1))]) [1, 2, 3, 0] rfl (E15 (z.1 + 1) z.2 (wpO_some h))
      · have h := wpO_t h hc
        refine G_aload_n rfl 0 rfl K dX1_isHeldWithout_34 ?_
        refine G_iload_n rfl 3 rfl K dX1_isHeldWithout_35 ?_
        refine G_iload_n rfl 2 rfl K dX1_isHeldWithout_36 ?_
        refine G_aload_n rfl 0 rfl K dX1_isHeldWithout_37 ?_
        refine G_get (ci := 1) (k := 1) K rfl in_X1 wd_394 rfl dX1_isHeldWithout_38 (Nat.le_of_ble_eq_true rfl) (sh_91 _ _) (Nat.le_of_ble_eq_true rfl) rfl ?_
        obtain ⟨r2, e2, h⟩ := wpO_bind h
        refine G_callVv (ci := 1) [.int z.1, .int x2, .ref (g.2.1 92)] [] K dX1_isHeldWithout_41 wv_1454 yd_X1_tellEdge (Nat.le_of_ble_eq_true rfl) (sh_91 _ _) rfl (by decide) (by decide) rfl rfl (Nat.le_of_ble_eq_true rfl) (K_Bridge_tellEdge l g htr 92 isFrac_92 z.1 x2 z.2 _ e2) ?_
        refine G_aload_n rfl 0 rfl K dX1_isHeldWithout_44 ?_
        refine G_get (ci := 1) (k := 0) K rfl in_X1 wd_393 rfl dX1_isHeldWithout_45 (Nat.le_of_ble_eq_true rfl) (sh_91 _ _) (Nat.le_of_ble_eq_true rfl) rfl ?_
        refine G_get (ci := 10) (k := 1) K rfl in_X10 wd_63 rfl dX1_isHeldWithout_48 (Nat.le_of_ble_eq_true rfl) (sh_1 _ _) (Nat.le_of_ble_eq_true rfl) rfl ?_
        refine G_i2l K dX1_isHeldWithout_51 ?_
        refine G_aload_n rfl 0 rfl K dX1_isHeldWithout_52 ?_
        refine G_get (ci := 1) (k := 1) K rfl in_X1 wd_394 rfl dX1_isHeldWithout_53 (Nat.le_of_ble_eq_true rfl) (sh_91 _ _) (Nat.le_of_ble_eq_true rfl) rfl ?_
        refine G_get (ci := 5) (k := 1) K rfl in_X5 wd_385 rfl dX1_isHeldWithout_56 (Nat.le_of_ble_eq_true rfl) (sh_92 _ _) (Nat.le_of_ble_eq_true rfl) rfl ?_
        refine G_lmul K dX1_isHeldWithout_59 ?_
        refine G_aload_n rfl 0 rfl K dX1_isHeldWithout_60 ?_
        refine G_get (ci := 1) (k := 1) K rfl in_X1 wd_394 rfl dX1_isHeldWithout_61 (Nat.le_of_ble_eq_true rfl) (sh_91 _ _) (Nat.le_of_ble_eq_true rfl) rfl ?_
        refine G_get (ci := 5) (k := 0) K rfl in_X5 wd_381 rfl dX1_isHeldWithout_64 (Nat.le_of_ble_eq_true rfl) (sh_92 _ _) (Nat.le_of_ble_eq_true rfl) rfl ?_
        refine G_aload_n rfl 0 rfl K dX1_isHeldWithout_67 ?_
        refine G_get (ci := 1) (k := 0) K rfl in_X1 wd_393 rfl dX1_isHeldWithout_68 (Nat.le_of_ble_eq_true rfl) (sh_91 _ _) (Nat.le_of_ble_eq_true rfl) rfl ?_
        refine G_get (ci := 10) (k := 2) K rfl in_X10 wd_69 rfl dX1_isHeldWithout_71 (Nat.le_of_ble_eq_true rfl) (sh_1 _ _) (Nat.le_of_ble_eq_true rfl) rfl ?_
        refine G_i2l K dX1_isHeldWithout_74 ?_
        refine G_lmul K dX1_isHeldWithout_75 ?_
        refine G_lcmp_ge (tgt := 82) K dX1_isHeldWithout_76 dX1_isHeldWithout_77 (by decide) (fun hc => ?_) (fun hc => ?_)
        · have h := wpO_t h hc
          refine G_iinc (v := z.1 + 1) 3 rfl K dX1_isHeldWithout_82 rfl (Nat.le_of_ble_eq_true rfl) rfl ?_
          refine G_goto (tgt := 15) K dX1_isHeldWithout_85 (by decide) ?_
          exact G_lv (lv' := [(0, .ref (g.2.1 91)), (1, .int x1), (2, .int x2), (3, .int (z.1 + 1))]) [1, 2, 3, 0] rfl (E15 (z.1 + 1) r2 (wpO_some h))
        · have h := wpO_f h hc
          have h := X15 _ (wpO_some h)
          try dsimp only at h
          refine G_iconst (v := 0) rfl K dX1_isHeldWithout_80 ?_
          cases hPHI _ (wpO_some h)
          exact G_iret K hr rfl dX1_isHeldWithout_81 (Nat.le_of_ble_eq_true rfl) (Nat.le_of_ble_eq_true rfl) ⟨rfl, rfl⟩
  unfold F_Bridge_isHeldWithout at h
  refine G_aload_n rfl 0 rfl K dX1_isHeldWithout_0 ?_
  refine G_get (ci := 1) (k := 0) K rfl in_X1 wd_393 rfl dX1_isHeldWithout_1 (Nat.le_of_ble_eq_true rfl) (sh_91 _ _) (Nat.le_of_ble_eq_true rfl) rfl ?_
  refine G_get (ci := 10) (k := 8) K rfl in_X10 wd_92 rfl dX1_isHeldWithout_4 (Nat.le_of_ble_eq_true rfl) (sh_1 _ _) (Nat.le_of_ble_eq_true rfl) rfl ?_
  refine G_iload_n rfl 1 rfl K dX1_isHeldWithout_7 ?_
  obtain ⟨r1, e1, h⟩ := wpO_bind h
  refine G_callSi [.int x1] [.int (M.1 1 8)] K dX1_isHeldWithout_8 wv_1459 yd_J6_bitCount_0f7a4 (by decide) (by decide) rfl rfl (Nat.le_of_ble_eq_true rfl) (K_Integer_bitCount l g htr x1 M _ e1) ?_
  refine G_isub K dX1_isHeldWithout_11 ?_
  refine G_istore_n rfl K dX1_isHeldWithout_12 (Nat.le_of_ble_eq_true rfl) rfl ?_
  refine G_iconst (v := 0) rfl K dX1_isHeldWithout_13 ?_
  refine G_istore_n rfl K dX1_isHeldWithout_14 (Nat.le_of_ble_eq_true rfl) rfl ?_
  exact G_lv (lv' := [(0, .ref (g.2.1 91)), (1, .int x1), (2, .int ((M.1 1 8) - r1)), (3, .int 0)]) [2, 3, 1, 0] rfl (J15 x1 ((M.1 1 8) - r1) 0 M h)
theorem yd_X1_isHeldWithout : ydN yX1_isHeldWithout 1 := ⟨by decide, by decide, by decide +kernel⟩
theorem wv_1469 : wdV "KeptWell$Bridge" 68 yX1_isHeldWithout cX1_isHeldWithout 4 (some .boolean) := ⟨wd_1469, wd_1456, wd_1457, wd_12, wd_1458⟩
theorem drX1_fewestOut_0 : ([(0, (.iconst 1), 1), (1, (.aload_n 0), 1), (2, (.getfield 18), 3), (5, (.getfield 41), 3), (8, .ishl, 1), (9, (.iconst 1), 1), (10, .isub, 1), (11, (.istore_n 1), 1), (12, (.iload_n 1), 1), (13, (.istore_n 2), 1), (14, (.iload_n 1), 1), (15, (.istore_n 3), 1), (16, (.iload_n 3), 1), (17, (.ifCond .lt 30), 3), (20, (.iload_n 3), 1), (21, (.invokestatic 56), 3), (24, (.iload_n 2), 1), (25, (.invokestatic 56), 3), (28, (.if_icmp .gt 13), 3), (31, (.aload_n 0), 1), (32, (.iload_n 3), 1), (33, (.invokevirtual 68), 3), (36, (.ifCond .eq 5), 3), (39, (.iload_n 3), 1), (40, (.istore_n 2), 1), (41, (.iinc 3 (-1)), 3), (44, (.goto (-28)), 3), (47, (.iload_n 2), 1), (48, .ireturn, 1)] : List (Nat × Instr × Nat)).all (fun q => decide (decode cX1_fewestOut q.1 = .ok q.2)) = true := by decide +kernel
theorem dX1_fewestOut_0 : dc cX1_fewestOut 0 1 (.iconst 1) 1 := ⟨dr_at drX1_fewestOut_0 (i := 0) rfl, rfl⟩
theorem dX1_fewestOut_1 : dc cX1_fewestOut 1 2 (.aload_n 0) 1 := ⟨dr_at drX1_fewestOut_0 (i := 1) rfl, rfl⟩
theorem dX1_fewestOut_2 : dc cX1_fewestOut 2 5 (.getfield 18) 3 := ⟨dr_at drX1_fewestOut_0 (i := 2) rfl, rfl⟩
theorem dX1_fewestOut_5 : dc cX1_fewestOut 5 8 (.getfield 41) 3 := ⟨dr_at drX1_fewestOut_0 (i := 3) rfl, rfl⟩
theorem dX1_fewestOut_8 : dc cX1_fewestOut 8 9 .ishl 1 := ⟨dr_at drX1_fewestOut_0 (i := 4) rfl, rfl⟩
theorem dX1_fewestOut_9 : dc cX1_fewestOut 9 10 (.iconst 1) 1 := ⟨dr_at drX1_fewestOut_0 (i := 5) rfl, rfl⟩
theorem dX1_fewestOut_10 : dc cX1_fewestOut 10 11 .isub 1 := ⟨dr_at drX1_fewestOut_0 (i := 6) rfl, rfl⟩
theorem dX1_fewestOut_11 : dc cX1_fewestOut 11 12 (.istore_n 1) 1 := ⟨dr_at drX1_fewestOut_0 (i := 7) rfl, rfl⟩
theorem dX1_fewestOut_12 : dc cX1_fewestOut 12 13 (.iload_n 1) 1 := ⟨dr_at drX1_fewestOut_0 (i := 8) rfl, rfl⟩
theorem dX1_fewestOut_13 : dc cX1_fewestOut 13 14 (.istore_n 2) 1 := ⟨dr_at drX1_fewestOut_0 (i := 9) rfl, rfl⟩
theorem dX1_fewestOut_14 : dc cX1_fewestOut 14 15 (.iload_n 1) 1 := ⟨dr_at drX1_fewestOut_0 (i := 10) rfl, rfl⟩
theorem dX1_fewestOut_15 : dc cX1_fewestOut 15 16 (.istore_n 3) 1 := ⟨dr_at drX1_fewestOut_0 (i := 11) rfl, rfl⟩
theorem dX1_fewestOut_16 : dc cX1_fewestOut 16 17 (.iload_n 3) 1 := ⟨dr_at drX1_fewestOut_0 (i := 12) rfl, rfl⟩
theorem dX1_fewestOut_17 : dc cX1_fewestOut 17 20 (.ifCond .lt 30) 3 := ⟨dr_at drX1_fewestOut_0 (i := 13) rfl, rfl⟩
theorem dX1_fewestOut_20 : dc cX1_fewestOut 20 21 (.iload_n 3) 1 := ⟨dr_at drX1_fewestOut_0 (i := 14) rfl, rfl⟩
theorem dX1_fewestOut_21 : dc cX1_fewestOut 21 24 (.invokestatic 56) 3 := ⟨dr_at drX1_fewestOut_0 (i := 15) rfl, rfl⟩
theorem dX1_fewestOut_24 : dc cX1_fewestOut 24 25 (.iload_n 2) 1 := ⟨dr_at drX1_fewestOut_0 (i := 16) rfl, rfl⟩
theorem dX1_fewestOut_25 : dc cX1_fewestOut 25 28 (.invokestatic 56) 3 := ⟨dr_at drX1_fewestOut_0 (i := 17) rfl, rfl⟩
theorem dX1_fewestOut_28 : dc cX1_fewestOut 28 31 (.if_icmp .gt 13) 3 := ⟨dr_at drX1_fewestOut_0 (i := 18) rfl, rfl⟩
theorem dX1_fewestOut_31 : dc cX1_fewestOut 31 32 (.aload_n 0) 1 := ⟨dr_at drX1_fewestOut_0 (i := 19) rfl, rfl⟩
theorem dX1_fewestOut_32 : dc cX1_fewestOut 32 33 (.iload_n 3) 1 := ⟨dr_at drX1_fewestOut_0 (i := 20) rfl, rfl⟩
theorem dX1_fewestOut_33 : dc cX1_fewestOut 33 36 (.invokevirtual 68) 3 := ⟨dr_at drX1_fewestOut_0 (i := 21) rfl, rfl⟩
theorem dX1_fewestOut_36 : dc cX1_fewestOut 36 39 (.ifCond .eq 5) 3 := ⟨dr_at drX1_fewestOut_0 (i := 22) rfl, rfl⟩
theorem dX1_fewestOut_39 : dc cX1_fewestOut 39 40 (.iload_n 3) 1 := ⟨dr_at drX1_fewestOut_0 (i := 23) rfl, rfl⟩
theorem dX1_fewestOut_40 : dc cX1_fewestOut 40 41 (.istore_n 2) 1 := ⟨dr_at drX1_fewestOut_0 (i := 24) rfl, rfl⟩
theorem dX1_fewestOut_41 : dc cX1_fewestOut 41 44 (.iinc 3 (-1)) 3 := ⟨dr_at drX1_fewestOut_0 (i := 25) rfl, rfl⟩
theorem dX1_fewestOut_44 : dc cX1_fewestOut 44 47 (.goto (-28)) 3 := ⟨dr_at drX1_fewestOut_0 (i := 26) rfl, rfl⟩
theorem dX1_fewestOut_47 : dc cX1_fewestOut 47 48 (.iload_n 2) 1 := ⟨dr_at drX1_fewestOut_0 (i := 27) rfl, rfl⟩
theorem dX1_fewestOut_48 : dc cX1_fewestOut 48 49 .ireturn 1 := ⟨dr_at drX1_fewestOut_0 (i := 28) rfl, rfl⟩
def F_Bridge_fewestOut_b16 (z : Int32 × Int32 × Mem) : Option ((Int32 × Int32 × Mem) ⊕ ((Int32 × Mem))) :=
  if z.2.1 < 0 then some (.inr ((z.1, z.2.2))) else (F_Integer_bitCount z.2.1 z.2.2).bind fun r1 => (F_Integer_bitCount z.1 z.2.2).bind fun r2 => if r2 < r1 then some (.inl ((z.1, z.2.1 + (-1), z.2.2))) else (F_Bridge_isHeldWithout z.2.1 z.2.2).bind fun r3 => if r3.1 = true then some (.inl ((z.2.1, z.2.1 + (-1), r3.2))) else some (.inl ((z.1, z.2.1 + (-1), r3.2)))
def F_Bridge_fewestOut_l16 (x2 : Int32) (x3 : Int32) (M : Mem) : Option (Int32 × Mem) :=
  (iter (F_Bridge_fewestOut_b16) FUEL (x2, x3, M)).bind fun r => some ((r.1, r.2))
def F_Bridge_fewestOut (M : Mem) : Option (Int32 × Mem) :=
  F_Bridge_fewestOut_l16 ((1 <<< ((M.1 1 8) &&& 31)) - 1) ((1 <<< ((M.1 1 8) &&& 31)) - 1) M
set_option maxRecDepth 100000 in
set_option maxHeartbeats 4000000 in
theorem K_Bridge_fewestOut (l : Launch) (g : GB) (htr : l.stackTraces = false) (M : Mem) (rr : Int32) (MZ : Mem) (h : F_Bridge_fewestOut M = some (rr, MZ)) : CT l g yX1_fewestOut (.code yX1_fewestOut cX1_fewestOut 4 (some .int) :: wAll) { frames := 5, cells := 0, slots := 0, locals := 127 } [.ref (g.2.1 91)] M (.inl (some (.int rr))) MZ := by
  refine CT.of [(0, .ref (g.2.1 91))] (by decide +kernel) (Nat.le_of_ble_eq_true rfl) rfl htr ?_
  intro p e s m args below meth c K hr ht
  skip
  obtain ⟨PHI, hPHI, h⟩ : ∃ PHI : Int32 × Mem → Prop, (∀ a, PHI a → a = (rr, MZ)) ∧ wpO (F_Bridge_fewestOut M) PHI := ⟨fun a => a = (rr, MZ), fun _ h => h, _, h, rfl⟩
  have J16 : ∀ (x2 : Int32) (x3 : Int32) (M : Mem), wpO (F_Bridge_fewestOut_l16 x2 x3 M) PHI → GG p l e { frames := 5, cells := 0, slots := 0, locals := 127 } s m args below meth c g 4 (vx_MQ below (Qn g s.heap.size (.inl (some (.int rr))) MZ) (QX g s.heap.size (.inl (some (.int rr))) MZ) args s 0 0 (AS g s.heap.size)) 0 0 16 [(0, .ref (g.2.1 91)), (2, .int x2), (3, .int x3)] [] M := by
    intro x2 x3 M h
    unfold F_Bridge_fewestOut_l16 at h
    refine loop_C3 (G := fun (x2 : Int32) (x3 : Int32) (M : Mem) => GG p l e { frames := 5, cells := 0, slots := 0, locals := 127 } s m args below meth c g 4 (vx_MQ below (Qn g s.heap.size (.inl (some (.int rr))) MZ) (QX g s.heap.size (.inl (some (.int rr))) MZ) args s 0 0 (AS g s.heap.size)) 0 0 16 [(0, .ref (g.2.1 91)), (2, .int x2), (3, .int x3)] [] M) (body := F_Bridge_fewestOut_b16) ?_ FUEL _ _ _ (wpO_bind h)
    intro P16 E16 X16
    intro z h
    unfold F_Bridge_fewestOut_b16 at h
    refine G_iload_n rfl 2 rfl K dX1_fewestOut_16 ?_
    refine G_if_lt (tgt := 47) K dX1_fewestOut_17 (by decide) (fun hc => ?_) (fun hc => ?_)
    · have h := wpO_t h hc
      have h := X16 _ (wpO_some h)
      try dsimp only at h
      refine G_iload_n rfl 1 rfl K dX1_fewestOut_47 ?_
      cases hPHI _ (wpO_some h)
      exact G_iret K hr rfl dX1_fewestOut_48 (Nat.le_of_ble_eq_true rfl) (Nat.le_of_ble_eq_true rfl) ⟨rfl, rfl⟩
    · have h := wpO_f h hc
      refine G_iload_n rfl 2 rfl K dX1_fewestOut_20 ?_
      obtain ⟨r1, e1, h⟩ := wpO_bind h
      refine G_callSi [.int z.2.1] [] K dX1_fewestOut_21 wv_1459 yd_J6_bitCount_0f7a4 (by decide) (by decide) rfl rfl (Nat.le_of_ble_eq_true rfl) (K_Integer_bitCount l g htr z.2.1 z.2.2 _ e1) ?_
      refine G_iload_n rfl 1 rfl K dX1_fewestOut_24 ?_
      obtain ⟨r2, e2, h⟩ := wpO_bind h
      refine G_callSi [.int z.1] [.int r1] K dX1_fewestOut_25 wv_1459 yd_J6_bitCount_0f7a4 (by decide) (by decide) rfl rfl (Nat.le_of_ble_eq_true rfl) (K_Integer_bitCount l g htr z.1 z.2.2 _ e2) ?_
      refine G_icmp_gt (tgt := 41) K dX1_fewestOut_28 (by decide) (fun hc => ?_) (fun hc => ?_)
      · have h := wpO_t h hc
        refine G_iinc (v := z.2.1 + (-1)) 2 rfl K dX1_fewestOut_41 rfl (Nat.le_of_ble_eq_true rfl) rfl ?_
        refine G_goto (tgt := 16) K dX1_fewestOut_44 (by decide) ?_
        exact G_lv (lv' := [(0, .ref (g.2.1 91)), (2, .int z.1), (3, .int (z.2.1 + (-1)))]) [1, 2, 0] rfl (E16 z.1 (z.2.1 + (-1)) z.2.2 (wpO_some h))
      · have h := wpO_f h hc
        refine G_aload_n rfl 0 rfl K dX1_fewestOut_31 ?_
        refine G_iload_n rfl 2 rfl K dX1_fewestOut_32 ?_
        obtain ⟨r3, e3, h⟩ := wpO_bind h
        refine G_callVi (ci := 1) [.int z.2.1] [] K dX1_fewestOut_33 wv_1469 yd_X1_isHeldWithout (Nat.le_of_ble_eq_true rfl) (sh_91 _ _) rfl (by decide) (by decide) rfl rfl (Nat.le_of_ble_eq_true rfl) (K_Bridge_isHeldWithout l g htr z.2.1 z.2.2 _ _ e3) ?_
        refine G_ifb_eq (tgt := 41) K dX1_fewestOut_36 (by decide) (fun hc => ?_) (fun hc => ?_)
        · have h := wpO_bf h hc
          refine G_iinc (v := z.2.1 + (-1)) 2 rfl K dX1_fewestOut_41 rfl (Nat.le_of_ble_eq_true rfl) rfl ?_
          refine G_goto (tgt := 16) K dX1_fewestOut_44 (by decide) ?_
          exact G_lv (lv' := [(0, .ref (g.2.1 91)), (2, .int z.1), (3, .int (z.2.1 + (-1)))]) [1, 2, 0] rfl (E16 z.1 (z.2.1 + (-1)) r3.2 (wpO_some h))
        · have h := wpO_t h hc
          refine G_iload_n rfl 2 rfl K dX1_fewestOut_39 ?_
          refine G_istore_n rfl K dX1_fewestOut_40 (Nat.le_of_ble_eq_true rfl) rfl ?_
          refine G_iinc (v := z.2.1 + (-1)) 2 rfl K dX1_fewestOut_41 rfl (Nat.le_of_ble_eq_true rfl) rfl ?_
          refine G_goto (tgt := 16) K dX1_fewestOut_44 (by decide) ?_
          exact G_lv (lv' := [(0, .ref (g.2.1 91)), (2, .int z.2.1), (3, .int (z.2.1 + (-1)))]) [2, 1, 0] rfl (E16 z.2.1 (z.2.1 + (-1)) r3.2 (wpO_some h))
  unfold F_Bridge_fewestOut at h
  refine G_iconst (v := 1) rfl K dX1_fewestOut_0 ?_
  refine G_aload_n rfl 0 rfl K dX1_fewestOut_1 ?_
  refine G_get (ci := 1) (k := 0) K rfl in_X1 wd_393 rfl dX1_fewestOut_2 (Nat.le_of_ble_eq_true rfl) (sh_91 _ _) (Nat.le_of_ble_eq_true rfl) rfl ?_
  refine G_get (ci := 10) (k := 8) K rfl in_X10 wd_92 rfl dX1_fewestOut_5 (Nat.le_of_ble_eq_true rfl) (sh_1 _ _) (Nat.le_of_ble_eq_true rfl) rfl ?_
  refine G_ishl K dX1_fewestOut_8 ?_
  refine G_iconst (v := 1) rfl K dX1_fewestOut_9 ?_
  refine G_isub K dX1_fewestOut_10 ?_
  refine G_istore_n rfl K dX1_fewestOut_11 (Nat.le_of_ble_eq_true rfl) rfl ?_
  refine G_iload_n rfl 0 rfl K dX1_fewestOut_12 ?_
  refine G_istore_n rfl K dX1_fewestOut_13 (Nat.le_of_ble_eq_true rfl) rfl ?_
  refine G_iload_n rfl 1 rfl K dX1_fewestOut_14 ?_
  refine G_istore_n rfl K dX1_fewestOut_15 (Nat.le_of_ble_eq_true rfl) rfl ?_
  exact G_lv (lv' := [(0, .ref (g.2.1 91)), (2, .int ((1 <<< ((M.1 1 8) &&& 31)) - 1)), (3, .int ((1 <<< ((M.1 1 8) &&& 31)) - 1))]) [3, 1, 0] rfl (J16 ((1 <<< ((M.1 1 8) &&& 31)) - 1) ((1 <<< ((M.1 1 8) &&& 31)) - 1) M h)
