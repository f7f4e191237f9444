theorem wv_1441 : wdV "KeptWell$Bridge" 28 yX7_at cX7_at 2 (some .long) := ⟨wd_1441, wd_528, wd_529, wd_3, wd_530⟩
theorem wv_1442 : wdV "KeptWell$Bridge" 37 yX5_be cX5_be 7 none := ⟨wd_1442, wd_970, wd_971, wd_13, wd_972⟩
def on_X1_tellEdge : Nat := 0xb12500b6061604162d0b00a72500b60a0a2d0c009b94061604161c00a72500b60a092d0c009d940904160637691c00b61b2200b41200b42a8564041c0437651c00b61b2200b41200b42a1c00b61b1600b41200b42a
theorem ob_X1_tellEdge : OKB cX1_tellEdge on_X1_tellEdge 85 := ⟨by decide +kernel, by decide +kernel⟩
theorem dX1_tellEdge_0 : dc cX1_tellEdge 0 1 (.aload_n 0) 1 := o_42 ob_X1_tellEdge rfl rfl rfl
theorem dX1_tellEdge_1 : dc cX1_tellEdge 1 4 (.getfield 18) 3 := o_180 ob_X1_tellEdge rfl rfl rfl rfl
theorem dX1_tellEdge_4 : dc cX1_tellEdge 4 7 (.getfield 22) 3 := o_180 ob_X1_tellEdge rfl rfl rfl rfl
theorem dX1_tellEdge_7 : dc cX1_tellEdge 7 8 (.iload_n 1) 1 := o_27 ob_X1_tellEdge rfl rfl rfl
theorem dX1_tellEdge_8 : dc cX1_tellEdge 8 11 (.invokevirtual 28) 3 := o_182 ob_X1_tellEdge rfl rfl rfl rfl
theorem dX1_tellEdge_11 : dc cX1_tellEdge 11 12 (.aload_n 0) 1 := o_42 ob_X1_tellEdge rfl rfl rfl
theorem dX1_tellEdge_12 : dc cX1_tellEdge 12 15 (.getfield 18) 3 := o_180 ob_X1_tellEdge rfl rfl rfl rfl
theorem dX1_tellEdge_15 : dc cX1_tellEdge 15 18 (.getfield 34) 3 := o_180 ob_X1_tellEdge rfl rfl rfl rfl
theorem dX1_tellEdge_18 : dc cX1_tellEdge 18 19 (.iload_n 1) 1 := o_27 ob_X1_tellEdge rfl rfl rfl
theorem dX1_tellEdge_19 : dc cX1_tellEdge 19 22 (.invokevirtual 28) 3 := o_182 ob_X1_tellEdge rfl rfl rfl rfl
theorem dX1_tellEdge_22 : dc cX1_tellEdge 22 23 .lsub 1 := o_101 ob_X1_tellEdge rfl rfl rfl
theorem dX1_tellEdge_23 : dc cX1_tellEdge 23 25 (.lstore 4) 2 := o_55 ob_X1_tellEdge rfl rfl rfl rfl
theorem dX1_tellEdge_25 : dc cX1_tellEdge 25 26 (.iload_n 2) 1 := o_28 ob_X1_tellEdge rfl rfl rfl
theorem dX1_tellEdge_26 : dc cX1_tellEdge 26 27 (.iconst 1) 1 := o_4 ob_X1_tellEdge rfl rfl rfl
theorem dX1_tellEdge_27 : dc cX1_tellEdge 27 28 .isub 1 := o_100 ob_X1_tellEdge rfl rfl rfl
theorem dX1_tellEdge_28 : dc cX1_tellEdge 28 29 .i2l 1 := o_133 ob_X1_tellEdge rfl rfl rfl
theorem dX1_tellEdge_29 : dc cX1_tellEdge 29 30 (.aload_n 0) 1 := o_42 ob_X1_tellEdge rfl rfl rfl
theorem dX1_tellEdge_30 : dc cX1_tellEdge 30 33 (.getfield 18) 3 := o_180 ob_X1_tellEdge rfl rfl rfl rfl
theorem dX1_tellEdge_33 : dc cX1_tellEdge 33 36 (.getfield 34) 3 := o_180 ob_X1_tellEdge rfl rfl rfl rfl
theorem dX1_tellEdge_36 : dc cX1_tellEdge 36 37 (.iload_n 1) 1 := o_27 ob_X1_tellEdge rfl rfl rfl
theorem dX1_tellEdge_37 : dc cX1_tellEdge 37 40 (.invokevirtual 28) 3 := o_182 ob_X1_tellEdge rfl rfl rfl rfl
theorem dX1_tellEdge_40 : dc cX1_tellEdge 40 41 .lmul 1 := o_105 ob_X1_tellEdge rfl rfl rfl
theorem dX1_tellEdge_41 : dc cX1_tellEdge 41 43 (.lstore 6) 2 := o_55 ob_X1_tellEdge rfl rfl rfl rfl
theorem dX1_tellEdge_43 : dc cX1_tellEdge 43 45 (.lload 4) 2 := o_22 ob_X1_tellEdge rfl rfl rfl rfl
theorem dX1_tellEdge_45 : dc cX1_tellEdge 45 46 (.lconst 0) 1 := o_9 ob_X1_tellEdge rfl rfl rfl
theorem dX1_tellEdge_46 : dc cX1_tellEdge 46 47 .lcmp 1 := o_148 ob_X1_tellEdge rfl rfl rfl
theorem dX1_tellEdge_47 : dc cX1_tellEdge 47 50 (.ifCond .gt 12) 3 := o_157 ob_X1_tellEdge rfl rfl rfl rfl
theorem dX1_tellEdge_50 : dc cX1_tellEdge 50 51 (.aload_n 3) 1 := o_45 ob_X1_tellEdge rfl rfl rfl
theorem dX1_tellEdge_51 : dc cX1_tellEdge 51 52 (.lconst 0) 1 := o_9 ob_X1_tellEdge rfl rfl rfl
theorem dX1_tellEdge_52 : dc cX1_tellEdge 52 53 (.lconst 1) 1 := o_10 ob_X1_tellEdge rfl rfl rfl
theorem dX1_tellEdge_53 : dc cX1_tellEdge 53 56 (.invokevirtual 37) 3 := o_182 ob_X1_tellEdge rfl rfl rfl rfl
theorem dX1_tellEdge_56 : dc cX1_tellEdge 56 59 (.goto 28) 3 := o_167 ob_X1_tellEdge rfl rfl rfl rfl
theorem dX1_tellEdge_59 : dc cX1_tellEdge 59 61 (.lload 4) 2 := o_22 ob_X1_tellEdge rfl rfl rfl rfl
theorem dX1_tellEdge_61 : dc cX1_tellEdge 61 63 (.lload 6) 2 := o_22 ob_X1_tellEdge rfl rfl rfl rfl
theorem dX1_tellEdge_63 : dc cX1_tellEdge 63 64 .lcmp 1 := o_148 ob_X1_tellEdge rfl rfl rfl
theorem dX1_tellEdge_64 : dc cX1_tellEdge 64 67 (.ifCond .lt 12) 3 := o_155 ob_X1_tellEdge rfl rfl rfl rfl
theorem dX1_tellEdge_67 : dc cX1_tellEdge 67 68 (.aload_n 3) 1 := o_45 ob_X1_tellEdge rfl rfl rfl
theorem dX1_tellEdge_68 : dc cX1_tellEdge 68 69 (.lconst 1) 1 := o_10 ob_X1_tellEdge rfl rfl rfl
theorem dX1_tellEdge_69 : dc cX1_tellEdge 69 70 (.lconst 1) 1 := o_10 ob_X1_tellEdge rfl rfl rfl
theorem dX1_tellEdge_70 : dc cX1_tellEdge 70 73 (.invokevirtual 37) 3 := o_182 ob_X1_tellEdge rfl rfl rfl rfl
theorem dX1_tellEdge_73 : dc cX1_tellEdge 73 76 (.goto 11) 3 := o_167 ob_X1_tellEdge rfl rfl rfl rfl
theorem dX1_tellEdge_76 : dc cX1_tellEdge 76 77 (.aload_n 3) 1 := o_45 ob_X1_tellEdge rfl rfl rfl
theorem dX1_tellEdge_77 : dc cX1_tellEdge 77 79 (.lload 4) 2 := o_22 ob_X1_tellEdge rfl rfl rfl rfl
theorem dX1_tellEdge_79 : dc cX1_tellEdge 79 81 (.lload 6) 2 := o_22 ob_X1_tellEdge rfl rfl rfl rfl
theorem dX1_tellEdge_81 : dc cX1_tellEdge 81 84 (.invokevirtual 37) 3 := o_182 ob_X1_tellEdge rfl rfl rfl rfl
theorem dX1_tellEdge_84 : dc cX1_tellEdge 84 85 .return_ 1 := o_177 ob_X1_tellEdge rfl rfl rfl
def F_Bridge_tellEdge (o3 : Nat) (x1 : Int32) (x2 : Int32) (M : Mem) : Option (Mem) :=
  (F_Row_at 11 6 x1 M).bind fun r1 => (F_Row_at 13 6 x1 M).bind fun r2 => (F_Row_at 13 6 x1 M).bind fun r3 => if 0 < (r1 - r2) then if (r1 - r2) < (((x2 - 1).toInt64) * r3) then (F_Fraction_be o3 (r1 - r2) (((x2 - 1).toInt64) * r3) M).bind fun r4 => some r4 else (F_Fraction_be o3 1 1 M).bind fun r5 => some r5 else (F_Fraction_be o3 0 1 M).bind fun r6 => some r6
set_option maxRecDepth 100000 in
set_option maxHeartbeats 4000000 in
theorem K_Bridge_tellEdge (l : Launch) (g : GB) (htr : l.stackTraces = false) (o3 : Nat) (ho3 : isFrac o3) (x1 : Int32) (x2 : Int32) (M : Mem) (MZ : Mem) (h : F_Bridge_tellEdge o3 x1 x2 M = some MZ) : CT l g yX1_tellEdge (.code yX1_tellEdge cX1_tellEdge 8 none :: wAll) { frames := 3, cells := 0, slots := 0, locals := 77 } [.ref (g.2.1 91), .int x1, .int x2, .ref (g.2.1 o3)] M (.inl none) MZ := by
  refine CT.of [(0, .ref (g.2.1 91)), (1, .int x1), (2, .int x2), (3, .ref (g.2.1 o3))] (by decide +kernel) (Nat.le_of_ble_eq_true rfl) rfl htr ?_
  intro p e s m args below meth c K hr ht
  skip
  obtain ⟨PHI, hPHI, h⟩ : ∃ PHI : Mem → Prop, (∀ a, PHI a → a = MZ) ∧ wpO (F_Bridge_tellEdge o3 x1 x2 M) PHI := ⟨fun a => a = MZ, fun _ h => h, _, h, rfl⟩
  unfold F_Bridge_tellEdge at h
  refine G_aload_n rfl 0 rfl K dX1_tellEdge_0 ?_
  refine G_get (ci := 1) (k := 0) K rfl in_X1 wd_393 rfl dX1_tellEdge_1 (Nat.le_of_ble_eq_true rfl) (sh_91 _ _) (Nat.le_of_ble_eq_true rfl) rfl ?_
  refine G_get (ci := 10) (k := 13) K rfl in_X10 wd_103 rfl dX1_tellEdge_4 (Nat.le_of_ble_eq_true rfl) (sh_1 _ _) (Nat.le_of_ble_eq_true rfl) rfl ?_
  refine G_iload_n rfl 1 rfl K dX1_tellEdge_7 ?_
  obtain ⟨r1, e1, h⟩ := wpO_bind h
  refine G_callVl (ci := 7) [.int x1] [] K dX1_tellEdge_8 wv_1441 yd_X7_at (Nat.le_of_ble_eq_true rfl) (sh_10 _ _) rfl (by decide) (by decide) rfl rfl (Nat.le_of_ble_eq_true rfl) (K_Row_at l g htr 10 11 6 isRow_10 x1 M _ e1) ?_
  refine G_aload_n rfl 0 rfl K dX1_tellEdge_11 ?_
  refine G_get (ci := 1) (k := 0) K rfl in_X1 wd_393 rfl dX1_tellEdge_12 (Nat.le_of_ble_eq_true rfl) (sh_91 _ _) (Nat.le_of_ble_eq_true rfl) rfl ?_
  refine G_get (ci := 10) (k := 14) K rfl in_X10 wd_106 rfl dX1_tellEdge_15 (Nat.le_of_ble_eq_true rfl) (sh_1 _ _) (Nat.le_of_ble_eq_true rfl) rfl ?_
  refine G_iload_n rfl 1 rfl K dX1_tellEdge_18 ?_
  obtain ⟨r2, e2, h⟩ := wpO_bind h
  refine G_callVl (ci := 7) [.int x1] [.long r1] K dX1_tellEdge_19 wv_1441 yd_X7_at (Nat.le_of_ble_eq_true rfl) (sh_12 _ _) rfl (by decide) (by decide) rfl rfl (Nat.le_of_ble_eq_true rfl) (K_Row_at l g htr 12 13 6 isRow_12 x1 M _ e2) ?_
  refine G_lsub K dX1_tellEdge_22 ?_
  refine G_lstore K dX1_tellEdge_23 (Nat.le_of_ble_eq_true rfl) rfl ?_
  refine G_iload_n rfl 3 rfl K dX1_tellEdge_25 ?_
  refine G_iconst (v := 1) rfl K dX1_tellEdge_26 ?_
  refine G_isub K dX1_tellEdge_27 ?_
  refine G_i2l K dX1_tellEdge_28 ?_
  refine G_aload_n rfl 1 rfl K dX1_tellEdge_29 ?_
  refine G_get (ci := 1) (k := 0) K rfl in_X1 wd_393 rfl dX1_tellEdge_30 (Nat.le_of_ble_eq_true rfl) (sh_91 _ _) (Nat.le_of_ble_eq_true rfl) rfl ?_
  refine G_get (ci := 10) (k := 14) K rfl in_X10 wd_106 rfl dX1_tellEdge_33 (Nat.le_of_ble_eq_true rfl) (sh_1 _ _) (Nat.le_of_ble_eq_true rfl) rfl ?_
  refine G_iload_n rfl 2 rfl K dX1_tellEdge_36 ?_
  obtain ⟨r3, e3, h⟩ := wpO_bind h
  refine G_callVl (ci := 7) [.int x1] [.long ((x2 - 1).toInt64)] K dX1_tellEdge_37 wv_1441 yd_X7_at (Nat.le_of_ble_eq_true rfl) (sh_12 _ _) rfl (by decide) (by decide) rfl rfl (Nat.le_of_ble_eq_true rfl) (K_Row_at l g htr 12 13 6 isRow_12 x1 M _ e3) ?_
  refine G_lmul K dX1_tellEdge_40 ?_
  refine G_lstore K dX1_tellEdge_41 (Nat.le_of_ble_eq_true rfl) rfl ?_
  refine G_lload 1 rfl K dX1_tellEdge_43 ?_
  refine G_lconst (v := 0) rfl K dX1_tellEdge_45 ?_
  refine G_lcmp_gt (tgt := 59) K dX1_tellEdge_46 dX1_tellEdge_47 (by decide) (fun hc => ?_) (fun hc => ?_)
  · have h := wpO_t h hc
    refine G_lload 1 rfl K dX1_tellEdge_59 ?_
    refine G_lload 0 rfl K dX1_tellEdge_61 ?_
    refine G_lcmp_lt (tgt := 76) K dX1_tellEdge_63 dX1_tellEdge_64 (by decide) (fun hc => ?_) (fun hc => ?_)
    · have h := wpO_t h hc
      refine G_aload_n rfl 5 rfl K dX1_tellEdge_76 ?_
      refine G_lload 1 rfl K dX1_tellEdge_77 ?_
      refine G_lload 0 rfl K dX1_tellEdge_79 ?_
      obtain ⟨r4, e4, h⟩ := wpO_bind h
      refine G_callVv (ci := 5) [.long (r1 - r2), .long (((x2 - 1).toInt64) * r3)] [] K dX1_tellEdge_81 wv_1442 yd_X5_be ho3.1 (ho3.2 _ _) rfl (by decide) (by decide) rfl rfl (Nat.le_of_ble_eq_true rfl) (K_Fraction_be l g htr o3 ho3 (r1 - r2) (((x2 - 1).toInt64) * r3) M _ e4) ?_
      cases hPHI _ (wpO_some h)
      exact G_vret K hr dX1_tellEdge_84 (Nat.le_of_ble_eq_true rfl) (Nat.le_of_ble_eq_true rfl) ⟨rfl, rfl⟩
    · have h := wpO_f h hc
      refine G_aload_n rfl 5 rfl K dX1_tellEdge_67 ?_
      refine G_lconst (v := 1) rfl K dX1_tellEdge_68 ?_
      refine G_lconst (v := 1) rfl K dX1_tellEdge_69 ?_
      obtain ⟨r5, e5, h⟩ := wpO_bind h
      refine G_callVv (ci := 5) [.long 1, .long 1] [] K dX1_tellEdge_70 wv_1442 yd_X5_be ho3.1 (ho3.2 _ _) rfl (by decide) (by decide) rfl rfl (Nat.le_of_ble_eq_true rfl) (K_Fraction_be l g htr o3 ho3 1 1 M _ e5) ?_
      refine G_goto (tgt := 84) K dX1_tellEdge_73 (by decide) ?_
      cases hPHI _ (wpO_some h)
      exact G_vret K hr dX1_tellEdge_84 (Nat.le_of_ble_eq_true rfl) (Nat.le_of_ble_eq_true rfl) ⟨rfl, rfl⟩
  · have h := wpO_f h hc
    refine G_aload_n rfl 5 rfl K dX1_tellEdge_50 ?_
    refine G_lconst (v := 0) rfl K dX1_tellEdge_51 ?_
    refine G_lconst (v := 1) rfl K dX1_tellEdge_52 ?_
    obtain ⟨r6, e6, h⟩ := wpO_bind h
    refine G_callVv (ci := 5) [.long 0, .long 1] [] K dX1_tellEdge_53 wv_1442 yd_X5_be ho3.1 (ho3.2 _ _) rfl (by decide) (by decide) rfl rfl (Nat.le_of_ble_eq_true rfl) (K_Fraction_be l g htr o3 ho3 0 1 M _ e6) ?_
    refine G_goto (tgt := 84) K dX1_tellEdge_56 (by decide) ?_
    cases hPHI _ (wpO_some h)
    exact G_vret K hr dX1_tellEdge_84 (Nat.le_of_ble_eq_true rfl) (Nat.le_of_ble_eq_true rfl) ⟨rfl, rfl⟩
theorem yd_X1_tellEdge : ydN yX1_tellEdge 3 := ⟨by decide, by decide, by decide +kernel⟩
theorem wv_1454 : wdV "KeptWell$Bridge" 45 yX1_tellEdge cX1_tellEdge 8 none := ⟨wd_1454, wd_1438, wd_1439, wd_12, wd_1440⟩
def on_X1_weakest : Nat := 0xac1bb0ffa701068404373500b40c00b42a413100b40c00b42a3c061517009e94693500b40c00b42a206904163100b40c00b42a1a009f021b2d00b60c00b42a2900b41200b42a06152a4a00a22900b41200b42a061506360304370a41093c02
theorem ob_X1_weakest : OKB cX1_weakest on_X1_weakest 95 := ⟨by decide +kernel, by decide +kernel⟩
theorem dX1_weakest_0 : dc cX1_weakest 0 1 (.iconst (-1)) 1 := o_2 ob_X1_weakest rfl rfl rfl
theorem dX1_weakest_1 : dc cX1_weakest 1 2 (.istore_n 1) 1 := o_60 ob_X1_weakest rfl rfl rfl
theorem dX1_weakest_2 : dc cX1_weakest 2 3 (.lconst 0) 1 := o_9 ob_X1_weakest rfl rfl rfl
theorem dX1_weakest_3 : dc cX1_weakest 3 4 (.lstore_n 2) 1 := o_65 ob_X1_weakest rfl rfl rfl
theorem dX1_weakest_4 : dc cX1_weakest 4 5 (.lconst 1) 1 := o_10 ob_X1_weakest rfl rfl rfl
theorem dX1_weakest_5 : dc cX1_weakest 5 7 (.lstore 4) 2 := o_55 ob_X1_weakest rfl rfl rfl rfl
theorem dX1_weakest_7 : dc cX1_weakest 7 8 (.iconst 0) 1 := o_3 ob_X1_weakest rfl rfl rfl
theorem dX1_weakest_8 : dc cX1_weakest 8 10 (.istore 6) 2 := o_54 ob_X1_weakest rfl rfl rfl rfl
theorem dX1_weakest_10 : dc cX1_weakest 10 12 (.iload 6) 2 := o_21 ob_X1_weakest rfl rfl rfl rfl
theorem dX1_weakest_12 : dc cX1_weakest 12 13 (.aload_n 0) 1 := o_42 ob_X1_weakest rfl rfl rfl
theorem dX1_weakest_13 : dc cX1_weakest 13 16 (.getfield 18) 3 := o_180 ob_X1_weakest rfl rfl rfl rfl
theorem dX1_weakest_16 : dc cX1_weakest 16 19 (.getfield 41) 3 := o_180 ob_X1_weakest rfl rfl rfl rfl
theorem dX1_weakest_19 : dc cX1_weakest 19 22 (.if_icmp .ge 74) 3 := o_162 ob_X1_weakest rfl rfl rfl rfl
theorem dX1_weakest_22 : dc cX1_weakest 22 23 (.aload_n 0) 1 := o_42 ob_X1_weakest rfl rfl rfl
theorem dX1_weakest_23 : dc cX1_weakest 23 25 (.iload 6) 2 := o_21 ob_X1_weakest rfl rfl rfl rfl
theorem dX1_weakest_25 : dc cX1_weakest 25 26 (.aload_n 0) 1 := o_42 ob_X1_weakest rfl rfl rfl
theorem dX1_weakest_26 : dc cX1_weakest 26 29 (.getfield 18) 3 := o_180 ob_X1_weakest rfl rfl rfl rfl
theorem dX1_weakest_29 : dc cX1_weakest 29 32 (.getfield 41) 3 := o_180 ob_X1_weakest rfl rfl rfl rfl
theorem dX1_weakest_32 : dc cX1_weakest 32 33 (.aload_n 0) 1 := o_42 ob_X1_weakest rfl rfl rfl
theorem dX1_weakest_33 : dc cX1_weakest 33 36 (.getfield 12) 3 := o_180 ob_X1_weakest rfl rfl rfl rfl
theorem dX1_weakest_36 : dc cX1_weakest 36 39 (.invokevirtual 45) 3 := o_182 ob_X1_weakest rfl rfl rfl rfl
theorem dX1_weakest_39 : dc cX1_weakest 39 40 (.iload_n 1) 1 := o_27 ob_X1_weakest rfl rfl rfl
theorem dX1_weakest_40 : dc cX1_weakest 40 41 (.iconst (-1)) 1 := o_2 ob_X1_weakest rfl rfl rfl
theorem dX1_weakest_41 : dc cX1_weakest 41 44 (.if_icmp .eq 26) 3 := o_159 ob_X1_weakest rfl rfl rfl rfl
theorem dX1_weakest_44 : dc cX1_weakest 44 45 (.aload_n 0) 1 := o_42 ob_X1_weakest rfl rfl rfl
theorem dX1_weakest_45 : dc cX1_weakest 45 48 (.getfield 12) 3 := o_180 ob_X1_weakest rfl rfl rfl rfl
theorem dX1_weakest_48 : dc cX1_weakest 48 51 (.getfield 49) 3 := o_180 ob_X1_weakest rfl rfl rfl rfl
theorem dX1_weakest_51 : dc cX1_weakest 51 53 (.lload 4) 2 := o_22 ob_X1_weakest rfl rfl rfl rfl
theorem dX1_weakest_53 : dc cX1_weakest 53 54 .lmul 1 := o_105 ob_X1_weakest rfl rfl rfl
theorem dX1_weakest_54 : dc cX1_weakest 54 55 (.lload_n 2) 1 := o_32 ob_X1_weakest rfl rfl rfl
theorem dX1_weakest_55 : dc cX1_weakest 55 56 (.aload_n 0) 1 := o_42 ob_X1_weakest rfl rfl rfl
theorem dX1_weakest_56 : dc cX1_weakest 56 59 (.getfield 12) 3 := o_180 ob_X1_weakest rfl rfl rfl rfl
theorem dX1_weakest_59 : dc cX1_weakest 59 62 (.getfield 53) 3 := o_180 ob_X1_weakest rfl rfl rfl rfl
theorem dX1_weakest_62 : dc cX1_weakest 62 63 .lmul 1 := o_105 ob_X1_weakest rfl rfl rfl
theorem dX1_weakest_63 : dc cX1_weakest 63 64 .lcmp 1 := o_148 ob_X1_weakest rfl rfl rfl
theorem dX1_weakest_64 : dc cX1_weakest 64 67 (.ifCond .le 23) 3 := o_158 ob_X1_weakest rfl rfl rfl rfl
theorem dX1_weakest_67 : dc cX1_weakest 67 69 (.iload 6) 2 := o_21 ob_X1_weakest rfl rfl rfl rfl
theorem dX1_weakest_69 : dc cX1_weakest 69 70 (.istore_n 1) 1 := o_60 ob_X1_weakest rfl rfl rfl
theorem dX1_weakest_70 : dc cX1_weakest 70 71 (.aload_n 0) 1 := o_42 ob_X1_weakest rfl rfl rfl
theorem dX1_weakest_71 : dc cX1_weakest 71 74 (.getfield 12) 3 := o_180 ob_X1_weakest rfl rfl rfl rfl
theorem dX1_weakest_74 : dc cX1_weakest 74 77 (.getfield 49) 3 := o_180 ob_X1_weakest rfl rfl rfl rfl
theorem dX1_weakest_77 : dc cX1_weakest 77 78 (.lstore_n 2) 1 := o_65 ob_X1_weakest rfl rfl rfl
theorem dX1_weakest_78 : dc cX1_weakest 78 79 (.aload_n 0) 1 := o_42 ob_X1_weakest rfl rfl rfl
theorem dX1_weakest_79 : dc cX1_weakest 79 82 (.getfield 12) 3 := o_180 ob_X1_weakest rfl rfl rfl rfl
theorem dX1_weakest_82 : dc cX1_weakest 82 85 (.getfield 53) 3 := o_180 ob_X1_weakest rfl rfl rfl rfl
theorem dX1_weakest_85 : dc cX1_weakest 85 87 (.lstore 4) 2 := o_55 ob_X1_weakest rfl rfl rfl rfl
theorem dX1_weakest_87 : dc cX1_weakest 87 90 (.iinc 6 1) 3 := o_132 ob_X1_weakest rfl rfl rfl rfl rfl
theorem dX1_weakest_90 : dc cX1_weakest 90 93 (.goto (-80)) 3 := o_167 ob_X1_weakest rfl rfl rfl rfl
theorem dX1_weakest_93 : dc cX1_weakest 93 94 (.iload_n 1) 1 := o_27 ob_X1_weakest rfl rfl rfl
theorem dX1_weakest_94 : dc cX1_weakest 94 95 .ireturn 1 := o_172 ob_X1_weakest rfl rfl rfl
def F_Bridge_weakest_j67 (x6 : Int32) (M : Mem) : Option ((Int32 × Int64 × Int64 × Int32 × Mem) ⊕ ((Int32 × Mem))) :=
  some (.inl ((x6, M.2 92 0, M.2 92 1, x6 + 1, M)))
def F_Bridge_weakest_b10 (z : Int32 × Int64 × Int64 × Int32 × Mem) : Option ((Int32 × Int64 × Int64 × Int32 × Mem) ⊕ ((Int32 × Mem))) :=
  if (z.2.2.2.2.1 1 8) ≤ z.2.2.2.1 then some (.inr ((z.1, z.2.2.2.2))) else (F_Bridge_tellEdge 92 z.2.2.2.1 (z.2.2.2.2.1 1 8) z.2.2.2.2).bind fun r1 => if z.1 = ((-1)) then F_Bridge_weakest_j67 z.2.2.2.1 r1 else if ((r1.2 92 0) * z.2.2.1) ≤ (z.2.1 * (r1.2 92 1)) then some (.inl ((z.1, z.2.1, z.2.2.1, z.2.2.2.1 + 1, r1))) else F_Bridge_weakest_j67 z.2.2.2.1 r1
def F_Bridge_weakest_l10 (x1 : Int32) (x2 : Int64) (x4 : Int64) (x6 : Int32) (M : Mem) : Option (Int32 × Mem) :=
  (iter (F_Bridge_weakest_b10) FUEL (x1, x2, x4, x6, M)).bind fun r => some ((r.1, r.2))
def F_Bridge_weakest (M : Mem) : Option (Int32 × Mem) :=
  F_Bridge_weakest_l10 ((-1)) 0 1 0 M
set_option maxRecDepth 100000 in
set_option maxHeartbeats 4000000 in
theorem K_Bridge_weakest (l : Launch) (g : GB) (htr : l.stackTraces = false) (M : Mem) (rr : Int32) (MZ : Mem) (h : F_Bridge_weakest M = some (rr, MZ)) : CT l g yX1_weakest (.code yX1_weakest cX1_weakest 7 (some .int) :: wAll) { frames := 4, cells := 0, slots := 0, locals := 104 } [.ref (g.2.1 91)] M (.inl (some (.int rr))) MZ := by
  refine CT.of [(0, .ref (g.2.1 91))] (by decide +kernel) (Nat.le_of_ble_eq_true rfl) rfl htr ?_
  intro p e s m args below meth c K hr ht
  skip
  obtain ⟨PHI, hPHI, h⟩ : ∃ PHI : Int32 × Mem → Prop, (∀ a, PHI a → a = (rr, MZ)) ∧ wpO (F_Bridge_weakest M) PHI := ⟨fun a => a = (rr, MZ), fun _ h => h, _, h, rfl⟩
  have J10 : ∀ (x1 : Int32) (x2 : Int64) (x4 : Int64) (x6 : Int32) (M : Mem), wpO (F_Bridge_weakest_l10 x1 x2 x4 x6 M) PHI → GG p l e { frames := 4, cells := 0, slots := 0, locals := 104 } s m args below meth c g 7 (vx_MQ below (Qn g s.heap.size (.inl (some (.int rr))) MZ) (QX g s.heap.size (.inl (some (.int rr))) MZ) args s 0 0 (AS g s.heap.size)) 0 0 10 [(0, .ref (g.2.1 91)), (1, .int x1), (2, .long x2), (4, .long x4), (6, .int x6)] [] M := by
    intro x1 x2 x4 x6 M h
    unfold F_Bridge_weakest_l10 at h
    refine loop_C5 (G := fun (x1 : Int32) (x2 : Int64) (x4 : Int64) (x6 : Int32) (M : Mem) => GG p l e { frames := 4, cells := 0, slots := 0, locals := 104 } s m args below meth c g 7 (vx_MQ below (Qn g s.heap.size (.inl (some (.int rr))) MZ) (QX g s.heap.size (.inl (some (.int rr))) MZ) args s 0 0 (AS g s.heap.size)) 0 0 10 [(0, .ref (g.2.1 91)), (1, .int x1), (2, .long x2), (4, .long x4), (6, .int x6)] [] M) (body := F_Bridge_weakest_b10) ?_ FUEL _ _ _ _ _ (wpO_bind h)
    intro P10 E10 X10
    have J67 : ∀ (x6 : Int32) (M : Mem), wpO (F_Bridge_weakest_j67 x6 M) P10 → GG p l e { frames := 4, cells := 0, slots := 0, locals := 104 } s m args below meth c g 7 (vx_MQ below (Qn g s.heap.size (.inl (some (.int rr))) MZ) (QX g s.heap.size (.inl (some (.int rr))) MZ) args s 0 0 (AS g s.heap.size)) 0 0 67 [(0, .ref (g.2.1 91)), (6, .int x6)] [] M := by
      intro x6 M h
      unfold F_Bridge_weakest_j67 at h
      refine G_iload 1 rfl K dX1_weakest_67 ?_
      refine G_istore_n rfl K dX1_weakest_69 (Nat.le_of_ble_eq_true rfl) rfl ?_
      refine G_aload_n rfl 1 rfl K dX1_weakest_70 ?_
      refine G_get (ci := 1) (k := 1) K rfl in_X1 wd_394 rfl dX1_weakest_71 (Nat.le_of_ble_eq_true rfl) (sh_91 _ _) (Nat.le_of_ble_eq_true rfl) rfl ?_
      refine G_get (ci := 5) (k := 0) K rfl in_X5 wd_381 rfl dX1_weakest_74 (Nat.le_of_ble_eq_true rfl) (sh_92 _ _) (Nat.le_of_ble_eq_true rfl) rfl ?_
      refine G_lstore_n rfl K dX1_weakest_77 (Nat.le_of_ble_eq_true rfl) rfl ?_
      refine G_aload_n rfl 2 rfl K dX1_weakest_78 ?_
      refine G_get (ci := 1) (k := 1) K rfl in_X1 wd_394 rfl dX1_weakest_79 (Nat.le_of_ble_eq_true rfl) (sh_91 _ _) (Nat.le_of_ble_eq_true rfl) rfl ?_
      refine G_get (ci := 5) (k := 1) K rfl in_X5 wd_385 rfl dX1_weakest_82 (Nat.le_of_ble_eq_true rfl) (sh_92 _ _) (Nat.le_of_ble_eq_true rfl) rfl ?_
      refine G_lstore K dX1_weakest_85 (Nat.le_of_ble_eq_true rfl) rfl ?_
      refine G_iinc (v := x6 + 1) 4 rfl K dX1_weakest_87 rfl (Nat.le_of_ble_eq_true rfl) rfl ?_
      refine G_goto (tgt := 10) K dX1_weakest_90 (by decide) ?_
      exact G_lv (lv' := [(0, .ref (g.2.1 91)), (1, .int x6), (2, .long (M.2 92 0)), (4, .long (M.2 92 1)), (6, .int (x6 + 1))]) [4, 3, 2, 1, 0] rfl (E10 x6 (M.2 92 0) (M.2 92 1) (x6 + 1) M (wpO_some h))
    intro z h
    unfold F_Bridge_weakest_b10 at h
    refine G_iload 4 rfl K dX1_weakest_10 ?_
    refine G_aload_n rfl 0 rfl K dX1_weakest_12 ?_
    refine G_get (ci := 1) (k := 0) K rfl in_X1 wd_393 rfl dX1_weakest_13 (Nat.le_of_ble_eq_true rfl) (sh_91 _ _) (Nat.le_of_ble_eq_true rfl) rfl ?_
    refine G_get (ci := 10) (k := 8) K rfl in_X10 wd_92 rfl dX1_weakest_16 (Nat.le_of_ble_eq_true rfl) (sh_1 _ _) (Nat.le_of_ble_eq_true rfl) rfl ?_
    refine G_icmp_ge (tgt := 93) K dX1_weakest_19 (by decide) (fun hc => ?_) (fun hc => ?_)
    · have h := wpO_t h hc
      have h := X10 _ (wpO_some h)
      try dsimp only at h
      refine G_iload_n rfl 1 rfl K dX1_weakest_93 ?_
      cases hPHI _ (wpO_some h)
      exact G_iret K hr rfl dX1_weakest_94 (Nat.le_of_ble_eq_true rfl) (Nat.le_of_ble_eq_true rfl) ⟨rfl, rfl⟩
    · have h := wpO_f h hc
      refine G_aload_n rfl 0 rfl K dX1_weakest_22 ?_
      refine G_iload 4 rfl K dX1_weakest_23 ?_
      refine G_aload_n rfl 0 rfl K dX1_weakest_25 ?_
      refine G_get (ci := 1) (k := 0) K rfl in_X1 wd_393 rfl dX1_weakest_26 (Nat.le_of_ble_eq_true rfl) (sh_91 _ _) (Nat.le_of_ble_eq_true rfl) rfl ?_
      refine G_get (ci := 10) (k := 8) K rfl in_X10 wd_92 rfl dX1_weakest_29 (Nat.le_of_ble_eq_true rfl) (sh_1 _ _) (Nat.le_of_ble_eq_true rfl) rfl ?_
      refine G_aload_n rfl 0 rfl K dX1_weakest_32 ?_
      refine G_get (ci := 1) (k := 1) K rfl in_X1 wd_394 rfl dX1_weakest_33 (Nat.le_of_ble_eq_true rfl) (sh_91 _ _) (Nat.le_of_ble_eq_true rfl) rfl ?_
      obtain ⟨r1, e1, h⟩ := wpO_bind h
      refine G_callVv (ci := 1) [.int z.2.2.2.1, .int (z.2.2.2.2.1 1 8), .ref (g.2.1 92)] [] K dX1_weakest_36 wv_1454 yd_X1_tellEdge (Nat.le_of_ble_eq_true rfl) (sh_91 _ _) rfl (by decide) (by decide) rfl rfl (Nat.le_of_ble_eq_true rfl) (K_Bridge_tellEdge l g htr 92 isFrac_92 z.2.2.2.1 (z.2.2.2.2.1 1 8) z.2.2.2.2 _ e1) ?_
      refine G_iload_n rfl 1 rfl K dX1_weakest_39 ?_
      refine G_iconst (v := (-1)) rfl K dX1_weakest_40 ?_
      refine G_icmp_eq (tgt := 67) K dX1_weakest_41 (by decide) (fun hc => ?_) (fun hc => ?_)
      · have h := wpO_t h hc
        exact G_lv (lv' := [(0, .ref (g.2.1 91)), (6, .int z.2.2.2.1)]) [0, 4] rfl (J67 z.2.2.2.1 r1 h)
      · have h := wpO_f h hc
        refine G_aload_n rfl 0 rfl K dX1_weakest_44 ?_
        refine G_get (ci := 1) (k := 1) K rfl in_X1 wd_394 rfl dX1_weakest_45 (Nat.le_of_ble_eq_true rfl) (sh_91 _ _) (Nat.le_of_ble_eq_true rfl) rfl ?_
        refine G_get (ci := 5) (k := 0) K rfl in_X5 wd_381 rfl dX1_weakest_48 (Nat.le_of_ble_eq_true rfl) (sh_92 _ _) (Nat.le_of_ble_eq_true rfl) rfl ?_
        refine G_lload 3 rfl K dX1_weakest_51 ?_
        refine G_lmul K dX1_weakest_53 ?_
        refine G_lload_n rfl 2 rfl K dX1_weakest_54 ?_
        refine G_aload_n rfl 0 rfl K dX1_weakest_55 ?_
        refine G_get (ci := 1) (k := 1) K rfl in_X1 wd_394 rfl dX1_weakest_56 (Nat.le_of_ble_eq_true rfl) (sh_91 _ _) (Nat.le_of_ble_eq_true rfl) rfl ?_
        refine G_get (ci := 5) (k := 1) K rfl in_X5 wd_385 rfl dX1_weakest_59 (Nat.le_of_ble_eq_true rfl) (sh_92 _ _) (Nat.le_of_ble_eq_true rfl) rfl ?_
        refine G_lmul K dX1_weakest_62 ?_
        refine G_lcmp_le (tgt := 87) K dX1_weakest_63 dX1_weakest_64 (by decide) (fun hc => ?_) (fun hc => ?_)
        · have h := wpO_t h hc
          refine G_iinc (v := z.2.2.2.1 + 1) 4 rfl K dX1_weakest_87 rfl (Nat.le_of_ble_eq_true rfl) rfl ?_
          refine G_goto (tgt := 10) K dX1_weakest_90 (by decide) ?_
          exact G_lv (lv' := [(0, .ref (g.2.1 91)), (1, .int z.1), (2, .long z.2.1), (4, .long z.2.2.1), (6, .int (z.2.2.2.1 + 1))]) [1, 2, 3, 4, 0] rfl (E10 z.1 z.2.1 z.2.2.1 (z.2.2.2.1 + 1) r1 (wpO_some h))
        · have h := wpO_f h hc
          exact G_lv (lv' := [(0, .ref (g.2.1 91)), (6, .int z.2.2.2.1)]) [0, 4] rfl (J67 z.2.2.2.1 r1 h)
  unfold F_Bridge_weakest at h
  refine G_iconst (v := (-1)) rfl K dX1_weakest_0 ?_
  refine G_istore_n rfl K dX1_weakest_1 (Nat.le_of_ble_eq_true rfl) rfl ?_
  refine G_lconst (v := 0) rfl K dX1_weakest_2 ?_
  refine G_lstore_n rfl K dX1_weakest_3 (Nat.le_of_ble_eq_true rfl) rfl ?_
  refine G_lconst (v := 1) rfl K dX1_weakest_4 ?_
  refine G_lstore K dX1_weakest_5 (Nat.le_of_ble_eq_true rfl) rfl ?_
  refine G_iconst (v := 0) rfl K dX1_weakest_7 ?_
  refine G_istore K dX1_weakest_8 (Nat.le_of_ble_eq_true rfl) rfl ?_
  exact G_lv (lv' := [(0, .ref (g.2.1 91)), (1, .int ((-1))), (2, .long 0), (4, .long 1), (6, .int 0)]) [4, 3, 2, 1, 0] rfl (J10 ((-1)) 0 1 0 M h)
def on_J6_bitCount_0f7a4 : Nat := 0xac7e3f101a3b607c10101a1a3b607c08101a1a3b7e0b0113607c071a1a3b607e0a01137c051a7e0a01131a3b647e0901137c041a1a
theorem ob_J6_bitCount_0f7a4 : OKB cJ6_bitCount_0f7a4 on_J6_bitCount_0f7a4 53 := ⟨by decide +kernel, by decide +kernel⟩
theorem dJ6_bitCount_0f7a4_0 : dc cJ6_bitCount_0f7a4 0 1 (.iload_n 0) 1 := o_26 ob_J6_bitCount_0f7a4 rfl rfl rfl
theorem dJ6_bitCount_0f7a4_1 : dc cJ6_bitCount_0f7a4 1 2 (.iload_n 0) 1 := o_26 ob_J6_bitCount_0f7a4 rfl rfl rfl
theorem dJ6_bitCount_0f7a4_2 : dc cJ6_bitCount_0f7a4 2 3 (.iconst 1) 1 := o_4 ob_J6_bitCount_0f7a4 rfl rfl rfl
theorem dJ6_bitCount_0f7a4_3 : dc cJ6_bitCount_0f7a4 3 4 .iushr 1 := o_124 ob_J6_bitCount_0f7a4 rfl rfl rfl
theorem dJ6_bitCount_0f7a4_4 : dc cJ6_bitCount_0f7a4 4 7 (.ldc_w 265) 3 := o_19 ob_J6_bitCount_0f7a4 rfl rfl rfl rfl
theorem dJ6_bitCount_0f7a4_7 : dc cJ6_bitCount_0f7a4 7 8 .iand 1 := o_126 ob_J6_bitCount_0f7a4 rfl rfl rfl
theorem dJ6_bitCount_0f7a4_8 : dc cJ6_bitCount_0f7a4 8 9 .isub 1 := o_100 ob_J6_bitCount_0f7a4 rfl rfl rfl
theorem dJ6_bitCount_0f7a4_9 : dc cJ6_bitCount_0f7a4 9 10 (.istore_n 0) 1 := o_59 ob_J6_bitCount_0f7a4 rfl rfl rfl
theorem dJ6_bitCount_0f7a4_10 : dc cJ6_bitCount_0f7a4 10 11 (.iload_n 0) 1 := o_26 ob_J6_bitCount_0f7a4 rfl rfl rfl
theorem dJ6_bitCount_0f7a4_11 : dc cJ6_bitCount_0f7a4 11 14 (.ldc_w 266) 3 := o_19 ob_J6_bitCount_0f7a4 rfl rfl rfl rfl
theorem dJ6_bitCount_0f7a4_14 : dc cJ6_bitCount_0f7a4 14 15 .iand 1 := o_126 ob_J6_bitCount_0f7a4 rfl rfl rfl
theorem dJ6_bitCount_0f7a4_15 : dc cJ6_bitCount_0f7a4 15 16 (.iload_n 0) 1 := o_26 ob_J6_bitCount_0f7a4 rfl rfl rfl
theorem dJ6_bitCount_0f7a4_16 : dc cJ6_bitCount_0f7a4 16 17 (.iconst 2) 1 := o_5 ob_J6_bitCount_0f7a4 rfl rfl rfl
theorem dJ6_bitCount_0f7a4_17 : dc cJ6_bitCount_0f7a4 17 18 .iushr 1 := o_124 ob_J6_bitCount_0f7a4 rfl rfl rfl
theorem dJ6_bitCount_0f7a4_18 : dc cJ6_bitCount_0f7a4 18 21 (.ldc_w 266) 3 := o_19 ob_J6_bitCount_0f7a4 rfl rfl rfl rfl
theorem dJ6_bitCount_0f7a4_21 : dc cJ6_bitCount_0f7a4 21 22 .iand 1 := o_126 ob_J6_bitCount_0f7a4 rfl rfl rfl
theorem dJ6_bitCount_0f7a4_22 : dc cJ6_bitCount_0f7a4 22 23 .iadd 1 := o_96 ob_J6_bitCount_0f7a4 rfl rfl rfl
theorem dJ6_bitCount_0f7a4_23 : dc cJ6_bitCount_0f7a4 23 24 (.istore_n 0) 1 := o_59 ob_J6_bitCount_0f7a4 rfl rfl rfl
theorem dJ6_bitCount_0f7a4_24 : dc cJ6_bitCount_0f7a4 24 25 (.iload_n 0) 1 := o_26 ob_J6_bitCount_0f7a4 rfl rfl rfl
theorem dJ6_bitCount_0f7a4_25 : dc cJ6_bitCount_0f7a4 25 26 (.iload_n 0) 1 := o_26 ob_J6_bitCount_0f7a4 rfl rfl rfl
theorem dJ6_bitCount_0f7a4_26 : dc cJ6_bitCount_0f7a4 26 27 (.iconst 4) 1 := o_7 ob_J6_bitCount_0f7a4 rfl rfl rfl
theorem dJ6_bitCount_0f7a4_27 : dc cJ6_bitCount_0f7a4 27 28 .iushr 1 := o_124 ob_J6_bitCount_0f7a4 rfl rfl rfl
theorem dJ6_bitCount_0f7a4_28 : dc cJ6_bitCount_0f7a4 28 29 .iadd 1 := o_96 ob_J6_bitCount_0f7a4 rfl rfl rfl
theorem dJ6_bitCount_0f7a4_29 : dc cJ6_bitCount_0f7a4 29 32 (.ldc_w 267) 3 := o_19 ob_J6_bitCount_0f7a4 rfl rfl rfl rfl
theorem dJ6_bitCount_0f7a4_32 : dc cJ6_bitCount_0f7a4 32 33 .iand 1 := o_126 ob_J6_bitCount_0f7a4 rfl rfl rfl
theorem dJ6_bitCount_0f7a4_33 : dc cJ6_bitCount_0f7a4 33 34 (.istore_n 0) 1 := o_59 ob_J6_bitCount_0f7a4 rfl rfl rfl
theorem dJ6_bitCount_0f7a4_34 : dc cJ6_bitCount_0f7a4 34 35 (.iload_n 0) 1 := o_26 ob_J6_bitCount_0f7a4 rfl rfl rfl
theorem dJ6_bitCount_0f7a4_35 : dc cJ6_bitCount_0f7a4 35 36 (.iload_n 0) 1 := o_26 ob_J6_bitCount_0f7a4 rfl rfl rfl
theorem dJ6_bitCount_0f7a4_36 : dc cJ6_bitCount_0f7a4 36 38 (.bipush 8) 2 := o_16 ob_J6_bitCount_0f7a4 rfl rfl rfl rfl
theorem dJ6_bitCount_0f7a4_38 : dc cJ6_bitCount_0f7a4 38 39 .iushr 1 := o_124 ob_J6_bitCount_0f7a4 rfl rfl rfl
theorem dJ6_bitCount_0f7a4_39 : dc cJ6_bitCount_0f7a4 39 40 .iadd 1 := o_96 ob_J6_bitCount_0f7a4 rfl rfl rfl
theorem dJ6_bitCount_0f7a4_40 : dc cJ6_bitCount_0f7a4 40 41 (.istore_n 0) 1 := o_59 ob_J6_bitCount_0f7a4 rfl rfl rfl
theorem dJ6_bitCount_0f7a4_41 : dc cJ6_bitCount_0f7a4 41 42 (.iload_n 0) 1 := o_26 ob_J6_bitCount_0f7a4 rfl rfl rfl
theorem dJ6_bitCount_0f7a4_42 : dc cJ6_bitCount_0f7a4 42 43 (.iload_n 0) 1 := o_26 ob_J6_bitCount_0f7a4 rfl rfl rfl
theorem dJ6_bitCount_0f7a4_43 : dc cJ6_bitCount_0f7a4 43 45 (.bipush 16) 2 := o_16 ob_J6_bitCount_0f7a4 rfl rfl rfl rfl
theorem dJ6_bitCount_0f7a4_45 : dc cJ6_bitCount_0f7a4 45 46 .iushr 1 := o_124 ob_J6_bitCount_0f7a4 rfl rfl rfl
theorem dJ6_bitCount_0f7a4_46 : dc cJ6_bitCount_0f7a4 46 47 .iadd 1 := o_96 ob_J6_bitCount_0f7a4 rfl rfl rfl
theorem dJ6_bitCount_0f7a4_47 : dc cJ6_bitCount_0f7a4 47 48 (.istore_n 0) 1 := o_59 ob_J6_bitCount_0f7a4 rfl rfl rfl
theorem dJ6_bitCount_0f7a4_48 : dc cJ6_bitCount_0f7a4 48 49 (.iload_n 0) 1 := o_26 ob_J6_bitCount_0f7a4 rfl rfl rfl
theorem dJ6_bitCount_0f7a4_49 : dc cJ6_bitCount_0f7a4 49 51 (.bipush 63) 2 := o_16 ob_J6_bitCount_0f7a4 rfl rfl rfl rfl
theorem dJ6_bitCount_0f7a4_51 : dc cJ6_bitCount_0f7a4 51 52 .iand 1 := o_126 ob_J6_bitCount_0f7a4 rfl rfl rfl
theorem dJ6_bitCount_0f7a4_52 : dc cJ6_bitCount_0f7a4 52 53 .ireturn 1 := o_172 ob_J6_bitCount_0f7a4 rfl rfl rfl
def F_Integer_bitCount (x0 : Int32) (M : Mem) : Option (Int32) :=
  some ((((((((x0 - ((ush x0 1) &&& 1431655765)) &&& 858993459) + ((ush (x0 - ((ush x0 1) &&& 1431655765)) 2) &&& 858993459)) + (ush (((x0 - ((ush x0 1) &&& 1431655765)) &&& 858993459) + ((ush (x0 - ((ush x0 1) &&& 1431655765)) 2) &&& 858993459)) 4)) &&& 252645135) + (ush (((((x0 - ((ush x0 1) &&& 1431655765)) &&& 858993459) + ((ush (x0 - ((ush x0 1) &&& 1431655765)) 2) &&& 858993459)) + (ush (((x0 - ((ush x0 1) &&& 1431655765)) &&& 858993459) + ((ush (x0 - ((ush x0 1) &&& 1431655765)) 2) &&& 858993459)) 4)) &&& 252645135) 8)) + (ush ((((((x0 - ((ush x0 1) &&& 1431655765)) &&& 858993459) + ((ush (x0 - ((ush x0 1) &&& 1431655765)) 2) &&& 858993459)) + (ush (((x0 - ((ush x0 1) &&& 1431655765)) &&& 858993459) + ((ush (x0 - ((ush x0 1) &&& 1431655765)) 2) &&& 858993459)) 4)) &&& 252645135) + (ush (((((x0 - ((ush x0 1) &&& 1431655765)) &&& 858993459) + ((ush (x0 - ((ush x0 1) &&& 1431655765)) 2) &&& 858993459)) + (ush (((x0 - ((ush x0 1) &&& 1431655765)) &&& 858993459) + ((ush (x0 - ((ush x0 1) &&& 1431655765)) 2) &&& 858993459)) 4)) &&& 252645135) 8)) 16)) &&& 63)
set_option maxRecDepth 100000 in
set_option maxHeartbeats 4000000 in
theorem K_Integer_bitCount (l : Launch) (g : GB) (htr : l.stackTraces = false) (x0 : Int32) (M : Mem) (rr : Int32) (h : F_Integer_bitCount x0 M = some rr) : CT l g yJ6_bitCount_0f7a4 (.code yJ6_bitCount_0f7a4 cJ6_bitCount_0f7a4 1 (some .int) :: wAll) { frames := 0, cells := 0, slots := 0, locals := 0 } [.int x0] M (.inl (some (.int rr))) M := by
  refine CT.of [(0, .int x0)] (by decide +kernel) (Nat.le_of_ble_eq_true rfl) rfl htr ?_
  intro p e s m args below meth c K hr ht
  skip
  obtain ⟨PHI, hPHI, h⟩ : ∃ PHI : Int32 → Prop, (∀ a, PHI a → a = rr) ∧ wpO (F_Integer_bitCount x0 M) PHI := ⟨fun a => a = rr, fun _ h => h, _, h, rfl⟩
  unfold F_Integer_bitCount at h
  refine G_iload_n rfl 0 rfl K dJ6_bitCount_0f7a4_0 ?_
  refine G_iload_n rfl 0 rfl K dJ6_bitCount_0f7a4_1 ?_
  refine G_iconst (v := 1) rfl K dJ6_bitCount_0f7a4_2 ?_
  refine G_iushr K dJ6_bitCount_0f7a4_3 ?_
  refine G_ldc_w (v := 1431655765) K dJ6_bitCount_0f7a4_4 wd_1462 ?_
  refine G_iand K dJ6_bitCount_0f7a4_7 ?_
  refine G_isub K dJ6_bitCount_0f7a4_8 ?_
  refine G_istore_n rfl K dJ6_bitCount_0f7a4_9 (Nat.le_of_ble_eq_true rfl) rfl ?_
  refine G_iload_n rfl 0 rfl K dJ6_bitCount_0f7a4_10 ?_
  refine G_ldc_w (v := 858993459) K dJ6_bitCount_0f7a4_11 wd_1463 ?_
  refine G_iand K dJ6_bitCount_0f7a4_14 ?_
  refine G_iload_n rfl 0 rfl K dJ6_bitCount_0f7a4_15 ?_
  refine G_iconst (v := 2) rfl K dJ6_bitCount_0f7a4_16 ?_
  refine G_iushr K dJ6_bitCount_0f7a4_17 ?_
  refine G_ldc_w (v := 858993459) K dJ6_bitCount_0f7a4_18 wd_1463 ?_
  refine G_iand K dJ6_bitCount_0f7a4_21 ?_
  refine G_iadd K dJ6_bitCount_0f7a4_22 ?_
  refine G_istore_n rfl K dJ6_bitCount_0f7a4_23 (Nat.le_of_ble_eq_true rfl) rfl ?_
  refine G_iload_n rfl 0 rfl K dJ6_bitCount_0f7a4_24 ?_
  refine G_iload_n rfl 0 rfl K dJ6_bitCount_0f7a4_25 ?_
  refine G_iconst (v := 4) rfl K dJ6_bitCount_0f7a4_26 ?_
  refine G_iushr K dJ6_bitCount_0f7a4_27 ?_
  refine G_iadd K dJ6_bitCount_0f7a4_28 ?_
  refine G_ldc_w (v := 252645135) K dJ6_bitCount_0f7a4_29 wd_1464 ?_
  refine G_iand K dJ6_bitCount_0f7a4_32 ?_
  refine G_istore_n rfl K dJ6_bitCount_0f7a4_33 (Nat.le_of_ble_eq_true rfl) rfl ?_
  refine G_iload_n rfl 0 rfl K dJ6_bitCount_0f7a4_34 ?_
  refine G_iload_n rfl 0 rfl K dJ6_bitCount_0f7a4_35 ?_
  refine G_bipush (v := 8) rfl K dJ6_bitCount_0f7a4_36 ?_
  refine G_iushr K dJ6_bitCount_0f7a4_38 ?_
  refine G_iadd K dJ6_bitCount_0f7a4_39 ?_
  refine G_istore_n rfl K dJ6_bitCount_0f7a4_40 (Nat.le_of_ble_eq_true rfl) rfl ?_
  refine G_iload_n rfl 0 rfl K dJ6_bitCount_0f7a4_41 ?_
  refine G_iload_n rfl 0 rfl K dJ6_bitCount_0f7a4_42 ?_
  refine G_bipush (v := 16) rfl K dJ6_bitCount_0f7a4_43 ?_
  refine G_iushr K dJ6_bitCount_0f7a4_45 ?_
  refine G_iadd K dJ6_bitCount_0f7a4_46 ?_
  refine G_istore_n rfl K dJ6_bitCount_0f7a4_47 (Nat.le_of_ble_eq_true rfl) rfl ?_
  refine G_iload_n rfl 0 rfl K dJ6_bitCount_0f7a4_48 ?_
  refine G_bipush (v := 63) rfl K dJ6_bitCount_0f7a4_49 ?_
  refine G_iand K dJ6_bitCount_0f7a4_51 ?_
  cases hPHI _ (wpO_some h)
  exact G_iret K hr rfl dJ6_bitCount_0f7a4_52 (Nat.le_of_ble_eq_true rfl) (Nat.le_of_ble_eq_true rfl) ⟨rfl, rfl⟩
theorem yd_J6_bitCount_0f7a4 : ydN yJ6_bitCount_0f7a4 1 := ⟨by decide, by decide, by decide +kernel⟩
theorem wv_1459 : wdS "KeptWell$Bridge" 56 yJ6_bitCount_0f7a4 cJ6_bitCount_0f7a4 1 (some .int) := ⟨wd_1459, wd_1460, wd_27, wd_1461⟩
def on_X1_isHeldWithout : Nat := 0xac04baffa7010384ac0305009c9469854100b41200b42a3100b40c00b42a693500b40c00b42a853e00b41200b42a2d00b60c00b42a1c1d2a33009a7e047a1d1b4100a22900b41200b42a1d3e033d643800b81b2900b41200b42a
theorem ob_X1_isHeldWithout : OKB cX1_isHeldWithout on_X1_isHeldWithout 90 := ⟨by decide +kernel, by decide +kernel⟩
theorem dX1_isHeldWithout_0 : dc cX1_isHeldWithout 0 1 (.aload_n 0) 1 := o_42 ob_X1_isHeldWithout rfl rfl rfl
theorem dX1_isHeldWithout_1 : dc cX1_isHeldWithout 1 4 (.getfield 18) 3 := o_180 ob_X1_isHeldWithout rfl rfl rfl rfl
theorem dX1_isHeldWithout_4 : dc cX1_isHeldWithout 4 7 (.getfield 41) 3 := o_180 ob_X1_isHeldWithout rfl rfl rfl rfl
theorem dX1_isHeldWithout_7 : dc cX1_isHeldWithout 7 8 (.iload_n 1) 1 := o_27 ob_X1_isHeldWithout rfl rfl rfl
theorem dX1_isHeldWithout_8 : dc cX1_isHeldWithout 8 11 (.invokestatic 56) 3 := o_184 ob_X1_isHeldWithout rfl rfl rfl rfl
theorem dX1_isHeldWithout_11 : dc cX1_isHeldWithout 11 12 .isub 1 := o_100 ob_X1_isHeldWithout rfl rfl rfl
theorem dX1_isHeldWithout_12 : dc cX1_isHeldWithout 12 13 (.istore_n 2) 1 := o_61 ob_X1_isHeldWithout rfl rfl rfl
theorem dX1_isHeldWithout_13 : dc cX1_isHeldWithout 13 14 (.iconst 0) 1 := o_3 ob_X1_isHeldWithout rfl rfl rfl
theorem dX1_isHeldWithout_14 : dc cX1_isHeldWithout 14 15 (.istore_n 3) 1 := o_62 ob_X1_isHeldWithout rfl rfl rfl
theorem dX1_isHeldWithout_15 : dc cX1_isHeldWithout 15 16 (.iload_n 3) 1 := o_29 ob_X1_isHeldWithout rfl rfl rfl
theorem dX1_isHeldWithout_16 : dc cX1_isHeldWithout 16 17 (.aload_n 0) 1 := o_42 ob_X1_isHeldWithout rfl rfl rfl
theorem dX1_isHeldWithout_17 : dc cX1_isHeldWithout 17 20 (.getfield 18) 3 := o_180 ob_X1_isHeldWithout rfl rfl rfl rfl
theorem dX1_isHeldWithout_20 : dc cX1_isHeldWithout 20 23 (.getfield 41) 3 := o_180 ob_X1_isHeldWithout rfl rfl rfl rfl
theorem dX1_isHeldWithout_23 : dc cX1_isHeldWithout 23 26 (.if_icmp .ge 65) 3 := o_162 ob_X1_isHeldWithout rfl rfl rfl rfl
theorem dX1_isHeldWithout_26 : dc cX1_isHeldWithout 26 27 (.iload_n 1) 1 := o_27 ob_X1_isHeldWithout rfl rfl rfl
theorem dX1_isHeldWithout_27 : dc cX1_isHeldWithout 27 28 (.iload_n 3) 1 := o_29 ob_X1_isHeldWithout rfl rfl rfl
theorem dX1_isHeldWithout_28 : dc cX1_isHeldWithout 28 29 .ishr 1 := o_122 ob_X1_isHeldWithout rfl rfl rfl
theorem dX1_isHeldWithout_29 : dc cX1_isHeldWithout 29 30 (.iconst 1) 1 := o_4 ob_X1_isHeldWithout rfl rfl rfl
theorem dX1_isHeldWithout_30 : dc cX1_isHeldWithout 30 31 .iand 1 := o_126 ob_X1_isHeldWithout rfl rfl rfl
theorem dX1_isHeldWithout_31 : dc cX1_isHeldWithout 31 34 (.ifCond .ne 51) 3 := o_154 ob_X1_isHeldWithout rfl rfl rfl rfl
theorem dX1_isHeldWithout_34 : dc cX1_isHeldWithout 34 35 (.aload_n 0) 1 := o_42 ob_X1_isHeldWithout rfl rfl rfl
theorem dX1_isHeldWithout_35 : dc cX1_isHeldWithout 35 36 (.iload_n 3) 1 := o_29 ob_X1_isHeldWithout rfl rfl rfl
theorem dX1_isHeldWithout_36 : dc cX1_isHeldWithout 36 37 (.iload_n 2) 1 := o_28 ob_X1_isHeldWithout rfl rfl rfl
theorem dX1_isHeldWithout_37 : dc cX1_isHeldWithout 37 38 (.aload_n 0) 1 := o_42 ob_X1_isHeldWithout rfl rfl rfl
theorem dX1_isHeldWithout_38 : dc cX1_isHeldWithout 38 41 (.getfield 12) 3 := o_180 ob_X1_isHeldWithout rfl rfl rfl rfl
theorem dX1_isHeldWithout_41 : dc cX1_isHeldWithout 41 44 (.invokevirtual 45) 3 := o_182 ob_X1_isHeldWithout rfl rfl rfl rfl
theorem dX1_isHeldWithout_44 : dc cX1_isHeldWithout 44 45 (.aload_n 0) 1 := o_42 ob_X1_isHeldWithout rfl rfl rfl
theorem dX1_isHeldWithout_45 : dc cX1_isHeldWithout 45 48 (.getfield 18) 3 := o_180 ob_X1_isHeldWithout rfl rfl rfl rfl
theorem dX1_isHeldWithout_48 : dc cX1_isHeldWithout 48 51 (.getfield 62) 3 := o_180 ob_X1_isHeldWithout rfl rfl rfl rfl
theorem dX1_isHeldWithout_51 : dc cX1_isHeldWithout 51 52 .i2l 1 := o_133 ob_X1_isHeldWithout rfl rfl rfl
theorem dX1_isHeldWithout_52 : dc cX1_isHeldWithout 52 53 (.aload_n 0) 1 := o_42 ob_X1_isHeldWithout rfl rfl rfl
theorem dX1_isHeldWithout_53 : dc cX1_isHeldWithout 53 56 (.getfield 12) 3 := o_180 ob_X1_isHeldWithout rfl rfl rfl rfl
theorem dX1_isHeldWithout_56 : dc cX1_isHeldWithout 56 59 (.getfield 53) 3 := o_180 ob_X1_isHeldWithout rfl rfl rfl rfl
theorem dX1_isHeldWithout_59 : dc cX1_isHeldWithout 59 60 .lmul 1 := o_105 ob_X1_isHeldWithout rfl rfl rfl
theorem dX1_isHeldWithout_60 : dc cX1_isHeldWithout 60 61 (.aload_n 0) 1 := o_42 ob_X1_isHeldWithout rfl rfl rfl
theorem dX1_isHeldWithout_61 : dc cX1_isHeldWithout 61 64 (.getfield 12) 3 := o_180 ob_X1_isHeldWithout rfl rfl rfl rfl
theorem dX1_isHeldWithout_64 : dc cX1_isHeldWithout 64 67 (.getfield 49) 3 := o_180 ob_X1_isHeldWithout rfl rfl rfl rfl
theorem dX1_isHeldWithout_67 : dc cX1_isHeldWithout 67 68 (.aload_n 0) 1 := o_42 ob_X1_isHeldWithout rfl rfl rfl
theorem dX1_isHeldWithout_68 : dc cX1_isHeldWithout 68 71 (.getfield 18) 3 := o_180 ob_X1_isHeldWithout rfl rfl rfl rfl
theorem dX1_isHeldWithout_71 : dc cX1_isHeldWithout 71 74 (.getfield 65) 3 := o_180 ob_X1_isHeldWithout rfl rfl rfl rfl
theorem dX1_isHeldWithout_74 : dc cX1_isHeldWithout 74 75 .i2l 1 := o_133 ob_X1_isHeldWithout rfl rfl rfl
theorem dX1_isHeldWithout_75 : dc cX1_isHeldWithout 75 76 .lmul 1 := o_105 ob_X1_isHeldWithout rfl rfl rfl
theorem dX1_isHeldWithout_76 : dc cX1_isHeldWithout 76 77 .lcmp 1 := o_148 ob_X1_isHeldWithout rfl rfl rfl
theorem dX1_isHeldWithout_77 : dc cX1_isHeldWithout 77 80 (.ifCond .ge 5) 3 := o_156 ob_X1_isHeldWithout rfl rfl rfl rfl
theorem dX1_isHeldWithout_80 : dc cX1_isHeldWithout 80 81 (.iconst 0) 1 := o_3 ob_X1_isHeldWithout rfl rfl rfl
theorem dX1_isHeldWithout_81 : dc cX1_isHeldWithout 81 82 .ireturn 1 := o_172 ob_X1_isHeldWithout rfl rfl rfl
theorem dX1_isHeldWithout_82 : dc cX1_isHeldWithout 82 85 (.iinc 3 1) 3 := o_132 ob_X1_isHeldWithout rfl rfl rfl rfl rfl
theorem dX1_isHeldWithout_85 : dc cX1_isHeldWithout 85 88 (.goto (-70)) 3 := o_167 ob_X1_isHeldWithout rfl rfl rfl rfl
theorem dX1_isHeldWithout_88 : dc cX1_isHeldWithout 88 89 (.iconst 1) 1 := o_4 ob_X1_isHeldWithout rfl rfl rfl
theorem dX1_isHeldWithout_89 : dc cX1_isHeldWithout 89 90 .ireturn 1 := o_172 ob_X1_isHeldWithout rfl rfl rfl
def F_Bridge_isHeldWithout_b15 (x1 : Int32) (x2 : Int32) (z : Int32 × Mem) : Option ((Int32 × Mem) ⊕ ((Mem) ⊕ ((Mem)))) :=
  if (z.2.1 1 8) ≤ z.1 then some (.inr (.inr z.2)) else if ((x1 >>> (z.1 &&& 31)) &&& 1) = 0 then (F_Bridge_tellEdge 92 z.1 x2 z.2).bind fun r2 => if ((r2.2 92 0) * ((r2.1 1 2).toInt64)) ≤ (((r2.1 1 1).toInt64) * (r2.2 92 1)) then some (.inl ((z.1 + 1, r2))) else some (.inr (.inl r2)) else some (.inl ((z.1 + 1, z.2)))
def F_Bridge_isHeldWithout_l15 (x1 : Int32) (x2 : Int32) (x3 : Int32) (M : Mem) : Option (Bool × Mem) :=
  (iter (F_Bridge_isHeldWithout_b15 x1 x2) FUEL (x3, M)).bind fun q => match q with
    | .inl r => some ((false, r))
    | .inr r => some ((true, r))
def F_Bridge_isHeldWithout (x1 : Int32) (M : Mem) : Option (Bool × Mem) :=
  (F_Integer_bitCount x1 M).bind fun r1 => F_Bridge_isHeldWithout_l15 x1 ((M.1 1 8) - r1) 0 M
set_option maxRecDepth 100000 in
set_option maxHeartbeats 4000000 in
theorem K_Bridge_isHeldWithout (l : Launch) (g : GB) (htr : l.stackTraces = false) (x1 : Int32) (M : Mem) (rr : Bool) (MZ : Mem) (h : F_Bridge_isHeldWithout x1 M = some (rr, MZ)) : CT l g yX1_isHeldWithout (.code yX1_isHeldWithout cX1_isHeldWithout 4 (some .boolean) :: wAll) { frames := 4, cells := 0, slots := 0, locals := 104 } [.ref (g.2.1 91), .int x1] M (.inl (some (.int (b2i rr)))) MZ := by
  refine CT.of [(0, .ref (g.2.1 91)), (1, .int x1)] (by decide +kernel) (Nat.le_of_ble_eq_true rfl) rfl htr ?_
  intro p e s m args below meth c K hr ht
  skip
  obtain ⟨PHI, hPHI, h⟩ : ∃ PHI : Bool × Mem → Prop, (∀ a, PHI a → a = (rr, MZ)) ∧ wpO (F_Bridge_isHeldWithout x1 M) PHI := ⟨fun a => a = (rr, MZ), fun _ h => h, _, h, rfl⟩
  have J15 : ∀ (x1 : Int32) (x2 : Int32) (x3 : Int32) (M : Mem), wpO (F_Bridge_isHeldWithout_l15 x1 x2 x3 M) PHI → GG p l e { frames := 4, cells := 0, slots := 0, locals := 104 } s m args below meth c g 4 (vx_MQ below (Qn g s.heap.size (.inl (some (.int (b2i rr)))) MZ) (QX g s.heap.size (.inl (some (.int (b2i rr)))) MZ) args s 0 0 (AS g s.heap.size)) 0 0 15 [(0, .ref (g.2.1 91)), (1, .int x1), (2, .int x2), (3, .int x3)] [] M := by
    intro x1 x2 x3 M h
    unfold F_Bridge_isHeldWithout_l15 at h
    refine loop_C2 (G := fun (x3 : Int32) (M : Mem) => GG p l e { frames := 4, cells := 0, slots := 0, locals := 104 } s m args below meth c g 4 (vx_MQ below (Qn g s.heap.size (.inl (some (.int (b2i rr)))) MZ) (QX g s.heap.size (.inl (some (.int (b2i rr)))) MZ) args s 0 0 (AS g s.heap.size)) 0 0 15 [(0, .ref (g.2.1 91)), (1, .int x1), (2, .int x2), (3, .int x3)] [] M) (body := F_Bridge_isHeldWithout_b15 x1 x2) ?_ FUEL _ _ (wpO_bind h)
    intro P15 E15 X15
    intro z h
    unfold F_Bridge_isHeldWithout_b15 at h
    refine G_iload_n rfl 3 rfl K dX1_isHeldWithout_15 ?_
    refine G_aload_n rfl 0 rfl K dX1_isHeldWithout_16 ?_
    refine G_get (ci := 1) (k := 0) K rfl in_X1 wd_393 rfl dX1_isHeldWithout_17 (Nat.le_of_ble_eq_true rfl) (sh_91 _ _) (Nat.le_of_ble_eq_true rfl) rfl ?_
    refine G_get (ci := 10) (k := 8) K rfl in_X10 wd_92 rfl dX1_isHeldWithout_20 (Nat.le_of_ble_eq_true rfl) (sh_1 _ _) (Nat.le_of_ble_eq_true rfl) rfl ?_
    refine G_icmp_ge (tgt := 88) K dX1_isHeldWithout_23 (by decide) (fun hc => ?_) (fun hc => ?_)
    · have h := wpO_t h hc
      have h := X15 _ (wpO_some h)
      try dsimp only at h
      refine G_iconst (v := 1) rfl K dX1_isHeldWithout_88 ?_
      cases hPHI _ (wpO_some h)
      exact G_iret K hr rfl dX1_isHeldWithout_89 (Nat.le_of_ble_eq_true rfl) (Nat.le_of_ble_eq_true rfl) ⟨rfl, rfl⟩
    · have h := wpO_f h hc
      refine G_iload_n rfl 1 rfl K dX1_isHeldWithout_26 ?_
      refine G_iload_n rfl 3 rfl K dX1_isHeldWithout_27 ?_
      refine G_ishr K dX1_isHeldWithout_28 ?_
      refine G_iconst (v := 1) rfl K dX1_isHeldWithout_29 ?_
      refine G_iand K dX1_isHeldWithout_30 ?_
      refine G_if_ne (tgt := 82) K dX1_isHeldWithout_31 (by decide) (fun hc => ?_) (fun hc => ?_)
      · have h := wpO_f h hc
        refine G_iinc (v := z.1 + 1) 3 rfl K dX1_isHeldWithout_82 rfl (Nat.le_of_ble_eq_true rfl) rfl ?_
        refine G_goto (tgt := 15) K dX1_isHeldWithout_85 (by decide) ?_
        exact G_lv (lv' := [(0, .ref (g.2.1 91)), (1, .int x1), (2, .int x2), (3, .int (z.1 + 1))]) [1, 2, 3, 0] rfl (E15 (z.1 + 1) z.2 (wpO_some h))
      · have h := wpO_t h hc
        refine G_aload_n rfl 0 rfl K dX1_isHeldWithout_34 ?_
        refine G_iload_n rfl 3 rfl K dX1_isHeldWithout_35 ?_
        refine G_iload_n rfl 2 rfl K dX1_isHeldWithout_36 ?_
        refine G_aload_n rfl 0 rfl K dX1_isHeldWithout_37 ?_
        refine G_get (ci := 1) (k := 1) K rfl in_X1 wd_394 rfl dX1_isHeldWithout_38 (Nat.le_of_ble_eq_true rfl) (sh_91 _ _) (Nat.le_of_ble_eq_true rfl) rfl ?_
        obtain ⟨r2, e2, h⟩ := wpO_bind h
        refine G_callVv (ci := 1) [.int z.1, .int x2, .ref (g.2.1 92)] [] K dX1_isHeldWithout_41 wv_1454 yd_X1_tellEdge (Nat.le_of_ble_eq_true rfl) (sh_91 _ _) rfl (by decide) (by decide) rfl rfl (Nat.le_of_ble_eq_true rfl) (K_Bridge_tellEdge l g htr 92 isFrac_92 z.1 x2 z.2 _ e2) ?_
        refine G_aload_n rfl 0 rfl K dX1_isHeldWithout_44 ?_
        refine G_get (ci := 1) (k := 0) K rfl in_X1 wd_393 rfl dX1_isHeldWithout_45 (Nat.le_of_ble_eq_true rfl) (sh_91 _ _) (Nat.le_of_ble_eq_true rfl) rfl ?_
        refine G_get (ci := 10) (k := 1) K rfl in_X10 wd_63 rfl dX1_isHeldWithout_48 (Nat.le_of_ble_eq_true rfl) (sh_1 _ _) (Nat.le_of_ble_eq_true rfl) rfl ?_
        refine G_i2l K dX1_isHeldWithout_51 ?_
        refine G_aload_n rfl 0 rfl K dX1_isHeldWithout_52 ?_
        refine G_get (ci := 1) (k := 1) K rfl in_X1 wd_394 rfl dX1_isHeldWithout_53 (Nat.le_of_ble_eq_true rfl) (sh_91 _ _) (Nat.le_of_ble_eq_true rfl) rfl ?_
        refine G_get (ci := 5) (k := 1) K rfl in_X5 wd_385 rfl dX1_isHeldWithout_56 (Nat.le_of_ble_eq_true rfl) (sh_92 _ _) (Nat.le_of_ble_eq_true rfl) rfl ?_
        refine G_lmul K dX1_isHeldWithout_59 ?_
        refine G_aload_n rfl 0 rfl K dX1_isHeldWithout_60 ?_
        refine G_get (ci := 1) (k := 1) K rfl in_X1 wd_394 rfl dX1_isHeldWithout_61 (Nat.le_of_ble_eq_true rfl) (sh_91 _ _) (Nat.le_of_ble_eq_true rfl) rfl ?_
        refine G_get (ci := 5) (k := 0) K rfl in_X5 wd_381 rfl dX1_isHeldWithout_64 (Nat.le_of_ble_eq_true rfl) (sh_92 _ _) (Nat.le_of_ble_eq_true rfl) rfl ?_
        refine G_aload_n rfl 0 rfl K dX1_isHeldWithout_67 ?_
        refine G_get (ci := 1) (k := 0) K rfl in_X1 wd_393 rfl dX1_isHeldWithout_68 (Nat.le_of_ble_eq_true rfl) (sh_91 _ _) (Nat.le_of_ble_eq_true rfl) rfl ?_
        refine G_get (ci := 10) (k := 2) K rfl in_X10 wd_69 rfl dX1_isHeldWithout_71 (Nat.le_of_ble_eq_true rfl) (sh_1 _ _) (Nat.le_of_ble_eq_true rfl) rfl ?_
        refine G_i2l K dX1_isHeldWithout_74 ?_
        refine G_lmul K dX1_isHeldWithout_75 ?_
        refine G_lcmp_ge (tgt := 82) K dX1_isHeldWithout_76 dX1_isHeldWithout_77 (by decide) (fun hc => ?_) (fun hc => ?_)
        · have h := wpO_t h hc
          refine G_iinc (v := z.1 + 1) 3 rfl K dX1_isHeldWithout_82 rfl (Nat.le_of_ble_eq_true rfl) rfl ?_
          refine G_goto (tgt := 15) K dX1_isHeldWithout_85 (by decide) ?_
          exact G_lv (lv' := [(0, .ref (g.2.1 91)), (1, .int x1), (2, .int x2), (3, .int (z.1 + 1))]) [1, 2, 3, 0] rfl (E15 (z.1 + 1) r2 (wpO_some h))
        · have h := wpO_f h hc
          have h := X15 _ (wpO_some h)
          try dsimp only at h
          refine G_iconst (v := 0) rfl K dX1_isHeldWithout_80 ?_
          cases hPHI _ (wpO_some h)
          exact G_iret K hr rfl dX1_isHeldWithout_81 (Nat.le_of_ble_eq_true rfl) (Nat.le_of_ble_eq_true rfl) ⟨rfl, rfl⟩
  unfold F_Bridge_isHeldWithout at h
  refine G_aload_n rfl 0 rfl K dX1_isHeldWithout_0 ?_
  refine G_get (ci := 1) (k := 0) K rfl in_X1 wd_393 rfl dX1_isHeldWithout_1 (Nat.le_of_ble_eq_true rfl) (sh_91 _ _) (Nat.le_of_ble_eq_true rfl) rfl ?_
  refine G_get (ci := 10) (k := 8) K rfl in_X10 wd_92 rfl dX1_isHeldWithout_4 (Nat.le_of_ble_eq_true rfl) (sh_1 _ _) (Nat.le_of_ble_eq_true rfl) rfl ?_
  refine G_iload_n rfl 1 rfl K dX1_isHeldWithout_7 ?_
  obtain ⟨r1, e1, h⟩ := wpO_bind h
  refine G_callSi [.int x1] [.int (M.1 1 8)] K dX1_isHeldWithout_8 wv_1459 yd_J6_bitCount_0f7a4 (by decide) (by decide) rfl rfl (Nat.le_of_ble_eq_true rfl) (K_Integer_bitCount l g htr x1 M _ e1) ?_
  refine G_isub K dX1_isHeldWithout_11 ?_
  refine G_istore_n rfl K dX1_isHeldWithout_12 (Nat.le_of_ble_eq_true rfl) rfl ?_
  refine G_iconst (v := 0) rfl K dX1_isHeldWithout_13 ?_
  refine G_istore_n rfl K dX1_isHeldWithout_14 (Nat.le_of_ble_eq_true rfl) rfl ?_
  exact G_lv (lv' := [(0, .ref (g.2.1 91)), (1, .int x1), (2, .int ((M.1 1 8) - r1)), (3, .int 0)]) [2, 3, 1, 0] rfl (J15 x1 ((M.1 1 8) - r1) 0 M h)
theorem yd_X1_isHeldWithout : ydN yX1_isHeldWithout 1 := ⟨by decide, by decide, by decide +kernel⟩
theorem wv_1469 : wdV "KeptWell$Bridge" 68 yX1_isHeldWithout cX1_isHeldWithout 4 (some .boolean) := ⟨wd_1469, wd_1456, wd_1457, wd_12, wd_1458⟩
def on_X1_fewestOut : Nat := 0xac1ce4ffa7ff03843d1d0500994400b61d2a0d00a33800b81c3800b81d1e009b1d3e1b3d1b3c6404782900b41200b42a04
theorem ob_X1_fewestOut : OKB cX1_fewestOut on_X1_fewestOut 49 := ⟨by decide +kernel, by decide +kernel⟩
theorem dX1_fewestOut_0 : dc cX1_fewestOut 0 1 (.iconst 1) 1 := o_4 ob_X1_fewestOut rfl rfl rfl
theorem dX1_fewestOut_1 : dc cX1_fewestOut 1 2 (.aload_n 0) 1 := o_42 ob_X1_fewestOut rfl rfl rfl
theorem dX1_fewestOut_2 : dc cX1_fewestOut 2 5 (.getfield 18) 3 := o_180 ob_X1_fewestOut rfl rfl rfl rfl
theorem dX1_fewestOut_5 : dc cX1_fewestOut 5 8 (.getfield 41) 3 := o_180 ob_X1_fewestOut rfl rfl rfl rfl
theorem dX1_fewestOut_8 : dc cX1_fewestOut 8 9 .ishl 1 := o_120 ob_X1_fewestOut rfl rfl rfl
theorem dX1_fewestOut_9 : dc cX1_fewestOut 9 10 (.iconst 1) 1 := o_4 ob_X1_fewestOut rfl rfl rfl
theorem dX1_fewestOut_10 : dc cX1_fewestOut 10 11 .isub 1 := o_100 ob_X1_fewestOut rfl rfl rfl
theorem dX1_fewestOut_11 : dc cX1_fewestOut 11 12 (.istore_n 1) 1 := o_60 ob_X1_fewestOut rfl rfl rfl
theorem dX1_fewestOut_12 : dc cX1_fewestOut 12 13 (.iload_n 1) 1 := o_27 ob_X1_fewestOut rfl rfl rfl
theorem dX1_fewestOut_13 : dc cX1_fewestOut 13 14 (.istore_n 2) 1 := o_61 ob_X1_fewestOut rfl rfl rfl
theorem dX1_fewestOut_14 : dc cX1_fewestOut 14 15 (.iload_n 1) 1 := o_27 ob_X1_fewestOut rfl rfl rfl
theorem dX1_fewestOut_15 : dc cX1_fewestOut 15 16 (.istore_n 3) 1 := o_62 ob_X1_fewestOut rfl rfl rfl
theorem dX1_fewestOut_16 : dc cX1_fewestOut 16 17 (.iload_n 3) 1 := o_29 ob_X1_fewestOut rfl rfl rfl
theorem dX1_fewestOut_17 : dc cX1_fewestOut 17 20 (.ifCond .lt 30) 3 := o_155 ob_X1_fewestOut rfl rfl rfl rfl
theorem dX1_fewestOut_20 : dc cX1_fewestOut 20 21 (.iload_n 3) 1 := o_29 ob_X1_fewestOut rfl rfl rfl
theorem dX1_fewestOut_21 : dc cX1_fewestOut 21 24 (.invokestatic 56) 3 := o_184 ob_X1_fewestOut rfl rfl rfl rfl
theorem dX1_fewestOut_24 : dc cX1_fewestOut 24 25 (.iload_n 2) 1 := o_28 ob_X1_fewestOut rfl rfl rfl
theorem dX1_fewestOut_25 : dc cX1_fewestOut 25 28 (.invokestatic 56) 3 := o_184 ob_X1_fewestOut rfl rfl rfl rfl
theorem dX1_fewestOut_28 : dc cX1_fewestOut 28 31 (.if_icmp .gt 13) 3 := o_163 ob_X1_fewestOut rfl rfl rfl rfl
theorem dX1_fewestOut_31 : dc cX1_fewestOut 31 32 (.aload_n 0) 1 := o_42 ob_X1_fewestOut rfl rfl rfl
theorem dX1_fewestOut_32 : dc cX1_fewestOut 32 33 (.iload_n 3) 1 := o_29 ob_X1_fewestOut rfl rfl rfl
theorem dX1_fewestOut_33 : dc cX1_fewestOut 33 36 (.invokevirtual 68) 3 := o_182 ob_X1_fewestOut rfl rfl rfl rfl
theorem dX1_fewestOut_36 : dc cX1_fewestOut 36 39 (.ifCond .eq 5) 3 := o_153 ob_X1_fewestOut rfl rfl rfl rfl
theorem dX1_fewestOut_39 : dc cX1_fewestOut 39 40 (.iload_n 3) 1 := o_29 ob_X1_fewestOut rfl rfl rfl
theorem dX1_fewestOut_40 : dc cX1_fewestOut 40 41 (.istore_n 2) 1 := o_61 ob_X1_fewestOut rfl rfl rfl
theorem dX1_fewestOut_41 : dc cX1_fewestOut 41 44 (.iinc 3 (-1)) 3 := o_132 ob_X1_fewestOut rfl rfl rfl rfl rfl
theorem dX1_fewestOut_44 : dc cX1_fewestOut 44 47 (.goto (-28)) 3 := o_167 ob_X1_fewestOut rfl rfl rfl rfl
theorem dX1_fewestOut_47 : dc cX1_fewestOut 47 48 (.iload_n 2) 1 := o_28 ob_X1_fewestOut rfl rfl rfl
theorem dX1_fewestOut_48 : dc cX1_fewestOut 48 49 .ireturn 1 := o_172 ob_X1_fewestOut rfl rfl rfl
def F_Bridge_fewestOut_b16 (z : Int32 × Int32 × Mem) : Option ((Int32 × Int32 × Mem) ⊕ ((Int32 × Mem))) :=
  if z.2.1 < 0 then some (.inr ((z.1, z.2.2))) else (F_Integer_bitCount z.2.1 z.2.2).bind fun r1 => (F_Integer_bitCount z.1 z.2.2).bind fun r2 => if r2 < r1 then some (.inl ((z.1, z.2.1 + (-1), z.2.2))) else (F_Bridge_isHeldWithout z.2.1 z.2.2).bind fun r3 => if r3.1 = true then some (.inl ((z.2.1, z.2.1 + (-1), r3.2))) else some (.inl ((z.1, z.2.1 + (-1), r3.2)))
def F_Bridge_fewestOut_l16 (x2 : Int32) (x3 : Int32) (M : Mem) : Option (Int32 × Mem) :=
  (iter (F_Bridge_fewestOut_b16) FUEL (x2, x3, M)).bind fun r => some ((r.1, r.2))
def F_Bridge_fewestOut (M : Mem) : Option (Int32 × Mem) :=
  F_Bridge_fewestOut_l16 ((1 <<< ((M.1 1 8) &&& 31)) - 1) ((1 <<< ((M.1 1 8) &&& 31)) - 1) M
set_option maxRecDepth 100000 in
set_option maxHeartbeats 4000000 in
theorem K_Bridge_fewestOut (l : Launch) (g : GB) (htr : l.stackTraces = false) (M : Mem) (rr : Int32) (MZ : Mem) (h : F_Bridge_fewestOut M = some (rr, MZ)) : CT l g yX1_fewestOut (.code yX1_fewestOut cX1_fewestOut 4 (some .int) :: wAll) { frames := 5, cells := 0, slots := 0, locals := 127 } [.ref (g.2.1 91)] M (.inl (some (.int rr))) MZ := by
  refine CT.of [(0, .ref (g.2.1 91))] (by decide +kernel) (Nat.le_of_ble_eq_true rfl) rfl htr ?_
  intro p e s m args below meth c K hr ht
  skip
  obtain ⟨PHI, hPHI, h⟩ : ∃ PHI : Int32 × Mem → Prop, (∀ a, PHI a → a = (rr, MZ)) ∧ wpO (F_Bridge_fewestOut M) PHI := ⟨fun a => a = (rr, MZ), fun _ h => h, _, h, rfl⟩
  have J16 : ∀ (x2 : Int32) (x3 : Int32) (M : Mem), wpO (F_Bridge_fewestOut_l16 x2 x3 M) PHI → GG p l e { frames := 5, cells := 0, slots := 0, locals := 127 } s m args below meth c g 4 (vx_MQ below (Qn g s.heap.size (.inl (some (.int rr))) MZ) (QX g s.heap.size (.inl (some (.int rr))) MZ) args s 0 0 (AS g s.heap.size)) 0 0 16 [(0, .ref (g.2.1 91)), (2, .int x2), (3, .int x3)] [] M := by
    intro x2 x3 M h
    unfold F_Bridge_fewestOut_l16 at h
    refine loop_C3 (G := fun (x2 : Int32) (x3 : Int32) (M : Mem) => GG p l e { frames := 5, cells := 0, slots := 0, locals := 127 } s m args below meth c g 4 (vx_MQ below (Qn g s.heap.size (.inl (some (.int rr))) MZ) (QX g s.heap.size (.inl (some (.int rr))) MZ) args s 0 0 (AS g s.heap.size)) 0 0 16 [(0, .ref (g.2.1 91)), (2, .int x2), (3, .int x3)] [] M) (body := F_Bridge_fewestOut_b16) ?_ FUEL _ _ _ (wpO_bind h)
    intro P16 E16 X16
    intro z h
    unfold F_Bridge_fewestOut_b16 at h
    refine G_iload_n rfl 2 rfl K dX1_fewestOut_16 ?_
    refine G_if_lt (tgt := 47) K dX1_fewestOut_17 (by decide) (fun hc => ?_) (fun hc => ?_)
    · have h := wpO_t h hc
      have h := X16 _ (wpO_some h)
      try dsimp only at h
      refine G_iload_n rfl 1 rfl K dX1_fewestOut_47 ?_
      cases hPHI _ (wpO_some h)
      exact G_iret K hr rfl dX1_fewestOut_48 (Nat.le_of_ble_eq_true rfl) (Nat.le_of_ble_eq_true rfl) ⟨rfl, rfl⟩
    · have h := wpO_f h hc
      refine G_iload_n rfl 2 rfl K dX1_fewestOut_20 ?_
      obtain ⟨r1, e1, h⟩ := wpO_bind h
      refine G_callSi [.int z.2.1] [] K dX1_fewestOut_21 wv_1459 yd_J6_bitCount_0f7a4 (by decide) (by decide) rfl rfl (Nat.le_of_ble_eq_true rfl) (K_Integer_bitCount l g htr z.2.1 z.2.2 _ e1) ?_
      refine G_iload_n rfl 1 rfl K dX1_fewestOut_24 ?_
      obtain ⟨r2, e2, h⟩ := wpO_bind h
      refine G_callSi [.int z.1] [.int r1] K dX1_fewestOut_25 wv_1459 yd_J6_bitCount_0f7a4 (by decide) (by decide) rfl rfl (Nat.le_of_ble_eq_true rfl) (K_Integer_bitCount l g htr z.1 z.2.2 _ e2) ?_
      refine G_icmp_gt (tgt := 41) K dX1_fewestOut_28 (by decide) (fun hc => ?_) (fun hc => ?_)
      · have h := wpO_t h hc
        refine G_iinc (v := z.2.1 + (-1)) 2 rfl K dX1_fewestOut_41 rfl (Nat.le_of_ble_eq_true rfl) rfl ?_
        refine G_goto (tgt := 16) K dX1_fewestOut_44 (by decide) ?_
        exact G_lv (lv' := [(0, .ref (g.2.1 91)), (2, .int z.1), (3, .int (z.2.1 + (-1)))]) [1, 2, 0] rfl (E16 z.1 (z.2.1 + (-1)) z.2.2 (wpO_some h))
      · have h := wpO_f h hc
        refine G_aload_n rfl 0 rfl K dX1_fewestOut_31 ?_
        refine G_iload_n rfl 2 rfl K dX1_fewestOut_32 ?_
        obtain ⟨r3, e3, h⟩ := wpO_bind h
        refine G_callVi (ci := 1) [.int z.2.1] [] K dX1_fewestOut_33 wv_1469 yd_X1_isHeldWithout (Nat.le_of_ble_eq_true rfl) (sh_91 _ _) rfl (by decide) (by decide) rfl rfl (Nat.le_of_ble_eq_true rfl) (K_Bridge_isHeldWithout l g htr z.2.1 z.2.2 _ _ e3) ?_
        refine G_ifb_eq (tgt := 41) K dX1_fewestOut_36 (by decide) (fun hc => ?_) (fun hc => ?_)
        · have h := wpO_bf h hc
          refine G_iinc (v := z.2.1 + (-1)) 2 rfl K dX1_fewestOut_41 rfl (Nat.le_of_ble_eq_true rfl) rfl ?_
          refine G_goto (tgt := 16) K dX1_fewestOut_44 (by decide) ?_
          exact G_lv (lv' := [(0, .ref (g.2.1 91)), (2, .int z.1), (3, .int (z.2.1 + (-1)))]) [1, 2, 0] rfl (E16 z.1 (z.2.1 + (-1)) r3.2 (wpO_some h))
        · have h := wpO_t h hc
          refine G_iload_n rfl 2 rfl K dX1_fewestOut_39 ?_
          refine G_istore_n rfl K dX1_fewestOut_40 (Nat.le_of_ble_eq_true rfl) rfl ?_
          refine G_iinc (v := z.2.1 + (-1)) 2 rfl K dX1_fewestOut_41 rfl (Nat.le_of_ble_eq_true rfl) rfl ?_
          refine G_goto (tgt := 16) K dX1_fewestOut_44 (by decide) ?_
          exact G_lv (lv' := [(0, .ref (g.2.1 91)), (2, .int z.2.1), (3, .int (z.2.1 + (-1)))]) [2, 1, 0] rfl (E16 z.2.1 (z.2.1 + (-1)) r3.2 (wpO_some h))
  unfold F_Bridge_fewestOut at h
  refine G_iconst (v := 1) rfl K dX1_fewestOut_0 ?_
  refine G_aload_n rfl 0 rfl K dX1_fewestOut_1 ?_
  refine G_get (ci := 1) (k := 0) K rfl in_X1 wd_393 rfl dX1_fewestOut_2 (Nat.le_of_ble_eq_true rfl) (sh_91 _ _) (Nat.le_of_ble_eq_true rfl) rfl ?_
  refine G_get (ci := 10) (k := 8) K rfl in_X10 wd_92 rfl dX1_fewestOut_5 (Nat.le_of_ble_eq_true rfl) (sh_1 _ _) (Nat.le_of_ble_eq_true rfl) rfl ?_
  refine G_ishl K dX1_fewestOut_8 ?_
  refine G_iconst (v := 1) rfl K dX1_fewestOut_9 ?_
  refine G_isub K dX1_fewestOut_10 ?_
  refine G_istore_n rfl K dX1_fewestOut_11 (Nat.le_of_ble_eq_true rfl) rfl ?_
  refine G_iload_n rfl 0 rfl K dX1_fewestOut_12 ?_
  refine G_istore_n rfl K dX1_fewestOut_13 (Nat.le_of_ble_eq_true rfl) rfl ?_
  refine G_iload_n rfl 1 rfl K dX1_fewestOut_14 ?_
  refine G_istore_n rfl K dX1_fewestOut_15 (Nat.le_of_ble_eq_true rfl) rfl ?_
  exact G_lv (lv' := [(0, .ref (g.2.1 91)), (2, .int ((1 <<< ((M.1 1 8) &&& 31)) - 1)), (3, .int ((1 <<< ((M.1 1 8) &&& 31)) - 1))]) [3, 1, 0] rfl (J16 ((1 <<< ((M.1 1 8) &&& 31)) - 1) ((1 <<< ((M.1 1 8) &&& 31)) - 1) M h)
