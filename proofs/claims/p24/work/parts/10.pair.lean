theorem yd_X10_nextOf : ydN yX10_nextOf 3 := ⟨by decide, by decide, by decide +kernel⟩
theorem wv_510 : wdV "KeptWell$Pair" 81 yX10_nextOf cX10_nextOf 4 (some .int) := ⟨wd_510, wd_511, wd_512, wd_2, wd_513⟩
def on_X6_placeAfter : Nat := 0xac605100b61d1c1600b42a2b00b42a685100b604151b1200b42a2b00b42a06
theorem ob_X6_placeAfter : OKB cX6_placeAfter on_X6_placeAfter 31 := ⟨by decide +kernel, by decide +kernel⟩
theorem dX6_placeAfter_0 : dc cX6_placeAfter 0 1 (.iconst 3) 1 := o_6 ob_X6_placeAfter rfl rfl rfl
theorem dX6_placeAfter_1 : dc cX6_placeAfter 1 2 (.aload_n 0) 1 := o_42 ob_X6_placeAfter rfl rfl rfl
theorem dX6_placeAfter_2 : dc cX6_placeAfter 2 5 (.getfield 43) 3 := o_180 ob_X6_placeAfter rfl rfl rfl rfl
theorem dX6_placeAfter_5 : dc cX6_placeAfter 5 6 (.aload_n 0) 1 := o_42 ob_X6_placeAfter rfl rfl rfl
theorem dX6_placeAfter_6 : dc cX6_placeAfter 6 9 (.getfield 18) 3 := o_180 ob_X6_placeAfter rfl rfl rfl rfl
theorem dX6_placeAfter_9 : dc cX6_placeAfter 9 10 (.iload_n 1) 1 := o_27 ob_X6_placeAfter rfl rfl rfl
theorem dX6_placeAfter_10 : dc cX6_placeAfter 10 12 (.iload 4) 2 := o_21 ob_X6_placeAfter rfl rfl rfl rfl
theorem dX6_placeAfter_12 : dc cX6_placeAfter 12 15 (.invokevirtual 81) 3 := o_182 ob_X6_placeAfter rfl rfl rfl rfl
theorem dX6_placeAfter_15 : dc cX6_placeAfter 15 16 .imul 1 := o_104 ob_X6_placeAfter rfl rfl rfl
theorem dX6_placeAfter_16 : dc cX6_placeAfter 16 17 (.aload_n 0) 1 := o_42 ob_X6_placeAfter rfl rfl rfl
theorem dX6_placeAfter_17 : dc cX6_placeAfter 17 20 (.getfield 43) 3 := o_180 ob_X6_placeAfter rfl rfl rfl rfl
theorem dX6_placeAfter_20 : dc cX6_placeAfter 20 21 (.aload_n 0) 1 := o_42 ob_X6_placeAfter rfl rfl rfl
theorem dX6_placeAfter_21 : dc cX6_placeAfter 21 24 (.getfield 22) 3 := o_180 ob_X6_placeAfter rfl rfl rfl rfl
theorem dX6_placeAfter_24 : dc cX6_placeAfter 24 25 (.iload_n 2) 1 := o_28 ob_X6_placeAfter rfl rfl rfl
theorem dX6_placeAfter_25 : dc cX6_placeAfter 25 26 (.iload_n 3) 1 := o_29 ob_X6_placeAfter rfl rfl rfl
theorem dX6_placeAfter_26 : dc cX6_placeAfter 26 29 (.invokevirtual 81) 3 := o_182 ob_X6_placeAfter rfl rfl rfl rfl
theorem dX6_placeAfter_29 : dc cX6_placeAfter 29 30 .iadd 1 := o_96 ob_X6_placeAfter rfl rfl rfl
theorem dX6_placeAfter_30 : dc cX6_placeAfter 30 31 .ireturn 1 := o_172 ob_X6_placeAfter rfl rfl rfl
def F_Pair_placeAfter (x1 : Int32) (x2 : Int32) (x3 : Int32) (x4 : Int32) (M : Mem) : Option (Int32) :=
  (F_Well_nextOf (M.1 34 2) x1 x4 M).bind fun r1 => (F_Well_nextOf (M.1 34 3) x2 x3 M).bind fun r2 => some ((3 * r1) + r2)
set_option maxRecDepth 100000 in
set_option maxHeartbeats 4000000 in
theorem K_Pair_placeAfter (l : Launch) (g : GB) (htr : l.stackTraces = false) (x1 : Int32) (x2 : Int32) (x3 : Int32) (x4 : Int32) (M : Mem) (rr : Int32) (h : F_Pair_placeAfter x1 x2 x3 x4 M = some rr) : CT l g yX6_placeAfter (.code yX6_placeAfter cX6_placeAfter 5 (some .int) :: wAll) { frames := 2, cells := 0, slots := 0, locals := 44 } [.ref (g.2.1 34), .int x1, .int x2, .int x3, .int x4] M (.inl (some (.int rr))) M := by
  refine CT.of [(0, .ref (g.2.1 34)), (1, .int x1), (2, .int x2), (3, .int x3), (4, .int x4)] (by decide +kernel) (Nat.le_of_ble_eq_true rfl) rfl htr ?_
  intro p e s m args below meth c K hr ht
  skip
  obtain ⟨PHI, hPHI, h⟩ : ∃ PHI : Int32 → Prop, (∀ a, PHI a → a = rr) ∧ wpO (F_Pair_placeAfter x1 x2 x3 x4 M) PHI := ⟨fun a => a = rr, fun _ h => h, _, h, rfl⟩
  unfold F_Pair_placeAfter at h
  refine G_iconst (v := 3) rfl K dX6_placeAfter_0 ?_
  refine G_aload_n rfl 0 rfl K dX6_placeAfter_1 ?_
  refine G_get (ci := 6) (k := 0) K rfl in_X6 wd_220 rfl dX6_placeAfter_2 (Nat.le_of_ble_eq_true rfl) (sh_34 _ _) (Nat.le_of_ble_eq_true rfl) rfl ?_
  refine G_aload_n rfl 0 rfl K dX6_placeAfter_5 ?_
  refine G_get (ci := 6) (k := 2) K rfl in_X6 wd_222 rfl dX6_placeAfter_6 (Nat.le_of_ble_eq_true rfl) (sh_34 _ _) (Nat.le_of_ble_eq_true rfl) rfl ?_
  refine G_iload_n rfl 1 rfl K dX6_placeAfter_9 ?_
  refine G_iload 4 rfl K dX6_placeAfter_10 ?_
  obtain ⟨r1, e1, h⟩ := wpO_bind h
  refine G_callVi (ci := 10) [.int (M.1 34 2), .int x1, .int x4] [.int 3] K dX6_placeAfter_12 wv_510 yd_X10_nextOf (Nat.le_of_ble_eq_true rfl) (sh_1 _ _) rfl (by decide) (by decide) rfl rfl (Nat.le_of_ble_eq_true rfl) (K_Well_nextOf l g htr (M.1 34 2) x1 x4 M _ e1) ?_
  refine G_imul K dX6_placeAfter_15 ?_
  refine G_aload_n rfl 0 rfl K dX6_placeAfter_16 ?_
  refine G_get (ci := 6) (k := 0) K rfl in_X6 wd_220 rfl dX6_placeAfter_17 (Nat.le_of_ble_eq_true rfl) (sh_34 _ _) (Nat.le_of_ble_eq_true rfl) rfl ?_
  refine G_aload_n rfl 0 rfl K dX6_placeAfter_20 ?_
  refine G_get (ci := 6) (k := 3) K rfl in_X6 wd_223 rfl dX6_placeAfter_21 (Nat.le_of_ble_eq_true rfl) (sh_34 _ _) (Nat.le_of_ble_eq_true rfl) rfl ?_
  refine G_iload_n rfl 2 rfl K dX6_placeAfter_24 ?_
  refine G_iload_n rfl 3 rfl K dX6_placeAfter_25 ?_
  obtain ⟨r2, e2, h⟩ := wpO_bind h
  refine G_callVi (ci := 10) [.int (M.1 34 3), .int x2, .int x3] [.int (3 * r1)] K dX6_placeAfter_26 wv_510 yd_X10_nextOf (Nat.le_of_ble_eq_true rfl) (sh_1 _ _) rfl (by decide) (by decide) rfl rfl (Nat.le_of_ble_eq_true rfl) (K_Well_nextOf l g htr (M.1 34 3) x2 x3 M _ e2) ?_
  refine G_iadd K dX6_placeAfter_29 ?_
  cases hPHI _ (wpO_some h)
  exact G_iret K hr rfl dX6_placeAfter_30 (Nat.le_of_ble_eq_true rfl) (Nat.le_of_ble_eq_true rfl) ⟨rfl, rfl⟩
theorem yd_X2_put : ydN yX2_put 4 := ⟨by decide, by decide, by decide +kernel⟩
theorem yd_X2_reckon : ydN yX2_reckon 2 := ⟨by decide, by decide, by decide +kernel⟩
theorem yd_X2_clear : ydN yX2_clear 0 := ⟨by decide, by decide, by decide +kernel⟩
theorem yd_X6_placeAfter : ydN yX6_placeAfter 4 := ⟨by decide, by decide, by decide +kernel⟩
theorem yd_X10_bringsTo : ydN yX10_bringsTo 3 := ⟨by decide, by decide, by decide +kernel⟩
theorem wv_494 : wdV "KeptWell$Pair" 47 yX10_moodsOf cX10_moodsOf 2 (some .int) := ⟨wd_494, wd_476, wd_477, wd_2, wd_478⟩
theorem wv_495 : wdS "KeptWell$Pair" 53 yJ9_min_7cf53 cJ9_min_7cf53 2 (some .int) := ⟨wd_495, wd_484, wd_4, wd_485⟩
theorem wv_496 : wdV "KeptWell$Pair" 59 yX2_clear cX2_clear 1 none := ⟨wd_496, wd_497, wd_498, wd_7, wd_499⟩
theorem wv_523 : wdV "KeptWell$Pair" 77 yX2_reckon cX2_reckon 6 none := ⟨wd_523, wd_524, wd_525, wd_7, wd_526⟩
theorem wv_505 : wdV "KeptWell$Pair" 62 yX10_actOf cX10_actOf 3 (some .int) := ⟨wd_505, wd_487, wd_488, wd_2, wd_489⟩
theorem wv_506 : wdV "KeptWell$Pair" 65 yX6_placeAfter cX6_placeAfter 5 (some .int) := ⟨wd_506, wd_508, ws_X6_placeAfter, wd_6, wd_509⟩
theorem wv_514 : wdV "KeptWell$Pair" 69 yX10_bringsTo cX10_bringsTo 4 (some .int) := ⟨wd_514, wd_515, wd_516, wd_2, wd_517⟩
theorem wv_518 : wdV "KeptWell$Pair" 73 yX2_put cX2_put 5 none := ⟨wd_518, wd_519, wd_520, wd_7, wd_521⟩
def on_X6_look : Nat := 0xb14d00b60516210c00b42a92ffa7010784a4ffa70108844900b64500b60a150915042b00b42a4500b60a150915032b00b42a4100b60a150915081507152a600815680715060c00b42a0a363e00b608151600b42a2b00b42a09363e00b607151200b42a2b00b42a5900a21c00b42a08150836036b00a21900b42a07150736033b00b60c00b42a1c00b53500b8062f00b61600b42a2b00b42a2a1900b53500b8062f00b61200b42a2b00b42a2a1600b51c2a1200b51b2a
theorem ob_X6_look : OKB cX6_look on_X6_look 182 := ⟨by decide +kernel, by decide +kernel⟩
theorem dX6_look_0 : dc cX6_look 0 1 (.aload_n 0) 1 := o_42 ob_X6_look rfl rfl rfl
theorem dX6_look_1 : dc cX6_look 1 2 (.iload_n 1) 1 := o_27 ob_X6_look rfl rfl rfl
theorem dX6_look_2 : dc cX6_look 2 5 (.putfield 18) 3 := o_181 ob_X6_look rfl rfl rfl rfl
theorem dX6_look_5 : dc cX6_look 5 6 (.aload_n 0) 1 := o_42 ob_X6_look rfl rfl rfl
theorem dX6_look_6 : dc cX6_look 6 7 (.iload_n 2) 1 := o_28 ob_X6_look rfl rfl rfl
theorem dX6_look_7 : dc cX6_look 7 10 (.putfield 22) 3 := o_181 ob_X6_look rfl rfl rfl rfl
theorem dX6_look_10 : dc cX6_look 10 11 (.aload_n 0) 1 := o_42 ob_X6_look rfl rfl rfl
theorem dX6_look_11 : dc cX6_look 11 12 (.aload_n 0) 1 := o_42 ob_X6_look rfl rfl rfl
theorem dX6_look_12 : dc cX6_look 12 15 (.getfield 43) 3 := o_180 ob_X6_look rfl rfl rfl rfl
theorem dX6_look_15 : dc cX6_look 15 16 (.aload_n 0) 1 := o_42 ob_X6_look rfl rfl rfl
theorem dX6_look_16 : dc cX6_look 16 19 (.getfield 18) 3 := o_180 ob_X6_look rfl rfl rfl rfl
theorem dX6_look_19 : dc cX6_look 19 22 (.invokevirtual 47) 3 := o_182 ob_X6_look rfl rfl rfl rfl
theorem dX6_look_22 : dc cX6_look 22 23 (.iconst 3) 1 := o_6 ob_X6_look rfl rfl rfl
theorem dX6_look_23 : dc cX6_look 23 26 (.invokestatic 53) 3 := o_184 ob_X6_look rfl rfl rfl rfl
theorem dX6_look_26 : dc cX6_look 26 29 (.putfield 25) 3 := o_181 ob_X6_look rfl rfl rfl rfl
theorem dX6_look_29 : dc cX6_look 29 30 (.aload_n 0) 1 := o_42 ob_X6_look rfl rfl rfl
theorem dX6_look_30 : dc cX6_look 30 31 (.aload_n 0) 1 := o_42 ob_X6_look rfl rfl rfl
theorem dX6_look_31 : dc cX6_look 31 34 (.getfield 43) 3 := o_180 ob_X6_look rfl rfl rfl rfl
theorem dX6_look_34 : dc cX6_look 34 35 (.aload_n 0) 1 := o_42 ob_X6_look rfl rfl rfl
theorem dX6_look_35 : dc cX6_look 35 38 (.getfield 22) 3 := o_180 ob_X6_look rfl rfl rfl rfl
theorem dX6_look_38 : dc cX6_look 38 41 (.invokevirtual 47) 3 := o_182 ob_X6_look rfl rfl rfl rfl
theorem dX6_look_41 : dc cX6_look 41 42 (.iconst 3) 1 := o_6 ob_X6_look rfl rfl rfl
theorem dX6_look_42 : dc cX6_look 42 45 (.invokestatic 53) 3 := o_184 ob_X6_look rfl rfl rfl rfl
theorem dX6_look_45 : dc cX6_look 45 48 (.putfield 28) 3 := o_181 ob_X6_look rfl rfl rfl rfl
theorem dX6_look_48 : dc cX6_look 48 49 (.aload_n 0) 1 := o_42 ob_X6_look rfl rfl rfl
theorem dX6_look_49 : dc cX6_look 49 52 (.getfield 12) 3 := o_180 ob_X6_look rfl rfl rfl rfl
theorem dX6_look_52 : dc cX6_look 52 55 (.invokevirtual 59) 3 := o_182 ob_X6_look rfl rfl rfl rfl
theorem dX6_look_55 : dc cX6_look 55 56 (.iconst 0) 1 := o_3 ob_X6_look rfl rfl rfl
theorem dX6_look_56 : dc cX6_look 56 58 (.istore 7) 2 := o_54 ob_X6_look rfl rfl rfl rfl
theorem dX6_look_58 : dc cX6_look 58 60 (.iload 7) 2 := o_21 ob_X6_look rfl rfl rfl rfl
theorem dX6_look_60 : dc cX6_look 60 61 (.aload_n 0) 1 := o_42 ob_X6_look rfl rfl rfl
theorem dX6_look_61 : dc cX6_look 61 64 (.getfield 25) 3 := o_180 ob_X6_look rfl rfl rfl rfl
theorem dX6_look_64 : dc cX6_look 64 67 (.if_icmp .ge 107) 3 := o_162 ob_X6_look rfl rfl rfl rfl
theorem dX6_look_67 : dc cX6_look 67 68 (.iconst 0) 1 := o_3 ob_X6_look rfl rfl rfl
theorem dX6_look_68 : dc cX6_look 68 70 (.istore 8) 2 := o_54 ob_X6_look rfl rfl rfl rfl
theorem dX6_look_70 : dc cX6_look 70 72 (.iload 8) 2 := o_21 ob_X6_look rfl rfl rfl rfl
theorem dX6_look_72 : dc cX6_look 72 73 (.aload_n 0) 1 := o_42 ob_X6_look rfl rfl rfl
theorem dX6_look_73 : dc cX6_look 73 76 (.getfield 28) 3 := o_180 ob_X6_look rfl rfl rfl rfl
theorem dX6_look_76 : dc cX6_look 76 79 (.if_icmp .ge 89) 3 := o_162 ob_X6_look rfl rfl rfl rfl
theorem dX6_look_79 : dc cX6_look 79 80 (.aload_n 0) 1 := o_42 ob_X6_look rfl rfl rfl
theorem dX6_look_80 : dc cX6_look 80 83 (.getfield 43) 3 := o_180 ob_X6_look rfl rfl rfl rfl
theorem dX6_look_83 : dc cX6_look 83 84 (.aload_n 0) 1 := o_42 ob_X6_look rfl rfl rfl
theorem dX6_look_84 : dc cX6_look 84 87 (.getfield 18) 3 := o_180 ob_X6_look rfl rfl rfl rfl
theorem dX6_look_87 : dc cX6_look 87 89 (.iload 7) 2 := o_21 ob_X6_look rfl rfl rfl rfl
theorem dX6_look_89 : dc cX6_look 89 92 (.invokevirtual 62) 3 := o_182 ob_X6_look rfl rfl rfl rfl
theorem dX6_look_92 : dc cX6_look 92 94 (.istore 9) 2 := o_54 ob_X6_look rfl rfl rfl rfl
theorem dX6_look_94 : dc cX6_look 94 95 (.aload_n 0) 1 := o_42 ob_X6_look rfl rfl rfl
theorem dX6_look_95 : dc cX6_look 95 98 (.getfield 43) 3 := o_180 ob_X6_look rfl rfl rfl rfl
theorem dX6_look_98 : dc cX6_look 98 99 (.aload_n 0) 1 := o_42 ob_X6_look rfl rfl rfl
theorem dX6_look_99 : dc cX6_look 99 102 (.getfield 22) 3 := o_180 ob_X6_look rfl rfl rfl rfl
theorem dX6_look_102 : dc cX6_look 102 104 (.iload 8) 2 := o_21 ob_X6_look rfl rfl rfl rfl
theorem dX6_look_104 : dc cX6_look 104 107 (.invokevirtual 62) 3 := o_182 ob_X6_look rfl rfl rfl rfl
theorem dX6_look_107 : dc cX6_look 107 109 (.istore 10) 2 := o_54 ob_X6_look rfl rfl rfl rfl
theorem dX6_look_109 : dc cX6_look 109 110 (.aload_n 0) 1 := o_42 ob_X6_look rfl rfl rfl
theorem dX6_look_110 : dc cX6_look 110 113 (.getfield 12) 3 := o_180 ob_X6_look rfl rfl rfl rfl
theorem dX6_look_113 : dc cX6_look 113 114 (.iconst 3) 1 := o_6 ob_X6_look rfl rfl rfl
theorem dX6_look_114 : dc cX6_look 114 116 (.iload 7) 2 := o_21 ob_X6_look rfl rfl rfl rfl
theorem dX6_look_116 : dc cX6_look 116 117 .imul 1 := o_104 ob_X6_look rfl rfl rfl
theorem dX6_look_117 : dc cX6_look 117 119 (.iload 8) 2 := o_21 ob_X6_look rfl rfl rfl rfl
theorem dX6_look_119 : dc cX6_look 119 120 .iadd 1 := o_96 ob_X6_look rfl rfl rfl
theorem dX6_look_120 : dc cX6_look 120 121 (.aload_n 0) 1 := o_42 ob_X6_look rfl rfl rfl
theorem dX6_look_121 : dc cX6_look 121 123 (.iload 7) 2 := o_21 ob_X6_look rfl rfl rfl rfl
theorem dX6_look_123 : dc cX6_look 123 125 (.iload 8) 2 := o_21 ob_X6_look rfl rfl rfl rfl
theorem dX6_look_125 : dc cX6_look 125 127 (.iload 9) 2 := o_21 ob_X6_look rfl rfl rfl rfl
theorem dX6_look_127 : dc cX6_look 127 129 (.iload 10) 2 := o_21 ob_X6_look rfl rfl rfl rfl
theorem dX6_look_129 : dc cX6_look 129 132 (.invokevirtual 65) 3 := o_182 ob_X6_look rfl rfl rfl rfl
theorem dX6_look_132 : dc cX6_look 132 133 (.aload_n 0) 1 := o_42 ob_X6_look rfl rfl rfl
theorem dX6_look_133 : dc cX6_look 133 136 (.getfield 43) 3 := o_180 ob_X6_look rfl rfl rfl rfl
theorem dX6_look_136 : dc cX6_look 136 137 (.iconst 0) 1 := o_3 ob_X6_look rfl rfl rfl
theorem dX6_look_137 : dc cX6_look 137 139 (.iload 9) 2 := o_21 ob_X6_look rfl rfl rfl rfl
theorem dX6_look_139 : dc cX6_look 139 141 (.iload 10) 2 := o_21 ob_X6_look rfl rfl rfl rfl
theorem dX6_look_141 : dc cX6_look 141 144 (.invokevirtual 69) 3 := o_182 ob_X6_look rfl rfl rfl rfl
theorem dX6_look_144 : dc cX6_look 144 145 (.aload_n 0) 1 := o_42 ob_X6_look rfl rfl rfl
theorem dX6_look_145 : dc cX6_look 145 148 (.getfield 43) 3 := o_180 ob_X6_look rfl rfl rfl rfl
theorem dX6_look_148 : dc cX6_look 148 149 (.iconst 1) 1 := o_4 ob_X6_look rfl rfl rfl
theorem dX6_look_149 : dc cX6_look 149 151 (.iload 9) 2 := o_21 ob_X6_look rfl rfl rfl rfl
theorem dX6_look_151 : dc cX6_look 151 153 (.iload 10) 2 := o_21 ob_X6_look rfl rfl rfl rfl
theorem dX6_look_153 : dc cX6_look 153 156 (.invokevirtual 69) 3 := o_182 ob_X6_look rfl rfl rfl rfl
theorem dX6_look_156 : dc cX6_look 156 159 (.invokevirtual 73) 3 := o_182 ob_X6_look rfl rfl rfl rfl
theorem dX6_look_159 : dc cX6_look 159 162 (.iinc 8 1) 3 := o_132 ob_X6_look rfl rfl rfl rfl rfl
theorem dX6_look_162 : dc cX6_look 162 165 (.goto (-92)) 3 := o_167 ob_X6_look rfl rfl rfl rfl
theorem dX6_look_165 : dc cX6_look 165 168 (.iinc 7 1) 3 := o_132 ob_X6_look rfl rfl rfl rfl rfl
theorem dX6_look_168 : dc cX6_look 168 171 (.goto (-110)) 3 := o_167 ob_X6_look rfl rfl rfl rfl
theorem dX6_look_171 : dc cX6_look 171 172 (.aload_n 0) 1 := o_42 ob_X6_look rfl rfl rfl
theorem dX6_look_172 : dc cX6_look 172 175 (.getfield 12) 3 := o_180 ob_X6_look rfl rfl rfl rfl
theorem dX6_look_175 : dc cX6_look 175 176 (.lload_n 3) 1 := o_33 ob_X6_look rfl rfl rfl
theorem dX6_look_176 : dc cX6_look 176 178 (.lload 5) 2 := o_22 ob_X6_look rfl rfl rfl rfl
theorem dX6_look_178 : dc cX6_look 178 181 (.invokevirtual 77) 3 := o_182 ob_X6_look rfl rfl rfl rfl
theorem dX6_look_181 : dc cX6_look 181 182 .return_ 1 := o_177 ob_X6_look rfl rfl rfl
def F_Pair_look_j171 (x3 : Int64) (x5 : Int64) (M : Mem) : Option (Mem) :=
  (F_Chain_reckon 35 x3 x5 M).bind fun r6 => some r6
def F_Pair_look_b70 (x3 : Int64) (x5 : Int64) (x7 : Int32) (z : Int32 × Mem) : Option ((Int32 × Mem) ⊕ ((Mem))) :=
  if (z.2.1 34 5) ≤ z.1 then some (.inr z.2) else (F_Well_actOf (z.2.1 34 2) x7 z.2).bind fun r7 => (F_Well_actOf (z.2.1 34 3) z.1 z.2).bind fun r8 => (F_Pair_placeAfter x7 z.1 r7 r8 z.2).bind fun r9 => (F_Well_bringsTo 0 r7 r8 z.2).bind fun r10 => (F_Well_bringsTo 1 r7 r8 z.2).bind fun r11 => (F_Chain_put 35 ((3 * x7) + z.1) r9 r10 r11 z.2).bind fun r12 => some (.inl ((z.1 + 1, r12)))
def F_Pair_look_l70 (x3 : Int64) (x5 : Int64) (x7 : Int32) (x8 : Int32) (M : Mem) : Option ((Int32 × Mem) ⊕ ((Mem))) :=
  (iter (F_Pair_look_b70 x3 x5 x7) FUEL (x8, M)).bind fun r => some (.inl ((x7 + 1, r)))
def F_Pair_look_b58 (x3 : Int64) (x5 : Int64) (z : Int32 × Mem) : Option ((Int32 × Mem) ⊕ ((Mem))) :=
  if (z.2.1 34 4) ≤ z.1 then some (.inr z.2) else F_Pair_look_l70 x3 x5 z.1 0 z.2
def F_Pair_look_l58 (x3 : Int64) (x5 : Int64) (x7 : Int32) (M : Mem) : Option (Mem) :=
  (iter (F_Pair_look_b58 x3 x5) FUEL (x7, M)).bind fun r => F_Pair_look_j171 x3 x5 r
def F_Pair_look (x1 : Int32) (x2 : Int32) (x3 : Int64) (x5 : Int64) (M : Mem) : Option (Mem) :=
  (F_Well_moodsOf ((mSI (mSI M 34 2 x1) 34 3 x2).1 34 2) (mSI (mSI M 34 2 x1) 34 3 x2)).bind fun r1 => (F_Math_min_III r1 3 (mSI (mSI M 34 2 x1) 34 3 x2)).bind fun r2 => (F_Well_moodsOf ((mSI (mSI (mSI M 34 2 x1) 34 3 x2) 34 4 r2).1 34 3) (mSI (mSI (mSI M 34 2 x1) 34 3 x2) 34 4 r2)).bind fun r3 => (F_Math_min_III r3 3 (mSI (mSI (mSI M 34 2 x1) 34 3 x2) 34 4 r2)).bind fun r4 => (F_Chain_clear 35 (mSI (mSI (mSI (mSI M 34 2 x1) 34 3 x2) 34 4 r2) 34 5 r4)).bind fun r5 => F_Pair_look_l58 x3 x5 0 r5
set_option maxRecDepth 100000 in
set_option maxHeartbeats 4000000 in
theorem K_Pair_look (l : Launch) (g : GB) (htr : l.stackTraces = false) (x1 : Int32) (x2 : Int32) (x3 : Int64) (x5 : Int64) (M : Mem) (MZ : Mem) (h : F_Pair_look x1 x2 x3 x5 M = some MZ) : CT l g yX6_look (.code yX6_look cX6_look 11 none :: wAll) { frames := 4, cells := 0, slots := 0, locals := 110 } [.ref (g.2.1 34), .int x1, .int x2, .long x3, .long x5] M (.inl none) MZ := by
  refine CT.of [(0, .ref (g.2.1 34)), (1, .int x1), (2, .int x2), (3, .long x3), (5, .long x5)] (by decide +kernel) (Nat.le_of_ble_eq_true rfl) rfl htr ?_
  intro p e s m args below meth c K hr ht
  skip
  obtain ⟨PHI, hPHI, h⟩ : ∃ PHI : Mem → Prop, (∀ a, PHI a → a = MZ) ∧ wpO (F_Pair_look x1 x2 x3 x5 M) PHI := ⟨fun a => a = MZ, fun _ h => h, _, h, rfl⟩
  have J171 : ∀ (x3 : Int64) (x5 : Int64) (M : Mem), wpO (F_Pair_look_j171 x3 x5 M) PHI → GG p l e { frames := 4, cells := 0, slots := 0, locals := 110 } s m args below meth c g 11 (vx_MQ below (Qn g s.heap.size (.inl none) MZ) (QX g s.heap.size (.inl none) MZ) args s 0 0 (AS g s.heap.size)) 0 0 171 [(0, .ref (g.2.1 34)), (3, .long x3), (5, .long x5)] [] M := by
    intro x3 x5 M h
    unfold F_Pair_look_j171 at h
    refine G_aload_n rfl 0 rfl K dX6_look_171 ?_
    refine G_get (ci := 6) (k := 1) K rfl in_X6 wd_221 rfl dX6_look_172 (Nat.le_of_ble_eq_true rfl) (sh_34 _ _) (Nat.le_of_ble_eq_true rfl) rfl ?_
    refine G_lload_n rfl 1 rfl K dX6_look_175 ?_
    refine G_lload 2 rfl K dX6_look_176 ?_
    obtain ⟨r6, e6, h⟩ := wpO_bind h
    refine G_callVv (ci := 2) [.long x3, .long x5] [] K dX6_look_178 wv_523 yd_X2_reckon (Nat.le_of_ble_eq_true rfl) (sh_35 _ _) rfl (by decide) (by decide) rfl rfl (Nat.le_of_ble_eq_true rfl) (K_Chain_reckon l g htr 35 isChain_35 x3 x5 M _ e6) ?_
    cases hPHI _ (wpO_some h)
    exact G_vret K hr dX6_look_181 (Nat.le_of_ble_eq_true rfl) (Nat.le_of_ble_eq_true rfl) ⟨rfl, rfl⟩
  have J58 : ∀ (x3 : Int64) (x5 : Int64) (x7 : Int32) (M : Mem), wpO (F_Pair_look_l58 x3 x5 x7 M) PHI → GG p l e { frames := 4, cells := 0, slots := 0, locals := 110 } s m args below meth c g 11 (vx_MQ below (Qn g s.heap.size (.inl none) MZ) (QX g s.heap.size (.inl none) MZ) args s 0 0 (AS g s.heap.size)) 0 0 58 [(0, .ref (g.2.1 34)), (3, .long x3), (5, .long x5), (7, .int x7)] [] M := by
    intro x3 x5 x7 M h
    unfold F_Pair_look_l58 at h
    refine loop_C2 (G := fun (x7 : Int32) (M : Mem) => GG p l e { frames := 4, cells := 0, slots := 0, locals := 110 } s m args below meth c g 11 (vx_MQ below (Qn g s.heap.size (.inl none) MZ) (QX g s.heap.size (.inl none) MZ) args s 0 0 (AS g s.heap.size)) 0 0 58 [(0, .ref (g.2.1 34)), (3, .long x3), (5, .long x5), (7, .int x7)] [] M) (body := F_Pair_look_b58 x3 x5) ?_ FUEL _ _ (wpO_bind h)
    intro P58 E58 X58
    have J70 : ∀ (x7 : Int32) (x8 : Int32) (M : Mem), wpO (F_Pair_look_l70 x3 x5 x7 x8 M) P58 → GG p l e { frames := 4, cells := 0, slots := 0, locals := 110 } s m args below meth c g 11 (vx_MQ below (Qn g s.heap.size (.inl none) MZ) (QX g s.heap.size (.inl none) MZ) args s 0 0 (AS g s.heap.size)) 0 0 70 [(0, .ref (g.2.1 34)), (3, .long x3), (5, .long x5), (7, .int x7), (8, .int x8)] [] M := by
      intro x7 x8 M h
      unfold F_Pair_look_l70 at h
      refine loop_C2 (G := fun (x8 : Int32) (M : Mem) => GG p l e { frames := 4, cells := 0, slots := 0, locals := 110 } s m args below meth c g 11 (vx_MQ below (Qn g s.heap.size (.inl none) MZ) (QX g s.heap.size (.inl none) MZ) args s 0 0 (AS g s.heap.size)) 0 0 70 [(0, .ref (g.2.1 34)), (3, .long x3), (5, .long x5), (7, .int x7), (8, .int x8)] [] M) (body := F_Pair_look_b70 x3 x5 x7) ?_ FUEL _ _ (wpO_bind h)
      intro P70 E70 X70
      intro z h
      unfold F_Pair_look_b70 at h
      refine G_iload 4 rfl K dX6_look_70 ?_
      refine G_aload_n rfl 0 rfl K dX6_look_72 ?_
      refine G_get (ci := 6) (k := 5) K rfl in_X6 wd_225 rfl dX6_look_73 (Nat.le_of_ble_eq_true rfl) (sh_34 _ _) (Nat.le_of_ble_eq_true rfl) rfl ?_
      refine G_icmp_ge (tgt := 165) K dX6_look_76 (by decide) (fun hc => ?_) (fun hc => ?_)
      · have h := wpO_t h hc
        have h := X70 _ (wpO_some h)
        try dsimp only at h
        refine G_iinc (v := x7 + 1) 3 rfl K dX6_look_165 rfl (Nat.le_of_ble_eq_true rfl) rfl ?_
        refine G_goto (tgt := 58) K dX6_look_168 (by decide) ?_
        exact G_lv (lv' := [(0, .ref (g.2.1 34)), (3, .long x3), (5, .long x5), (7, .int (x7 + 1))]) [1, 2, 3, 0] rfl (E58 (x7 + 1) z.2 (wpO_some h))
      · have h := wpO_f h hc
        refine G_aload_n rfl 0 rfl K dX6_look_79 ?_
        refine G_get (ci := 6) (k := 0) K rfl in_X6 wd_220 rfl dX6_look_80 (Nat.le_of_ble_eq_true rfl) (sh_34 _ _) (Nat.le_of_ble_eq_true rfl) rfl ?_
        refine G_aload_n rfl 0 rfl K dX6_look_83 ?_
        refine G_get (ci := 6) (k := 2) K rfl in_X6 wd_222 rfl dX6_look_84 (Nat.le_of_ble_eq_true rfl) (sh_34 _ _) (Nat.le_of_ble_eq_true rfl) rfl ?_
        refine G_iload 3 rfl K dX6_look_87 ?_
        obtain ⟨r7, e7, h⟩ := wpO_bind h
        refine G_callVi (ci := 10) [.int (z.2.1 34 2), .int x7] [] K dX6_look_89 wv_505 yd_X10_actOf (Nat.le_of_ble_eq_true rfl) (sh_1 _ _) rfl (by decide) (by decide) rfl rfl (Nat.le_of_ble_eq_true rfl) (K_Well_actOf l g htr (z.2.1 34 2) x7 z.2 _ e7) ?_
        refine G_istore K dX6_look_92 (Nat.le_of_ble_eq_true rfl) rfl ?_
        refine G_aload_n rfl 1 rfl K dX6_look_94 ?_
        refine G_get (ci := 6) (k := 0) K rfl in_X6 wd_220 rfl dX6_look_95 (Nat.le_of_ble_eq_true rfl) (sh_34 _ _) (Nat.le_of_ble_eq_true rfl) rfl ?_
        refine G_aload_n rfl 1 rfl K dX6_look_98 ?_
        refine G_get (ci := 6) (k := 3) K rfl in_X6 wd_223 rfl dX6_look_99 (Nat.le_of_ble_eq_true rfl) (sh_34 _ _) (Nat.le_of_ble_eq_true rfl) rfl ?_
        refine G_iload 5 rfl K dX6_look_102 ?_
        obtain ⟨r8, e8, h⟩ := wpO_bind h
        refine G_callVi (ci := 10) [.int (z.2.1 34 3), .int z.1] [] K dX6_look_104 wv_505 yd_X10_actOf (Nat.le_of_ble_eq_true rfl) (sh_1 _ _) rfl (by decide) (by decide) rfl rfl (Nat.le_of_ble_eq_true rfl) (K_Well_actOf l g htr (z.2.1 34 3) z.1 z.2 _ e8) ?_
        refine G_istore K dX6_look_107 (Nat.le_of_ble_eq_true rfl) rfl ?_
        refine G_aload_n rfl 2 rfl K dX6_look_109 ?_
        refine G_get (ci := 6) (k := 1) K rfl in_X6 wd_221 rfl dX6_look_110 (Nat.le_of_ble_eq_true rfl) (sh_34 _ _) (Nat.le_of_ble_eq_true rfl) rfl ?_
        refine G_iconst (v := 3) rfl K dX6_look_113 ?_
        refine G_iload 5 rfl K dX6_look_114 ?_
        refine G_imul K dX6_look_116 ?_
        refine G_iload 6 rfl K dX6_look_117 ?_
        refine G_iadd K dX6_look_119 ?_
        refine G_aload_n rfl 2 rfl K dX6_look_120 ?_
        refine G_iload 5 rfl K dX6_look_121 ?_
        refine G_iload 6 rfl K dX6_look_123 ?_
        refine G_iload 1 rfl K dX6_look_125 ?_
        refine G_iload 0 rfl K dX6_look_127 ?_
        obtain ⟨r9, e9, h⟩ := wpO_bind h
        refine G_callVi (ci := 6) [.int x7, .int z.1, .int r7, .int r8] [.int ((3 * x7) + z.1), .ref (g.2.1 35)] K dX6_look_129 wv_506 yd_X6_placeAfter (Nat.le_of_ble_eq_true rfl) (sh_34 _ _) rfl (by decide) (by decide) rfl rfl (Nat.le_of_ble_eq_true rfl) (K_Pair_placeAfter l g htr x7 z.1 r7 r8 z.2 _ e9) ?_
        refine G_aload_n rfl 2 rfl K dX6_look_132 ?_
        refine G_get (ci := 6) (k := 0) K rfl in_X6 wd_220 rfl dX6_look_133 (Nat.le_of_ble_eq_true rfl) (sh_34 _ _) (Nat.le_of_ble_eq_true rfl) rfl ?_
        refine G_iconst (v := 0) rfl K dX6_look_136 ?_
        refine G_iload 1 rfl K dX6_look_137 ?_
        refine G_iload 0 rfl K dX6_look_139 ?_
        obtain ⟨r10, e10, h⟩ := wpO_bind h
        refine G_callVi (ci := 10) [.int 0, .int r7, .int r8] [.int r9, .int ((3 * x7) + z.1), .ref (g.2.1 35)] K dX6_look_141 wv_514 yd_X10_bringsTo (Nat.le_of_ble_eq_true rfl) (sh_1 _ _) rfl (by decide) (by decide) rfl rfl (Nat.le_of_ble_eq_true rfl) (K_Well_bringsTo l g htr 0 r7 r8 z.2 _ e10) ?_
        refine G_aload_n rfl 2 rfl K dX6_look_144 ?_
        refine G_get (ci := 6) (k := 0) K rfl in_X6 wd_220 rfl dX6_look_145 (Nat.le_of_ble_eq_true rfl) (sh_34 _ _) (Nat.le_of_ble_eq_true rfl) rfl ?_
        refine G_iconst (v := 1) rfl K dX6_look_148 ?_
        refine G_iload 1 rfl K dX6_look_149 ?_
        refine G_iload 0 rfl K dX6_look_151 ?_
        obtain ⟨r11, e11, h⟩ := wpO_bind h
        refine G_callVi (ci := 10) [.int 1, .int r7, .int r8] [.int r10, .int r9, .int ((3 * x7) + z.1), .ref (g.2.1 35)] K dX6_look_153 wv_514 yd_X10_bringsTo (Nat.le_of_ble_eq_true rfl) (sh_1 _ _) rfl (by decide) (by decide) rfl rfl (Nat.le_of_ble_eq_true rfl) (K_Well_bringsTo l g htr 1 r7 r8 z.2 _ e11) ?_
        obtain ⟨r12, e12, h⟩ := wpO_bind h
        refine G_callVv (ci := 2) [.int ((3 * x7) + z.1), .int r9, .int r10, .int r11] [] K dX6_look_156 wv_518 yd_X2_put (Nat.le_of_ble_eq_true rfl) (sh_35 _ _) rfl (by decide) (by decide) rfl rfl (Nat.le_of_ble_eq_true rfl) (K_Chain_put l g htr 35 isChain_35 ((3 * x7) + z.1) r9 r10 r11 z.2 _ e12) ?_
        refine G_iinc (v := z.1 + 1) 6 rfl K dX6_look_159 rfl (Nat.le_of_ble_eq_true rfl) rfl ?_
        refine G_goto (tgt := 70) K dX6_look_162 (by decide) ?_
        exact G_lv (lv' := [(0, .ref (g.2.1 34)), (3, .long x3), (5, .long x5), (7, .int x7), (8, .int (z.1 + 1))]) [3, 4, 5, 6, 0] rfl (E70 (z.1 + 1) r12 (wpO_some h))
    intro z h
    unfold F_Pair_look_b58 at h
    refine G_iload 3 rfl K dX6_look_58 ?_
    refine G_aload_n rfl 0 rfl K dX6_look_60 ?_
    refine G_get (ci := 6) (k := 4) K rfl in_X6 wd_224 rfl dX6_look_61 (Nat.le_of_ble_eq_true rfl) (sh_34 _ _) (Nat.le_of_ble_eq_true rfl) rfl ?_
    refine G_icmp_ge (tgt := 171) K dX6_look_64 (by decide) (fun hc => ?_) (fun hc => ?_)
    · have h := wpO_t h hc
      have h := X58 _ (wpO_some h)
      try dsimp only at h
      exact G_lv (lv' := [(0, .ref (g.2.1 34)), (3, .long x3), (5, .long x5)]) [0, 1, 2] rfl (J171 x3 x5 z.2 h)
    · have h := wpO_f h hc
      refine G_iconst (v := 0) rfl K dX6_look_67 ?_
      refine G_istore K dX6_look_68 (Nat.le_of_ble_eq_true rfl) rfl ?_
      exact G_lv (lv' := [(0, .ref (g.2.1 34)), (3, .long x3), (5, .long x5), (7, .int z.1), (8, .int 0)]) [1, 2, 3, 4, 0] rfl (J70 z.1 0 z.2 h)
  unfold F_Pair_look at h
  refine G_aload_n rfl 0 rfl K dX6_look_0 ?_
  refine G_iload_n rfl 1 rfl K dX6_look_1 ?_
  refine G_putI (ci := 6) (k := 2) (ty := .int) K rfl in_X6 tyX6 tyX6_ok nmX6 wd_222 rfl rfl rfl rfl rfl dX6_look_2 (Nat.le_of_ble_eq_true rfl) (sh_34 _ _) (sh_34 _ _) (Nat.le_of_ble_eq_true rfl) (Nat.le_of_ble_eq_true rfl) rfl ?_
  refine G_aload_n rfl 0 rfl K dX6_look_5 ?_
  refine G_iload_n rfl 2 rfl K dX6_look_6 ?_
  refine G_putI (ci := 6) (k := 3) (ty := .int) K rfl in_X6 tyX6 tyX6_ok nmX6 wd_223 rfl rfl rfl rfl rfl dX6_look_7 (Nat.le_of_ble_eq_true rfl) (sh_34 _ _) (sh_34 _ _) (Nat.le_of_ble_eq_true rfl) (Nat.le_of_ble_eq_true rfl) rfl ?_
  refine G_aload_n rfl 0 rfl K dX6_look_10 ?_
  refine G_aload_n rfl 0 rfl K dX6_look_11 ?_
  refine G_get (ci := 6) (k := 0) K rfl in_X6 wd_220 rfl dX6_look_12 (Nat.le_of_ble_eq_true rfl) (sh_34 _ _) (Nat.le_of_ble_eq_true rfl) rfl ?_
  refine G_aload_n rfl 0 rfl K dX6_look_15 ?_
  refine G_get (ci := 6) (k := 2) K rfl in_X6 wd_222 rfl dX6_look_16 (Nat.le_of_ble_eq_true rfl) (sh_34 _ _) (Nat.le_of_ble_eq_true rfl) rfl ?_
  obtain ⟨r1, e1, h⟩ := wpO_bind h
  refine G_callVi (ci := 10) [.int ((mSI (mSI M 34 2 x1) 34 3 x2).1 34 2)] [.ref (g.2.1 34)] K dX6_look_19 wv_494 yd_X10_moodsOf (Nat.le_of_ble_eq_true rfl) (sh_1 _ _) rfl (by decide) (by decide) rfl rfl (Nat.le_of_ble_eq_true rfl) (K_Well_moodsOf l g htr ((mSI (mSI M 34 2 x1) 34 3 x2).1 34 2) (mSI (mSI M 34 2 x1) 34 3 x2) _ e1) ?_
  refine G_iconst (v := 3) rfl K dX6_look_22 ?_
  obtain ⟨r2, e2, h⟩ := wpO_bind h
  refine G_callSi [.int r1, .int 3] [.ref (g.2.1 34)] K dX6_look_23 wv_495 yd_J9_min_7cf53 (by decide) (by decide) rfl rfl (Nat.le_of_ble_eq_true rfl) (K_Math_min_III l g htr r1 3 (mSI (mSI M 34 2 x1) 34 3 x2) _ e2) ?_
  refine G_putI (ci := 6) (k := 4) (ty := .int) K rfl in_X6 tyX6 tyX6_ok nmX6 wd_224 rfl rfl rfl rfl rfl dX6_look_26 (Nat.le_of_ble_eq_true rfl) (sh_34 _ _) (sh_34 _ _) (Nat.le_of_ble_eq_true rfl) (Nat.le_of_ble_eq_true rfl) rfl ?_
  refine G_aload_n rfl 0 rfl K dX6_look_29 ?_
  refine G_aload_n rfl 0 rfl K dX6_look_30 ?_
  refine G_get (ci := 6) (k := 0) K rfl in_X6 wd_220 rfl dX6_look_31 (Nat.le_of_ble_eq_true rfl) (sh_34 _ _) (Nat.le_of_ble_eq_true rfl) rfl ?_
  refine G_aload_n rfl 0 rfl K dX6_look_34 ?_
  refine G_get (ci := 6) (k := 3) K rfl in_X6 wd_223 rfl dX6_look_35 (Nat.le_of_ble_eq_true rfl) (sh_34 _ _) (Nat.le_of_ble_eq_true rfl) rfl ?_
  obtain ⟨r3, e3, h⟩ := wpO_bind h
  refine G_callVi (ci := 10) [.int ((mSI (mSI (mSI M 34 2 x1) 34 3 x2) 34 4 r2).1 34 3)] [.ref (g.2.1 34)] K dX6_look_38 wv_494 yd_X10_moodsOf (Nat.le_of_ble_eq_true rfl) (sh_1 _ _) rfl (by decide) (by decide) rfl rfl (Nat.le_of_ble_eq_true rfl) (K_Well_moodsOf l g htr ((mSI (mSI (mSI M 34 2 x1) 34 3 x2) 34 4 r2).1 34 3) (mSI (mSI (mSI M 34 2 x1) 34 3 x2) 34 4 r2) _ e3) ?_
  refine G_iconst (v := 3) rfl K dX6_look_41 ?_
  obtain ⟨r4, e4, h⟩ := wpO_bind h
  refine G_callSi [.int r3, .int 3] [.ref (g.2.1 34)] K dX6_look_42 wv_495 yd_J9_min_7cf53 (by decide) (by decide) rfl rfl (Nat.le_of_ble_eq_true rfl) (K_Math_min_III l g htr r3 3 (mSI (mSI (mSI M 34 2 x1) 34 3 x2) 34 4 r2) _ e4) ?_
  refine G_putI (ci := 6) (k := 5) (ty := .int) K rfl in_X6 tyX6 tyX6_ok nmX6 wd_225 rfl rfl rfl rfl rfl dX6_look_45 (Nat.le_of_ble_eq_true rfl) (sh_34 _ _) (sh_34 _ _) (Nat.le_of_ble_eq_true rfl) (Nat.le_of_ble_eq_true rfl) rfl ?_
  refine G_aload_n rfl 0 rfl K dX6_look_48 ?_
  refine G_get (ci := 6) (k := 1) K rfl in_X6 wd_221 rfl dX6_look_49 (Nat.le_of_ble_eq_true rfl) (sh_34 _ _) (Nat.le_of_ble_eq_true rfl) rfl ?_
  obtain ⟨r5, e5, h⟩ := wpO_bind h
  refine G_callVv (ci := 2) [] [] K dX6_look_52 wv_496 yd_X2_clear (Nat.le_of_ble_eq_true rfl) (sh_35 _ _) rfl (by decide) (by decide) rfl rfl (Nat.le_of_ble_eq_true rfl) (K_Chain_clear l g htr 35 isChain_35 (mSI (mSI (mSI (mSI M 34 2 x1) 34 3 x2) 34 4 r2) 34 5 r4) _ e5) ?_
  refine G_iconst (v := 0) rfl K dX6_look_55 ?_
  refine G_istore K dX6_look_56 (Nat.le_of_ble_eq_true rfl) rfl ?_
  exact G_lv (lv' := [(0, .ref (g.2.1 34)), (3, .long x3), (5, .long x5), (7, .int 0)]) [1, 4, 5, 0] rfl (J58 x3 x5 0 r5 h)
theorem yd_X2_tellWorth : ydN yX2_tellWorth 3 := ⟨by decide, by decide, by decide +kernel⟩
theorem wv_965 : wdV "KeptWell$Pair" 84 yX2_tellWorth cX2_tellWorth 4 none := ⟨wd_965, wd_966, wd_967, wd_7, wd_968⟩
def on_X6_tellWorth : Nat := 0xb15400b604191d601c681b060c00b42a
theorem ob_X6_tellWorth : OKB cX6_tellWorth on_X6_tellWorth 16 := ⟨by decide +kernel, by decide +kernel⟩
theorem dX6_tellWorth_0 : dc cX6_tellWorth 0 1 (.aload_n 0) 1 := o_42 ob_X6_tellWorth rfl rfl rfl
theorem dX6_tellWorth_1 : dc cX6_tellWorth 1 4 (.getfield 12) 3 := o_180 ob_X6_tellWorth rfl rfl rfl rfl
theorem dX6_tellWorth_4 : dc cX6_tellWorth 4 5 (.iconst 3) 1 := o_6 ob_X6_tellWorth rfl rfl rfl
theorem dX6_tellWorth_5 : dc cX6_tellWorth 5 6 (.iload_n 1) 1 := o_27 ob_X6_tellWorth rfl rfl rfl
theorem dX6_tellWorth_6 : dc cX6_tellWorth 6 7 .imul 1 := o_104 ob_X6_tellWorth rfl rfl rfl
theorem dX6_tellWorth_7 : dc cX6_tellWorth 7 8 (.iload_n 2) 1 := o_28 ob_X6_tellWorth rfl rfl rfl
theorem dX6_tellWorth_8 : dc cX6_tellWorth 8 9 .iadd 1 := o_96 ob_X6_tellWorth rfl rfl rfl
theorem dX6_tellWorth_9 : dc cX6_tellWorth 9 10 (.iload_n 3) 1 := o_29 ob_X6_tellWorth rfl rfl rfl
theorem dX6_tellWorth_10 : dc cX6_tellWorth 10 12 (.aload 4) 2 := o_25 ob_X6_tellWorth rfl rfl rfl rfl
theorem dX6_tellWorth_12 : dc cX6_tellWorth 12 15 (.invokevirtual 84) 3 := o_182 ob_X6_tellWorth rfl rfl rfl rfl
theorem dX6_tellWorth_15 : dc cX6_tellWorth 15 16 .return_ 1 := o_177 ob_X6_tellWorth rfl rfl rfl
def F_Pair_tellWorth (o4 : Nat) (x1 : Int32) (x2 : Int32) (x3 : Int32) (M : Mem) : Option (Mem) :=
  (F_Chain_tellWorth 35 o4 ((3 * x1) + x2) x3 M).bind fun r1 => some r1
set_option maxRecDepth 100000 in
set_option maxHeartbeats 4000000 in
theorem K_Pair_tellWorth (l : Launch) (g : GB) (htr : l.stackTraces = false) (o4 : Nat) (ho4 : isFrac o4) (x1 : Int32) (x2 : Int32) (x3 : Int32) (M : Mem) (MZ : Mem) (h : F_Pair_tellWorth o4 x1 x2 x3 M = some MZ) : CT l g yX6_tellWorth (.code yX6_tellWorth cX6_tellWorth 5 none :: wAll) { frames := 4, cells := 0, slots := 0, locals := 100 } [.ref (g.2.1 34), .int x1, .int x2, .int x3, .ref (g.2.1 o4)] M (.inl none) MZ := by
  refine CT.of [(0, .ref (g.2.1 34)), (1, .int x1), (2, .int x2), (3, .int x3), (4, .ref (g.2.1 o4))] (by decide +kernel) (Nat.le_of_ble_eq_true rfl) rfl htr ?_
  intro p e s m args below meth c K hr ht
  skip
  obtain ⟨PHI, hPHI, h⟩ : ∃ PHI : Mem → Prop, (∀ a, PHI a → a = MZ) ∧ wpO (F_Pair_tellWorth o4 x1 x2 x3 M) PHI := ⟨fun a => a = MZ, fun _ h => h, _, h, rfl⟩
  unfold F_Pair_tellWorth at h
  refine G_aload_n rfl 0 rfl K dX6_tellWorth_0 ?_
  refine G_get (ci := 6) (k := 1) K rfl in_X6 wd_221 rfl dX6_tellWorth_1 (Nat.le_of_ble_eq_true rfl) (sh_34 _ _) (Nat.le_of_ble_eq_true rfl) rfl ?_
  refine G_iconst (v := 3) rfl K dX6_tellWorth_4 ?_
  refine G_iload_n rfl 1 rfl K dX6_tellWorth_5 ?_
  refine G_imul K dX6_tellWorth_6 ?_
  refine G_iload_n rfl 2 rfl K dX6_tellWorth_7 ?_
  refine G_iadd K dX6_tellWorth_8 ?_
  refine G_iload_n rfl 3 rfl K dX6_tellWorth_9 ?_
  refine G_aload 4 rfl K dX6_tellWorth_10 ?_
  obtain ⟨r1, e1, h⟩ := wpO_bind h
  refine G_callVv (ci := 2) [.int ((3 * x1) + x2), .int x3, .ref (g.2.1 o4)] [] K dX6_tellWorth_12 wv_965 yd_X2_tellWorth (Nat.le_of_ble_eq_true rfl) (sh_35 _ _) rfl (by decide) (by decide) rfl rfl (Nat.le_of_ble_eq_true rfl) (K_Chain_tellWorth l g htr 35 o4 isChain_35 ho4 ((3 * x1) + x2) x3 M _ e1) ?_
  cases hPHI _ (wpO_some h)
  exact G_vret K hr dX6_tellWorth_15 (Nat.le_of_ble_eq_true rfl) (Nat.le_of_ble_eq_true rfl) ⟨rfl, rfl⟩
theorem yd_X2_orderOf : ydN yX2_orderOf 4 := ⟨by decide, by decide, by decide +kernel⟩
theorem wv_552 : wdV "KeptWell$Pair" 95 yX2_orderOf cX2_orderOf 9 (some .int) := ⟨wd_552, wd_553, wd_554, wd_7, wd_555⟩
def on_X6_gainsOtherwise : Nat := 0xac0396ffa7010484ac0405009e5f00b6601c681b061d07154500b6061505151d2b00b42a0c00b42a07364100b6061505151c1b2a06363e00b61c1600b42a2b00b42a0f00a704150800a0041d05363e00b61b1200b42a2b00b42a0f00a7041508009a1d6400a25c00b42b00b42a0415043603
theorem ob_X6_gainsOtherwise : OKB cX6_gainsOtherwise on_X6_gainsOtherwise 114 := ⟨by decide +kernel, by decide +kernel⟩
theorem dX6_gainsOtherwise_0 : dc cX6_gainsOtherwise 0 1 (.iconst 0) 1 := o_3 ob_X6_gainsOtherwise rfl rfl rfl
theorem dX6_gainsOtherwise_1 : dc cX6_gainsOtherwise 1 3 (.istore 4) 2 := o_54 ob_X6_gainsOtherwise rfl rfl rfl rfl
theorem dX6_gainsOtherwise_3 : dc cX6_gainsOtherwise 3 5 (.iload 4) 2 := o_21 ob_X6_gainsOtherwise rfl rfl rfl rfl
theorem dX6_gainsOtherwise_5 : dc cX6_gainsOtherwise 5 6 (.aload_n 0) 1 := o_42 ob_X6_gainsOtherwise rfl rfl rfl
theorem dX6_gainsOtherwise_6 : dc cX6_gainsOtherwise 6 9 (.getfield 43) 3 := o_180 ob_X6_gainsOtherwise rfl rfl rfl rfl
theorem dX6_gainsOtherwise_9 : dc cX6_gainsOtherwise 9 12 (.getfield 92) 3 := o_180 ob_X6_gainsOtherwise rfl rfl rfl rfl
theorem dX6_gainsOtherwise_12 : dc cX6_gainsOtherwise 12 15 (.if_icmp .ge 100) 3 := o_162 ob_X6_gainsOtherwise rfl rfl rfl rfl
theorem dX6_gainsOtherwise_15 : dc cX6_gainsOtherwise 15 16 (.iload_n 3) 1 := o_29 ob_X6_gainsOtherwise rfl rfl rfl
theorem dX6_gainsOtherwise_16 : dc cX6_gainsOtherwise 16 19 (.ifCond .ne 8) 3 := o_154 ob_X6_gainsOtherwise rfl rfl rfl rfl
theorem dX6_gainsOtherwise_19 : dc cX6_gainsOtherwise 19 21 (.iload 4) 2 := o_21 ob_X6_gainsOtherwise rfl rfl rfl rfl
theorem dX6_gainsOtherwise_21 : dc cX6_gainsOtherwise 21 24 (.goto 15) 3 := o_167 ob_X6_gainsOtherwise rfl rfl rfl rfl
theorem dX6_gainsOtherwise_24 : dc cX6_gainsOtherwise 24 25 (.aload_n 0) 1 := o_42 ob_X6_gainsOtherwise rfl rfl rfl
theorem dX6_gainsOtherwise_25 : dc cX6_gainsOtherwise 25 28 (.getfield 43) 3 := o_180 ob_X6_gainsOtherwise rfl rfl rfl rfl
theorem dX6_gainsOtherwise_28 : dc cX6_gainsOtherwise 28 29 (.aload_n 0) 1 := o_42 ob_X6_gainsOtherwise rfl rfl rfl
theorem dX6_gainsOtherwise_29 : dc cX6_gainsOtherwise 29 32 (.getfield 18) 3 := o_180 ob_X6_gainsOtherwise rfl rfl rfl rfl
theorem dX6_gainsOtherwise_32 : dc cX6_gainsOtherwise 32 33 (.iload_n 1) 1 := o_27 ob_X6_gainsOtherwise rfl rfl rfl
theorem dX6_gainsOtherwise_33 : dc cX6_gainsOtherwise 33 36 (.invokevirtual 62) 3 := o_182 ob_X6_gainsOtherwise rfl rfl rfl rfl
theorem dX6_gainsOtherwise_36 : dc cX6_gainsOtherwise 36 38 (.istore 5) 2 := o_54 ob_X6_gainsOtherwise rfl rfl rfl rfl
theorem dX6_gainsOtherwise_38 : dc cX6_gainsOtherwise 38 39 (.iload_n 3) 1 := o_29 ob_X6_gainsOtherwise rfl rfl rfl
theorem dX6_gainsOtherwise_39 : dc cX6_gainsOtherwise 39 40 (.iconst 1) 1 := o_4 ob_X6_gainsOtherwise rfl rfl rfl
theorem dX6_gainsOtherwise_40 : dc cX6_gainsOtherwise 40 43 (.if_icmp .ne 8) 3 := o_160 ob_X6_gainsOtherwise rfl rfl rfl rfl
theorem dX6_gainsOtherwise_43 : dc cX6_gainsOtherwise 43 45 (.iload 4) 2 := o_21 ob_X6_gainsOtherwise rfl rfl rfl rfl
theorem dX6_gainsOtherwise_45 : dc cX6_gainsOtherwise 45 48 (.goto 15) 3 := o_167 ob_X6_gainsOtherwise rfl rfl rfl rfl
theorem dX6_gainsOtherwise_48 : dc cX6_gainsOtherwise 48 49 (.aload_n 0) 1 := o_42 ob_X6_gainsOtherwise rfl rfl rfl
theorem dX6_gainsOtherwise_49 : dc cX6_gainsOtherwise 49 52 (.getfield 43) 3 := o_180 ob_X6_gainsOtherwise rfl rfl rfl rfl
theorem dX6_gainsOtherwise_52 : dc cX6_gainsOtherwise 52 53 (.aload_n 0) 1 := o_42 ob_X6_gainsOtherwise rfl rfl rfl
theorem dX6_gainsOtherwise_53 : dc cX6_gainsOtherwise 53 56 (.getfield 22) 3 := o_180 ob_X6_gainsOtherwise rfl rfl rfl rfl
theorem dX6_gainsOtherwise_56 : dc cX6_gainsOtherwise 56 57 (.iload_n 2) 1 := o_28 ob_X6_gainsOtherwise rfl rfl rfl
theorem dX6_gainsOtherwise_57 : dc cX6_gainsOtherwise 57 60 (.invokevirtual 62) 3 := o_182 ob_X6_gainsOtherwise rfl rfl rfl rfl
theorem dX6_gainsOtherwise_60 : dc cX6_gainsOtherwise 60 62 (.istore 6) 2 := o_54 ob_X6_gainsOtherwise rfl rfl rfl rfl
theorem dX6_gainsOtherwise_62 : dc cX6_gainsOtherwise 62 63 (.aload_n 0) 1 := o_42 ob_X6_gainsOtherwise rfl rfl rfl
theorem dX6_gainsOtherwise_63 : dc cX6_gainsOtherwise 63 64 (.iload_n 1) 1 := o_27 ob_X6_gainsOtherwise rfl rfl rfl
theorem dX6_gainsOtherwise_64 : dc cX6_gainsOtherwise 64 65 (.iload_n 2) 1 := o_28 ob_X6_gainsOtherwise rfl rfl rfl
theorem dX6_gainsOtherwise_65 : dc cX6_gainsOtherwise 65 67 (.iload 5) 2 := o_21 ob_X6_gainsOtherwise rfl rfl rfl rfl
theorem dX6_gainsOtherwise_67 : dc cX6_gainsOtherwise 67 69 (.iload 6) 2 := o_21 ob_X6_gainsOtherwise rfl rfl rfl rfl
theorem dX6_gainsOtherwise_69 : dc cX6_gainsOtherwise 69 72 (.invokevirtual 65) 3 := o_182 ob_X6_gainsOtherwise rfl rfl rfl rfl
theorem dX6_gainsOtherwise_72 : dc cX6_gainsOtherwise 72 74 (.istore 7) 2 := o_54 ob_X6_gainsOtherwise rfl rfl rfl rfl
theorem dX6_gainsOtherwise_74 : dc cX6_gainsOtherwise 74 75 (.aload_n 0) 1 := o_42 ob_X6_gainsOtherwise rfl rfl rfl
theorem dX6_gainsOtherwise_75 : dc cX6_gainsOtherwise 75 78 (.getfield 12) 3 := o_180 ob_X6_gainsOtherwise rfl rfl rfl rfl
theorem dX6_gainsOtherwise_78 : dc cX6_gainsOtherwise 78 79 (.aload_n 0) 1 := o_42 ob_X6_gainsOtherwise rfl rfl rfl
theorem dX6_gainsOtherwise_79 : dc cX6_gainsOtherwise 79 82 (.getfield 43) 3 := o_180 ob_X6_gainsOtherwise rfl rfl rfl rfl
theorem dX6_gainsOtherwise_82 : dc cX6_gainsOtherwise 82 83 (.iload_n 3) 1 := o_29 ob_X6_gainsOtherwise rfl rfl rfl
theorem dX6_gainsOtherwise_83 : dc cX6_gainsOtherwise 83 85 (.iload 5) 2 := o_21 ob_X6_gainsOtherwise rfl rfl rfl rfl
theorem dX6_gainsOtherwise_85 : dc cX6_gainsOtherwise 85 87 (.iload 6) 2 := o_21 ob_X6_gainsOtherwise rfl rfl rfl rfl
theorem dX6_gainsOtherwise_87 : dc cX6_gainsOtherwise 87 90 (.invokevirtual 69) 3 := o_182 ob_X6_gainsOtherwise rfl rfl rfl rfl
theorem dX6_gainsOtherwise_90 : dc cX6_gainsOtherwise 90 92 (.iload 7) 2 := o_21 ob_X6_gainsOtherwise rfl rfl rfl rfl
theorem dX6_gainsOtherwise_92 : dc cX6_gainsOtherwise 92 93 (.iload_n 3) 1 := o_29 ob_X6_gainsOtherwise rfl rfl rfl
theorem dX6_gainsOtherwise_93 : dc cX6_gainsOtherwise 93 94 (.iconst 3) 1 := o_6 ob_X6_gainsOtherwise rfl rfl rfl
theorem dX6_gainsOtherwise_94 : dc cX6_gainsOtherwise 94 95 (.iload_n 1) 1 := o_27 ob_X6_gainsOtherwise rfl rfl rfl
theorem dX6_gainsOtherwise_95 : dc cX6_gainsOtherwise 95 96 .imul 1 := o_104 ob_X6_gainsOtherwise rfl rfl rfl
theorem dX6_gainsOtherwise_96 : dc cX6_gainsOtherwise 96 97 (.iload_n 2) 1 := o_28 ob_X6_gainsOtherwise rfl rfl rfl
theorem dX6_gainsOtherwise_97 : dc cX6_gainsOtherwise 97 98 .iadd 1 := o_96 ob_X6_gainsOtherwise rfl rfl rfl
theorem dX6_gainsOtherwise_98 : dc cX6_gainsOtherwise 98 101 (.invokevirtual 95) 3 := o_182 ob_X6_gainsOtherwise rfl rfl rfl rfl
theorem dX6_gainsOtherwise_101 : dc cX6_gainsOtherwise 101 104 (.ifCond .le 5) 3 := o_158 ob_X6_gainsOtherwise rfl rfl rfl rfl
theorem dX6_gainsOtherwise_104 : dc cX6_gainsOtherwise 104 105 (.iconst 1) 1 := o_4 ob_X6_gainsOtherwise rfl rfl rfl
theorem dX6_gainsOtherwise_105 : dc cX6_gainsOtherwise 105 106 .ireturn 1 := o_172 ob_X6_gainsOtherwise rfl rfl rfl
theorem dX6_gainsOtherwise_106 : dc cX6_gainsOtherwise 106 109 (.iinc 4 1) 3 := o_132 ob_X6_gainsOtherwise rfl rfl rfl rfl rfl
theorem dX6_gainsOtherwise_109 : dc cX6_gainsOtherwise 109 112 (.goto (-106)) 3 := o_167 ob_X6_gainsOtherwise rfl rfl rfl rfl
theorem dX6_gainsOtherwise_112 : dc cX6_gainsOtherwise 112 113 (.iconst 0) 1 := o_3 ob_X6_gainsOtherwise rfl rfl rfl
theorem dX6_gainsOtherwise_113 : dc cX6_gainsOtherwise 113 114 .ireturn 1 := o_172 ob_X6_gainsOtherwise rfl rfl rfl
def F_Pair_gainsOtherwise_j60 (x1 : Int32) (x2 : Int32) (x3 : Int32) (x4 : Int32) (x5 : Int32) (s0 : Int32) (M : Mem) : Option ((Int32) ⊕ ((Unit) ⊕ ((Unit)))) :=
  (F_Pair_placeAfter x1 x2 x5 s0 M).bind fun r3 => (F_Well_bringsTo x3 x5 s0 M).bind fun r4 => (F_Chain_orderOf 35 r4 r3 x3 ((3 * x1) + x2) M).bind fun r5 => if r5 ≤ 0 then some (.inl (x4 + 1)) else some (.inr (.inl (())))
def F_Pair_gainsOtherwise_j36 (x1 : Int32) (x2 : Int32) (x3 : Int32) (x4 : Int32) (s0 : Int32) (M : Mem) : Option ((Int32) ⊕ ((Unit) ⊕ ((Unit)))) :=
  if x3 = 1 then F_Pair_gainsOtherwise_j60 x1 x2 x3 x4 s0 x4 M else (F_Well_actOf (M.1 34 3) x2 M).bind fun r2 => F_Pair_gainsOtherwise_j60 x1 x2 x3 x4 s0 r2 M
def F_Pair_gainsOtherwise_b3 (x1 : Int32) (x2 : Int32) (x3 : Int32) (M : Mem) (z : Int32) : Option ((Int32) ⊕ ((Unit) ⊕ ((Unit)))) :=
  if (M.1 1 0) ≤ z then some (.inr (.inr (()))) else if x3 = 0 then F_Pair_gainsOtherwise_j36 x1 x2 x3 z z M else (F_Well_actOf (M.1 34 2) x1 M).bind fun r1 => F_Pair_gainsOtherwise_j36 x1 x2 x3 z r1 M
def F_Pair_gainsOtherwise_l3 (x1 : Int32) (x2 : Int32) (x3 : Int32) (x4 : Int32) (M : Mem) : Option (Bool) :=
  (iter (F_Pair_gainsOtherwise_b3 x1 x2 x3 M) FUEL x4).bind fun q => match q with
    | .inl r => some true
    | .inr r => some false
def F_Pair_gainsOtherwise (x1 : Int32) (x2 : Int32) (x3 : Int32) (M : Mem) : Option (Bool) :=
  F_Pair_gainsOtherwise_l3 x1 x2 x3 0 M
set_option maxRecDepth 100000 in
set_option maxHeartbeats 4000000 in
theorem K_Pair_gainsOtherwise (l : Launch) (g : GB) (htr : l.stackTraces = false) (x1 : Int32) (x2 : Int32) (x3 : Int32) (M : Mem) (rr : Bool) (h : F_Pair_gainsOtherwise x1 x2 x3 M = some rr) : CT l g yX6_gainsOtherwise (.code yX6_gainsOtherwise cX6_gainsOtherwise 8 (some .boolean) :: wAll) { frames := 3, cells := 0, slots := 0, locals := 98 } [.ref (g.2.1 34), .int x1, .int x2, .int x3] M (.inl (some (.int (b2i rr)))) M := by
  refine CT.of [(0, .ref (g.2.1 34)), (1, .int x1), (2, .int x2), (3, .int x3)] (by decide +kernel) (Nat.le_of_ble_eq_true rfl) rfl htr ?_
  intro p e s m args below meth c K hr ht
  skip
  obtain ⟨PHI, hPHI, h⟩ : ∃ PHI : Bool → Prop, (∀ a, PHI a → a = rr) ∧ wpO (F_Pair_gainsOtherwise x1 x2 x3 M) PHI := ⟨fun a => a = rr, fun _ h => h, _, h, rfl⟩
  have J3 : ∀ (x1 : Int32) (x2 : Int32) (x3 : Int32) (x4 : Int32), wpO (F_Pair_gainsOtherwise_l3 x1 x2 x3 x4 M) PHI → GG p l e { frames := 3, cells := 0, slots := 0, locals := 98 } s m args below meth c g 8 (vx_MQ below (Qn g s.heap.size (.inl (some (.int (b2i rr)))) M) (QX g s.heap.size (.inl (some (.int (b2i rr)))) M) args s 0 0 (AS g s.heap.size)) 0 0 3 [(0, .ref (g.2.1 34)), (1, .int x1), (2, .int x2), (3, .int x3), (4, .int x4)] [] M := by
    intro x1 x2 x3 x4 h
    unfold F_Pair_gainsOtherwise_l3 at h
    refine loop_C1 (G := fun (x4 : Int32) => GG p l e { frames := 3, cells := 0, slots := 0, locals := 98 } s m args below meth c g 8 (vx_MQ below (Qn g s.heap.size (.inl (some (.int (b2i rr)))) M) (QX g s.heap.size (.inl (some (.int (b2i rr)))) M) args s 0 0 (AS g s.heap.size)) 0 0 3 [(0, .ref (g.2.1 34)), (1, .int x1), (2, .int x2), (3, .int x3), (4, .int x4)] [] M) (body := F_Pair_gainsOtherwise_b3 x1 x2 x3 M) ?_ FUEL _ (wpO_bind h)
    intro P3 E3 X3
    have J60 : ∀ (x4 : Int32) (x5 : Int32) (s0 : Int32), wpO (F_Pair_gainsOtherwise_j60 x1 x2 x3 x4 x5 s0 M) P3 → GG p l e { frames := 3, cells := 0, slots := 0, locals := 98 } s m args below meth c g 8 (vx_MQ below (Qn g s.heap.size (.inl (some (.int (b2i rr)))) M) (QX g s.heap.size (.inl (some (.int (b2i rr)))) M) args s 0 0 (AS g s.heap.size)) 0 0 60 [(0, .ref (g.2.1 34)), (1, .int x1), (2, .int x2), (3, .int x3), (4, .int x4), (5, .int x5)] [.int s0] M := by
      intro x4 x5 s0 h
      unfold F_Pair_gainsOtherwise_j60 at h
      refine G_istore K dX6_gainsOtherwise_60 (Nat.le_of_ble_eq_true rfl) rfl ?_
      refine G_aload_n rfl 1 rfl K dX6_gainsOtherwise_62 ?_
      refine G_iload_n rfl 2 rfl K dX6_gainsOtherwise_63 ?_
      refine G_iload_n rfl 3 rfl K dX6_gainsOtherwise_64 ?_
      refine G_iload 6 rfl K dX6_gainsOtherwise_65 ?_
      refine G_iload 0 rfl K dX6_gainsOtherwise_67 ?_
      obtain ⟨r3, e3, h⟩ := wpO_bind h
      refine G_callVi (ci := 6) [.int x1, .int x2, .int x5, .int s0] [] K dX6_gainsOtherwise_69 wv_506 yd_X6_placeAfter (Nat.le_of_ble_eq_true rfl) (sh_34 _ _) rfl (by decide) (by decide) rfl rfl (Nat.le_of_ble_eq_true rfl) (K_Pair_placeAfter l g htr x1 x2 x5 s0 M _ e3) ?_
      refine G_istore K dX6_gainsOtherwise_72 (Nat.le_of_ble_eq_true rfl) rfl ?_
      refine G_aload_n rfl 2 rfl K dX6_gainsOtherwise_74 ?_
      refine G_get (ci := 6) (k := 1) K rfl in_X6 wd_221 rfl dX6_gainsOtherwise_75 (Nat.le_of_ble_eq_true rfl) (sh_34 _ _) (Nat.le_of_ble_eq_true rfl) rfl ?_
      refine G_aload_n rfl 2 rfl K dX6_gainsOtherwise_78 ?_
      refine G_get (ci := 6) (k := 0) K rfl in_X6 wd_220 rfl dX6_gainsOtherwise_79 (Nat.le_of_ble_eq_true rfl) (sh_34 _ _) (Nat.le_of_ble_eq_true rfl) rfl ?_
      refine G_iload_n rfl 5 rfl K dX6_gainsOtherwise_82 ?_
      refine G_iload 7 rfl K dX6_gainsOtherwise_83 ?_
      refine G_iload 1 rfl K dX6_gainsOtherwise_85 ?_
      obtain ⟨r4, e4, h⟩ := wpO_bind h
      refine G_callVi (ci := 10) [.int x3, .int x5, .int s0] [.ref (g.2.1 35)] K dX6_gainsOtherwise_87 wv_514 yd_X10_bringsTo (Nat.le_of_ble_eq_true rfl) (sh_1 _ _) rfl (by decide) (by decide) rfl rfl (Nat.le_of_ble_eq_true rfl) (K_Well_bringsTo l g htr x3 x5 s0 M _ e4) ?_
      refine G_iload 0 rfl K dX6_gainsOtherwise_90 ?_
      refine G_iload_n rfl 5 rfl K dX6_gainsOtherwise_92 ?_
      refine G_iconst (v := 3) rfl K dX6_gainsOtherwise_93 ?_
      refine G_iload_n rfl 3 rfl K dX6_gainsOtherwise_94 ?_
      refine G_imul K dX6_gainsOtherwise_95 ?_
      refine G_iload_n rfl 4 rfl K dX6_gainsOtherwise_96 ?_
      refine G_iadd K dX6_gainsOtherwise_97 ?_
      obtain ⟨r5, e5, h⟩ := wpO_bind h
      refine G_callVi (ci := 2) [.int r4, .int r3, .int x3, .int ((3 * x1) + x2)] [] K dX6_gainsOtherwise_98 wv_552 yd_X2_orderOf (Nat.le_of_ble_eq_true rfl) (sh_35 _ _) rfl (by decide) (by decide) rfl rfl (Nat.le_of_ble_eq_true rfl) (K_Chain_orderOf l g htr 35 isChain_35 r4 r3 x3 ((3 * x1) + x2) M _ e5) ?_
      refine G_if_le (tgt := 106) K dX6_gainsOtherwise_101 (by decide) (fun hc => ?_) (fun hc => ?_)
      · have h := wpO_t h hc
        refine G_iinc (v := x4 + 1) 6 rfl K dX6_gainsOtherwise_106 rfl (Nat.le_of_ble_eq_true rfl) rfl ?_
        refine G_goto (tgt := 3) K dX6_gainsOtherwise_109 (by decide) ?_
        exact G_lv (lv' := [(0, .ref (g.2.1 34)), (1, .int x1), (2, .int x2), (3, .int x3), (4, .int (x4 + 1))]) [3, 4, 5, 6, 0] rfl (E3 (x4 + 1) (wpO_some h))
      · have h := wpO_f h hc
        have h := X3 _ (wpO_some h)
        try dsimp only at h
        refine G_iconst (v := 1) rfl K dX6_gainsOtherwise_104 ?_
        cases hPHI _ (wpO_some h)
        exact G_iret K hr rfl dX6_gainsOtherwise_105 (Nat.le_of_ble_eq_true rfl) (Nat.le_of_ble_eq_true rfl) ⟨rfl, rfl⟩
    have J36 : ∀ (x4 : Int32) (s0 : Int32), wpO (F_Pair_gainsOtherwise_j36 x1 x2 x3 x4 s0 M) P3 → GG p l e { frames := 3, cells := 0, slots := 0, locals := 98 } s m args below meth c g 8 (vx_MQ below (Qn g s.heap.size (.inl (some (.int (b2i rr)))) M) (QX g s.heap.size (.inl (some (.int (b2i rr)))) M) args s 0 0 (AS g s.heap.size)) 0 0 36 [(0, .ref (g.2.1 34)), (1, .int x1), (2, .int x2), (3, .int x3), (4, .int x4)] [.int s0] M := by
      intro x4 s0 h
      unfold F_Pair_gainsOtherwise_j36 at h
      refine G_istore K dX6_gainsOtherwise_36 (Nat.le_of_ble_eq_true rfl) rfl ?_
      refine G_iload_n rfl 4 rfl K dX6_gainsOtherwise_38 ?_
      refine G_iconst (v := 1) rfl K dX6_gainsOtherwise_39 ?_
      refine G_icmp_ne (tgt := 48) K dX6_gainsOtherwise_40 (by decide) (fun hc => ?_) (fun hc => ?_)
      · have h := wpO_f h hc
        refine G_aload_n rfl 1 rfl K dX6_gainsOtherwise_48 ?_
        refine G_get (ci := 6) (k := 0) K rfl in_X6 wd_220 rfl dX6_gainsOtherwise_49 (Nat.le_of_ble_eq_true rfl) (sh_34 _ _) (Nat.le_of_ble_eq_true rfl) rfl ?_
        refine G_aload_n rfl 1 rfl K dX6_gainsOtherwise_52 ?_
        refine G_get (ci := 6) (k := 3) K rfl in_X6 wd_223 rfl dX6_gainsOtherwise_53 (Nat.le_of_ble_eq_true rfl) (sh_34 _ _) (Nat.le_of_ble_eq_true rfl) rfl ?_
        refine G_iload_n rfl 3 rfl K dX6_gainsOtherwise_56 ?_
        obtain ⟨r2, e2, h⟩ := wpO_bind h
        refine G_callVi (ci := 10) [.int (M.1 34 3), .int x2] [] K dX6_gainsOtherwise_57 wv_505 yd_X10_actOf (Nat.le_of_ble_eq_true rfl) (sh_1 _ _) rfl (by decide) (by decide) rfl rfl (Nat.le_of_ble_eq_true rfl) (K_Well_actOf l g htr (M.1 34 3) x2 M _ e2) ?_
        exact G_lv (lv' := [(0, .ref (g.2.1 34)), (1, .int x1), (2, .int x2), (3, .int x3), (4, .int x4), (5, .int s0)]) [1, 2, 3, 4, 5, 0] rfl (J60 x4 s0 r2 h)
      · have h := wpO_t h hc
        refine G_iload 5 rfl K dX6_gainsOtherwise_43 ?_
        refine G_goto (tgt := 60) K dX6_gainsOtherwise_45 (by decide) ?_
        exact G_lv (lv' := [(0, .ref (g.2.1 34)), (1, .int x1), (2, .int x2), (3, .int x3), (4, .int x4), (5, .int s0)]) [1, 2, 3, 4, 5, 0] rfl (J60 x4 s0 x4 h)
    intro z h
    unfold F_Pair_gainsOtherwise_b3 at h
    refine G_iload 4 rfl K dX6_gainsOtherwise_3 ?_
    refine G_aload_n rfl 0 rfl K dX6_gainsOtherwise_5 ?_
    refine G_get (ci := 6) (k := 0) K rfl in_X6 wd_220 rfl dX6_gainsOtherwise_6 (Nat.le_of_ble_eq_true rfl) (sh_34 _ _) (Nat.le_of_ble_eq_true rfl) rfl ?_
    refine G_get (ci := 10) (k := 0) K rfl in_X10 wd_59 rfl dX6_gainsOtherwise_9 (Nat.le_of_ble_eq_true rfl) (sh_1 _ _) (Nat.le_of_ble_eq_true rfl) rfl ?_
    refine G_icmp_ge (tgt := 112) K dX6_gainsOtherwise_12 (by decide) (fun hc => ?_) (fun hc => ?_)
    · have h := wpO_t h hc
      have h := X3 _ (wpO_some h)
      try dsimp only at h
      refine G_iconst (v := 0) rfl K dX6_gainsOtherwise_112 ?_
      cases hPHI _ (wpO_some h)
      exact G_iret K hr rfl dX6_gainsOtherwise_113 (Nat.le_of_ble_eq_true rfl) (Nat.le_of_ble_eq_true rfl) ⟨rfl, rfl⟩
    · have h := wpO_f h hc
      refine G_iload_n rfl 3 rfl K dX6_gainsOtherwise_15 ?_
      refine G_if_ne (tgt := 24) K dX6_gainsOtherwise_16 (by decide) (fun hc => ?_) (fun hc => ?_)
      · have h := wpO_f h hc
        refine G_aload_n rfl 0 rfl K dX6_gainsOtherwise_24 ?_
        refine G_get (ci := 6) (k := 0) K rfl in_X6 wd_220 rfl dX6_gainsOtherwise_25 (Nat.le_of_ble_eq_true rfl) (sh_34 _ _) (Nat.le_of_ble_eq_true rfl) rfl ?_
        refine G_aload_n rfl 0 rfl K dX6_gainsOtherwise_28 ?_
        refine G_get (ci := 6) (k := 2) K rfl in_X6 wd_222 rfl dX6_gainsOtherwise_29 (Nat.le_of_ble_eq_true rfl) (sh_34 _ _) (Nat.le_of_ble_eq_true rfl) rfl ?_
        refine G_iload_n rfl 1 rfl K dX6_gainsOtherwise_32 ?_
        obtain ⟨r1, e1, h⟩ := wpO_bind h
        refine G_callVi (ci := 10) [.int (M.1 34 2), .int x1] [] K dX6_gainsOtherwise_33 wv_505 yd_X10_actOf (Nat.le_of_ble_eq_true rfl) (sh_1 _ _) rfl (by decide) (by decide) rfl rfl (Nat.le_of_ble_eq_true rfl) (K_Well_actOf l g htr (M.1 34 2) x1 M _ e1) ?_
        exact J36 z r1 h
      · have h := wpO_t h hc
        refine G_iload 4 rfl K dX6_gainsOtherwise_19 ?_
        refine G_goto (tgt := 36) K dX6_gainsOtherwise_21 (by decide) ?_
        exact J36 z z h
  unfold F_Pair_gainsOtherwise at h
  refine G_iconst (v := 0) rfl K dX6_gainsOtherwise_0 ?_
  refine G_istore K dX6_gainsOtherwise_1 (Nat.le_of_ble_eq_true rfl) rfl ?_
  exact G_lv (lv' := [(0, .ref (g.2.1 34)), (1, .int x1), (2, .int x2), (3, .int x3), (4, .int 0)]) [1, 2, 3, 4, 0] rfl (J3 x1 x2 x3 0 h)
theorem yd_X6_gainsOtherwise : ydN yX6_gainsOtherwise 3 := ⟨by decide, by decide, by decide +kernel⟩
theorem wv_548 : wdV "KeptWell$Pair" 88 yX6_gainsOtherwise cX6_gainsOtherwise 8 (some .boolean) := ⟨wd_548, wd_550, ws_X6_gainsOtherwise, wd_6, wd_551⟩
def on_X6_firstGain : Nat := 0xac02c3ffa7010184d3ffa7010284e3ffa7010384ac601d60681c05681b06100e00995800b61d1c1b2a1e00a2051d3e032b00a21c00b42a1c3d033b00a21900b42a1b3c03
theorem ob_X6_firstGain : OKB cX6_firstGain on_X6_firstGain 68 := ⟨by decide +kernel, by decide +kernel⟩
theorem dX6_firstGain_0 : dc cX6_firstGain 0 1 (.iconst 0) 1 := o_3 ob_X6_firstGain rfl rfl rfl
theorem dX6_firstGain_1 : dc cX6_firstGain 1 2 (.istore_n 1) 1 := o_60 ob_X6_firstGain rfl rfl rfl
theorem dX6_firstGain_2 : dc cX6_firstGain 2 3 (.iload_n 1) 1 := o_27 ob_X6_firstGain rfl rfl rfl
theorem dX6_firstGain_3 : dc cX6_firstGain 3 4 (.aload_n 0) 1 := o_42 ob_X6_firstGain rfl rfl rfl
theorem dX6_firstGain_4 : dc cX6_firstGain 4 7 (.getfield 25) 3 := o_180 ob_X6_firstGain rfl rfl rfl rfl
theorem dX6_firstGain_7 : dc cX6_firstGain 7 10 (.if_icmp .ge 59) 3 := o_162 ob_X6_firstGain rfl rfl rfl rfl
theorem dX6_firstGain_10 : dc cX6_firstGain 10 11 (.iconst 0) 1 := o_3 ob_X6_firstGain rfl rfl rfl
theorem dX6_firstGain_11 : dc cX6_firstGain 11 12 (.istore_n 2) 1 := o_61 ob_X6_firstGain rfl rfl rfl
theorem dX6_firstGain_12 : dc cX6_firstGain 12 13 (.iload_n 2) 1 := o_28 ob_X6_firstGain rfl rfl rfl
theorem dX6_firstGain_13 : dc cX6_firstGain 13 14 (.aload_n 0) 1 := o_42 ob_X6_firstGain rfl rfl rfl
theorem dX6_firstGain_14 : dc cX6_firstGain 14 17 (.getfield 28) 3 := o_180 ob_X6_firstGain rfl rfl rfl rfl
theorem dX6_firstGain_17 : dc cX6_firstGain 17 20 (.if_icmp .ge 43) 3 := o_162 ob_X6_firstGain rfl rfl rfl rfl
theorem dX6_firstGain_20 : dc cX6_firstGain 20 21 (.iconst 0) 1 := o_3 ob_X6_firstGain rfl rfl rfl
theorem dX6_firstGain_21 : dc cX6_firstGain 21 22 (.istore_n 3) 1 := o_62 ob_X6_firstGain rfl rfl rfl
theorem dX6_firstGain_22 : dc cX6_firstGain 22 23 (.iload_n 3) 1 := o_29 ob_X6_firstGain rfl rfl rfl
theorem dX6_firstGain_23 : dc cX6_firstGain 23 24 (.iconst 2) 1 := o_5 ob_X6_firstGain rfl rfl rfl
theorem dX6_firstGain_24 : dc cX6_firstGain 24 27 (.if_icmp .ge 30) 3 := o_162 ob_X6_firstGain rfl rfl rfl rfl
theorem dX6_firstGain_27 : dc cX6_firstGain 27 28 (.aload_n 0) 1 := o_42 ob_X6_firstGain rfl rfl rfl
theorem dX6_firstGain_28 : dc cX6_firstGain 28 29 (.iload_n 1) 1 := o_27 ob_X6_firstGain rfl rfl rfl
theorem dX6_firstGain_29 : dc cX6_firstGain 29 30 (.iload_n 2) 1 := o_28 ob_X6_firstGain rfl rfl rfl
theorem dX6_firstGain_30 : dc cX6_firstGain 30 31 (.iload_n 3) 1 := o_29 ob_X6_firstGain rfl rfl rfl
theorem dX6_firstGain_31 : dc cX6_firstGain 31 34 (.invokevirtual 88) 3 := o_182 ob_X6_firstGain rfl rfl rfl rfl
theorem dX6_firstGain_34 : dc cX6_firstGain 34 37 (.ifCond .eq 14) 3 := o_153 ob_X6_firstGain rfl rfl rfl rfl
theorem dX6_firstGain_37 : dc cX6_firstGain 37 39 (.bipush 6) 2 := o_16 ob_X6_firstGain rfl rfl rfl rfl
theorem dX6_firstGain_39 : dc cX6_firstGain 39 40 (.iload_n 1) 1 := o_27 ob_X6_firstGain rfl rfl rfl
theorem dX6_firstGain_40 : dc cX6_firstGain 40 41 .imul 1 := o_104 ob_X6_firstGain rfl rfl rfl
theorem dX6_firstGain_41 : dc cX6_firstGain 41 42 (.iconst 2) 1 := o_5 ob_X6_firstGain rfl rfl rfl
theorem dX6_firstGain_42 : dc cX6_firstGain 42 43 (.iload_n 2) 1 := o_28 ob_X6_firstGain rfl rfl rfl
theorem dX6_firstGain_43 : dc cX6_firstGain 43 44 .imul 1 := o_104 ob_X6_firstGain rfl rfl rfl
theorem dX6_firstGain_44 : dc cX6_firstGain 44 45 .iadd 1 := o_96 ob_X6_firstGain rfl rfl rfl
theorem dX6_firstGain_45 : dc cX6_firstGain 45 46 (.iload_n 3) 1 := o_29 ob_X6_firstGain rfl rfl rfl
theorem dX6_firstGain_46 : dc cX6_firstGain 46 47 .iadd 1 := o_96 ob_X6_firstGain rfl rfl rfl
theorem dX6_firstGain_47 : dc cX6_firstGain 47 48 .ireturn 1 := o_172 ob_X6_firstGain rfl rfl rfl
theorem dX6_firstGain_48 : dc cX6_firstGain 48 51 (.iinc 3 1) 3 := o_132 ob_X6_firstGain rfl rfl rfl rfl rfl
theorem dX6_firstGain_51 : dc cX6_firstGain 51 54 (.goto (-29)) 3 := o_167 ob_X6_firstGain rfl rfl rfl rfl
theorem dX6_firstGain_54 : dc cX6_firstGain 54 57 (.iinc 2 1) 3 := o_132 ob_X6_firstGain rfl rfl rfl rfl rfl
theorem dX6_firstGain_57 : dc cX6_firstGain 57 60 (.goto (-45)) 3 := o_167 ob_X6_firstGain rfl rfl rfl rfl
theorem dX6_firstGain_60 : dc cX6_firstGain 60 63 (.iinc 1 1) 3 := o_132 ob_X6_firstGain rfl rfl rfl rfl rfl
theorem dX6_firstGain_63 : dc cX6_firstGain 63 66 (.goto (-61)) 3 := o_167 ob_X6_firstGain rfl rfl rfl rfl
theorem dX6_firstGain_66 : dc cX6_firstGain 66 67 (.iconst (-1)) 1 := o_2 ob_X6_firstGain rfl rfl rfl
theorem dX6_firstGain_67 : dc cX6_firstGain 67 68 .ireturn 1 := o_172 ob_X6_firstGain rfl rfl rfl
def F_Pair_firstGain_j37 (x1 : Int32) (x2 : Int32) (x3 : Int32) (M : Mem) : Option (Int32) :=
  some (((6 * x1) + (2 * x2)) + x3)
def F_Pair_firstGain_b22 (x1 : Int32) (x2 : Int32) (M : Mem) (z : Int32) : Option ((Int32) ⊕ ((Int32) ⊕ ((Unit)))) :=
  if 2 ≤ z then some (.inr (.inr (()))) else (F_Pair_gainsOtherwise x1 x2 z M).bind fun r1 => if r1 = true then some (.inr (.inl z)) else some (.inl (z + 1))
def F_Pair_firstGain_l22 (x1 : Int32) (x2 : Int32) (x3 : Int32) (M : Mem) : Option ((Int32) ⊕ ((Int32 × Int32) ⊕ ((Unit)))) :=
  (iter (F_Pair_firstGain_b22 x1 x2 M) FUEL x3).bind fun q => match q with
    | .inl r => some (.inr (.inl ((x2, r))))
    | .inr r => some (.inl (x2 + 1))
def F_Pair_firstGain_b12 (x1 : Int32) (M : Mem) (z : Int32) : Option ((Int32) ⊕ ((Int32 × Int32) ⊕ ((Unit)))) :=
  if (M.1 34 5) ≤ z then some (.inr (.inr (()))) else F_Pair_firstGain_l22 x1 z 0 M
def F_Pair_firstGain_l12 (x1 : Int32) (x2 : Int32) (M : Mem) : Option ((Int32) ⊕ ((Int32 × Int32 × Int32) ⊕ ((Unit)))) :=
  (iter (F_Pair_firstGain_b12 x1 M) FUEL x2).bind fun q => match q with
    | .inl r => some (.inr (.inl ((x1, r.1, r.2))))
    | .inr r => some (.inl (x1 + 1))
def F_Pair_firstGain_b2 (M : Mem) (z : Int32) : Option ((Int32) ⊕ ((Int32 × Int32 × Int32) ⊕ ((Unit)))) :=
  if (M.1 34 4) ≤ z then some (.inr (.inr (()))) else F_Pair_firstGain_l12 z 0 M
def F_Pair_firstGain_l2 (x1 : Int32) (M : Mem) : Option (Int32) :=
  (iter (F_Pair_firstGain_b2 M) FUEL x1).bind fun q => match q with
    | .inl r => F_Pair_firstGain_j37 r.1 r.2.1 r.2.2 M
    | .inr r => some ((-1))
def F_Pair_firstGain (M : Mem) : Option (Int32) :=
  F_Pair_firstGain_l2 0 M
set_option maxRecDepth 100000 in
set_option maxHeartbeats 4000000 in
theorem K_Pair_firstGain (l : Launch) (g : GB) (htr : l.stackTraces = false) (M : Mem) (rr : Int32) (h : F_Pair_firstGain M = some rr) : CT l g yX6_firstGain (.code yX6_firstGain cX6_firstGain 4 (some .int) :: wAll) { frames := 4, cells := 0, slots := 0, locals := 125 } [.ref (g.2.1 34)] M (.inl (some (.int rr))) M := by
  refine CT.of [(0, .ref (g.2.1 34))] (by decide +kernel) (Nat.le_of_ble_eq_true rfl) rfl htr ?_
  intro p e s m args below meth c K hr ht
  skip
  obtain ⟨PHI, hPHI, h⟩ : ∃ PHI : Int32 → Prop, (∀ a, PHI a → a = rr) ∧ wpO (F_Pair_firstGain M) PHI := ⟨fun a => a = rr, fun _ h => h, _, h, rfl⟩
  have J37 : ∀ (x1 : Int32) (x2 : Int32) (x3 : Int32), wpO (F_Pair_firstGain_j37 x1 x2 x3 M) PHI → GG p l e { frames := 4, cells := 0, slots := 0, locals := 125 } s m args below meth c g 4 (vx_MQ below (Qn g s.heap.size (.inl (some (.int rr))) M) (QX g s.heap.size (.inl (some (.int rr))) M) args s 0 0 (AS g s.heap.size)) 0 0 37 [(1, .int x1), (2, .int x2), (3, .int x3)] [] M := by
    intro x1 x2 x3 h
    unfold F_Pair_firstGain_j37 at h
    refine G_bipush (v := 6) rfl K dX6_firstGain_37 ?_
    refine G_iload_n rfl 0 rfl K dX6_firstGain_39 ?_
    refine G_imul K dX6_firstGain_40 ?_
    refine G_iconst (v := 2) rfl K dX6_firstGain_41 ?_
    refine G_iload_n rfl 1 rfl K dX6_firstGain_42 ?_
    refine G_imul K dX6_firstGain_43 ?_
    refine G_iadd K dX6_firstGain_44 ?_
    refine G_iload_n rfl 2 rfl K dX6_firstGain_45 ?_
    refine G_iadd K dX6_firstGain_46 ?_
    cases hPHI _ (wpO_some h)
    exact G_iret K hr rfl dX6_firstGain_47 (Nat.le_of_ble_eq_true rfl) (Nat.le_of_ble_eq_true rfl) ⟨rfl, rfl⟩
  have J2 : ∀ (x1 : Int32), wpO (F_Pair_firstGain_l2 x1 M) PHI → GG p l e { frames := 4, cells := 0, slots := 0, locals := 125 } s m args below meth c g 4 (vx_MQ below (Qn g s.heap.size (.inl (some (.int rr))) M) (QX g s.heap.size (.inl (some (.int rr))) M) args s 0 0 (AS g s.heap.size)) 0 0 2 [(0, .ref (g.2.1 34)), (1, .int x1)] [] M := by
    intro x1 h
    unfold F_Pair_firstGain_l2 at h
    refine loop_C1 (G := fun (x1 : Int32) => GG p l e { frames := 4, cells := 0, slots := 0, locals := 125 } s m args below meth c g 4 (vx_MQ below (Qn g s.heap.size (.inl (some (.int rr))) M) (QX g s.heap.size (.inl (some (.int rr))) M) args s 0 0 (AS g s.heap.size)) 0 0 2 [(0, .ref (g.2.1 34)), (1, .int x1)] [] M) (body := F_Pair_firstGain_b2 M) ?_ FUEL _ (wpO_bind h)
    intro P2 E2 X2
    have J12 : ∀ (x1 : Int32) (x2 : Int32), wpO (F_Pair_firstGain_l12 x1 x2 M) P2 → GG p l e { frames := 4, cells := 0, slots := 0, locals := 125 } s m args below meth c g 4 (vx_MQ below (Qn g s.heap.size (.inl (some (.int rr))) M) (QX g s.heap.size (.inl (some (.int rr))) M) args s 0 0 (AS g s.heap.size)) 0 0 12 [(0, .ref (g.2.1 34)), (1, .int x1), (2, .int x2)] [] M := by
      intro x1 x2 h
      unfold F_Pair_firstGain_l12 at h
      refine loop_C1 (G := fun (x2 : Int32) => GG p l e { frames := 4, cells := 0, slots := 0, locals := 125 } s m args below meth c g 4 (vx_MQ below (Qn g s.heap.size (.inl (some (.int rr))) M) (QX g s.heap.size (.inl (some (.int rr))) M) args s 0 0 (AS g s.heap.size)) 0 0 12 [(0, .ref (g.2.1 34)), (1, .int x1), (2, .int x2)] [] M) (body := F_Pair_firstGain_b12 x1 M) ?_ FUEL _ (wpO_bind h)
      intro P12 E12 X12
      have J22 : ∀ (x2 : Int32) (x3 : Int32), wpO (F_Pair_firstGain_l22 x1 x2 x3 M) P12 → GG p l e { frames := 4, cells := 0, slots := 0, locals := 125 } s m args below meth c g 4 (vx_MQ below (Qn g s.heap.size (.inl (some (.int rr))) M) (QX g s.heap.size (.inl (some (.int rr))) M) args s 0 0 (AS g s.heap.size)) 0 0 22 [(0, .ref (g.2.1 34)), (1, .int x1), (2, .int x2), (3, .int x3)] [] M := by
        intro x2 x3 h
        unfold F_Pair_firstGain_l22 at h
        refine loop_C1 (G := fun (x3 : Int32) => GG p l e { frames := 4, cells := 0, slots := 0, locals := 125 } s m args below meth c g 4 (vx_MQ below (Qn g s.heap.size (.inl (some (.int rr))) M) (QX g s.heap.size (.inl (some (.int rr))) M) args s 0 0 (AS g s.heap.size)) 0 0 22 [(0, .ref (g.2.1 34)), (1, .int x1), (2, .int x2), (3, .int x3)] [] M) (body := F_Pair_firstGain_b22 x1 x2 M) ?_ FUEL _ (wpO_bind h)
        intro P22 E22 X22
        intro z h
        unfold F_Pair_firstGain_b22 at h
        refine G_iload_n rfl 3 rfl K dX6_firstGain_22 ?_
        refine G_iconst (v := 2) rfl K dX6_firstGain_23 ?_
        refine G_icmp_ge (tgt := 54) K dX6_firstGain_24 (by decide) (fun hc => ?_) (fun hc => ?_)
        · have h := wpO_t h hc
          have h := X22 _ (wpO_some h)
          try dsimp only at h
          refine G_iinc (v := x2 + 1) 2 rfl K dX6_firstGain_54 rfl (Nat.le_of_ble_eq_true rfl) rfl ?_
          refine G_goto (tgt := 12) K dX6_firstGain_57 (by decide) ?_
          exact G_lv (lv' := [(0, .ref (g.2.1 34)), (1, .int x1), (2, .int (x2 + 1))]) [1, 2, 0] rfl (E12 (x2 + 1) (wpO_some h))
        · have h := wpO_f h hc
          refine G_aload_n rfl 0 rfl K dX6_firstGain_27 ?_
          refine G_iload_n rfl 1 rfl K dX6_firstGain_28 ?_
          refine G_iload_n rfl 2 rfl K dX6_firstGain_29 ?_
          refine G_iload_n rfl 3 rfl K dX6_firstGain_30 ?_
          obtain ⟨r1, e1, h⟩ := wpO_bind h
          refine G_callVi (ci := 6) [.int x1, .int x2, .int z] [] K dX6_firstGain_31 wv_548 yd_X6_gainsOtherwise (Nat.le_of_ble_eq_true rfl) (sh_34 _ _) rfl (by decide) (by decide) rfl rfl (Nat.le_of_ble_eq_true rfl) (K_Pair_gainsOtherwise l g htr x1 x2 z M _ e1) ?_
          refine G_ifb_eq (tgt := 48) K dX6_firstGain_34 (by decide) (fun hc => ?_) (fun hc => ?_)
          · have h := wpO_bf h hc
            refine G_iinc (v := z + 1) 3 rfl K dX6_firstGain_48 rfl (Nat.le_of_ble_eq_true rfl) rfl ?_
            refine G_goto (tgt := 22) K dX6_firstGain_51 (by decide) ?_
            exact G_lv (lv' := [(0, .ref (g.2.1 34)), (1, .int x1), (2, .int x2), (3, .int (z + 1))]) [1, 2, 3, 0] rfl (E22 (z + 1) (wpO_some h))
          · have h := wpO_t h hc
            have h := X22 _ (wpO_some h)
            try dsimp only at h
            have h := X12 _ (wpO_some h)
            try dsimp only at h
            have h := X2 _ (wpO_some h)
            try dsimp only at h
            exact G_lv (lv' := [(1, .int x1), (2, .int x2), (3, .int z)]) [1, 2, 3] rfl (J37 x1 x2 z h)
      intro z h
      unfold F_Pair_firstGain_b12 at h
      refine G_iload_n rfl 2 rfl K dX6_firstGain_12 ?_
      refine G_aload_n rfl 0 rfl K dX6_firstGain_13 ?_
      refine G_get (ci := 6) (k := 5) K rfl in_X6 wd_225 rfl dX6_firstGain_14 (Nat.le_of_ble_eq_true rfl) (sh_34 _ _) (Nat.le_of_ble_eq_true rfl) rfl ?_
      refine G_icmp_ge (tgt := 60) K dX6_firstGain_17 (by decide) (fun hc => ?_) (fun hc => ?_)
      · have h := wpO_t h hc
        have h := X12 _ (wpO_some h)
        try dsimp only at h
        refine G_iinc (v := x1 + 1) 1 rfl K dX6_firstGain_60 rfl (Nat.le_of_ble_eq_true rfl) rfl ?_
        refine G_goto (tgt := 2) K dX6_firstGain_63 (by decide) ?_
        exact G_lv (lv' := [(0, .ref (g.2.1 34)), (1, .int (x1 + 1))]) [1, 0] rfl (E2 (x1 + 1) (wpO_some h))
      · have h := wpO_f h hc
        refine G_iconst (v := 0) rfl K dX6_firstGain_20 ?_
        refine G_istore_n rfl K dX6_firstGain_21 (Nat.le_of_ble_eq_true rfl) rfl ?_
        exact G_lv (lv' := [(0, .ref (g.2.1 34)), (1, .int x1), (2, .int z), (3, .int 0)]) [1, 2, 3, 0] rfl (J22 z 0 h)
    intro z h
    unfold F_Pair_firstGain_b2 at h
    refine G_iload_n rfl 1 rfl K dX6_firstGain_2 ?_
    refine G_aload_n rfl 0 rfl K dX6_firstGain_3 ?_
    refine G_get (ci := 6) (k := 4) K rfl in_X6 wd_224 rfl dX6_firstGain_4 (Nat.le_of_ble_eq_true rfl) (sh_34 _ _) (Nat.le_of_ble_eq_true rfl) rfl ?_
    refine G_icmp_ge (tgt := 66) K dX6_firstGain_7 (by decide) (fun hc => ?_) (fun hc => ?_)
    · have h := wpO_t h hc
      have h := X2 _ (wpO_some h)
      try dsimp only at h
      refine G_iconst (v := (-1)) rfl K dX6_firstGain_66 ?_
      cases hPHI _ (wpO_some h)
      exact G_iret K hr rfl dX6_firstGain_67 (Nat.le_of_ble_eq_true rfl) (Nat.le_of_ble_eq_true rfl) ⟨rfl, rfl⟩
    · have h := wpO_f h hc
      refine G_iconst (v := 0) rfl K dX6_firstGain_10 ?_
      refine G_istore_n rfl K dX6_firstGain_11 (Nat.le_of_ble_eq_true rfl) rfl ?_
      exact G_lv (lv' := [(0, .ref (g.2.1 34)), (1, .int z), (2, .int 0)]) [1, 2, 0] rfl (J12 z 0 h)
  unfold F_Pair_firstGain at h
  refine G_iconst (v := 0) rfl K dX6_firstGain_0 ?_
  refine G_istore_n rfl K dX6_firstGain_1 (Nat.le_of_ble_eq_true rfl) rfl ?_
  exact G_lv (lv' := [(0, .ref (g.2.1 34)), (1, .int 0)]) [1, 0] rfl (J2 0 h)
theorem yd_X6_firstGain : ydN yX6_firstGain 0 := ⟨by decide, by decide, by decide +kernel⟩
theorem yd_X6_look : ydN yX6_look 4 := ⟨by decide, by decide, by decide +kernel⟩
theorem wv_1178 : wdS "KeptWell$Pair" 98 yX5_commonPart cX5_commonPart 11 (some .long) := ⟨wd_1178, wd_974, wd_13, wd_975⟩
theorem wv_490 : wdV "KeptWell$Pair" 104 yX6_look cX6_look 11 none := ⟨wd_490, wd_491, wd_492, wd_6, wd_493⟩
theorem wv_544 : wdV "KeptWell$Pair" 108 yX6_firstGain cX6_firstGain 4 (some .int) := ⟨wd_544, wd_545, wd_546, wd_6, wd_547⟩
def on_X6_leastToHold : Nat := 0xac60051568041564100b00a7020700a004051595ffa7010684a4ffa7010784053605150500a706150800990815043604150500a7071508009908150836030400a7040700a0026c00b62a6800b68506158507151c1b2a3a009a940a6200b88506158507154800a2680615041568051507155b00a2061507150736046b00a31d0615063605053604043604
theorem ob_X6_leastToHold : OKB cX6_leastToHold on_X6_leastToHold 138 := ⟨by decide +kernel, by decide +kernel⟩
theorem dX6_leastToHold_0 : dc cX6_leastToHold 0 1 (.iconst 1) 1 := o_4 ob_X6_leastToHold rfl rfl rfl
theorem dX6_leastToHold_1 : dc cX6_leastToHold 1 3 (.istore 4) 2 := o_54 ob_X6_leastToHold rfl rfl rfl rfl
theorem dX6_leastToHold_3 : dc cX6_leastToHold 3 4 (.iconst 1) 1 := o_4 ob_X6_leastToHold rfl rfl rfl
theorem dX6_leastToHold_4 : dc cX6_leastToHold 4 6 (.istore 5) 2 := o_54 ob_X6_leastToHold rfl rfl rfl rfl
theorem dX6_leastToHold_6 : dc cX6_leastToHold 6 7 (.iconst 2) 1 := o_5 ob_X6_leastToHold rfl rfl rfl
theorem dX6_leastToHold_7 : dc cX6_leastToHold 7 9 (.istore 6) 2 := o_54 ob_X6_leastToHold rfl rfl rfl rfl
theorem dX6_leastToHold_9 : dc cX6_leastToHold 9 11 (.iload 6) 2 := o_21 ob_X6_leastToHold rfl rfl rfl rfl
theorem dX6_leastToHold_11 : dc cX6_leastToHold 11 12 (.iload_n 3) 1 := o_29 ob_X6_leastToHold rfl rfl rfl
theorem dX6_leastToHold_12 : dc cX6_leastToHold 12 15 (.if_icmp .gt 107) 3 := o_163 ob_X6_leastToHold rfl rfl rfl rfl
theorem dX6_leastToHold_15 : dc cX6_leastToHold 15 16 (.iconst 1) 1 := o_4 ob_X6_leastToHold rfl rfl rfl
theorem dX6_leastToHold_16 : dc cX6_leastToHold 16 18 (.istore 7) 2 := o_54 ob_X6_leastToHold rfl rfl rfl rfl
theorem dX6_leastToHold_18 : dc cX6_leastToHold 18 20 (.iload 7) 2 := o_21 ob_X6_leastToHold rfl rfl rfl rfl
theorem dX6_leastToHold_20 : dc cX6_leastToHold 20 22 (.iload 6) 2 := o_21 ob_X6_leastToHold rfl rfl rfl rfl
theorem dX6_leastToHold_22 : dc cX6_leastToHold 22 25 (.if_icmp .ge 91) 3 := o_162 ob_X6_leastToHold rfl rfl rfl rfl
theorem dX6_leastToHold_25 : dc cX6_leastToHold 25 27 (.iload 7) 2 := o_21 ob_X6_leastToHold rfl rfl rfl rfl
theorem dX6_leastToHold_27 : dc cX6_leastToHold 27 29 (.iload 5) 2 := o_21 ob_X6_leastToHold rfl rfl rfl rfl
theorem dX6_leastToHold_29 : dc cX6_leastToHold 29 30 .imul 1 := o_104 ob_X6_leastToHold rfl rfl rfl
theorem dX6_leastToHold_30 : dc cX6_leastToHold 30 32 (.iload 4) 2 := o_21 ob_X6_leastToHold rfl rfl rfl rfl
theorem dX6_leastToHold_32 : dc cX6_leastToHold 32 34 (.iload 6) 2 := o_21 ob_X6_leastToHold rfl rfl rfl rfl
theorem dX6_leastToHold_34 : dc cX6_leastToHold 34 35 .imul 1 := o_104 ob_X6_leastToHold rfl rfl rfl
theorem dX6_leastToHold_35 : dc cX6_leastToHold 35 38 (.if_icmp .ge 72) 3 := o_162 ob_X6_leastToHold rfl rfl rfl rfl
theorem dX6_leastToHold_38 : dc cX6_leastToHold 38 40 (.iload 7) 2 := o_21 ob_X6_leastToHold rfl rfl rfl rfl
theorem dX6_leastToHold_40 : dc cX6_leastToHold 40 41 .i2l 1 := o_133 ob_X6_leastToHold rfl rfl rfl
theorem dX6_leastToHold_41 : dc cX6_leastToHold 41 43 (.iload 6) 2 := o_21 ob_X6_leastToHold rfl rfl rfl rfl
theorem dX6_leastToHold_43 : dc cX6_leastToHold 43 44 .i2l 1 := o_133 ob_X6_leastToHold rfl rfl rfl
theorem dX6_leastToHold_44 : dc cX6_leastToHold 44 47 (.invokestatic 98) 3 := o_184 ob_X6_leastToHold rfl rfl rfl rfl
theorem dX6_leastToHold_47 : dc cX6_leastToHold 47 48 (.lconst 1) 1 := o_10 ob_X6_leastToHold rfl rfl rfl
theorem dX6_leastToHold_48 : dc cX6_leastToHold 48 49 .lcmp 1 := o_148 ob_X6_leastToHold rfl rfl rfl
theorem dX6_leastToHold_49 : dc cX6_leastToHold 49 52 (.ifCond .ne 58) 3 := o_154 ob_X6_leastToHold rfl rfl rfl rfl
theorem dX6_leastToHold_52 : dc cX6_leastToHold 52 53 (.aload_n 0) 1 := o_42 ob_X6_leastToHold rfl rfl rfl
theorem dX6_leastToHold_53 : dc cX6_leastToHold 53 54 (.iload_n 1) 1 := o_27 ob_X6_leastToHold rfl rfl rfl
theorem dX6_leastToHold_54 : dc cX6_leastToHold 54 55 (.iload_n 2) 1 := o_28 ob_X6_leastToHold rfl rfl rfl
theorem dX6_leastToHold_55 : dc cX6_leastToHold 55 57 (.iload 7) 2 := o_21 ob_X6_leastToHold rfl rfl rfl rfl
theorem dX6_leastToHold_57 : dc cX6_leastToHold 57 58 .i2l 1 := o_133 ob_X6_leastToHold rfl rfl rfl
theorem dX6_leastToHold_58 : dc cX6_leastToHold 58 60 (.iload 6) 2 := o_21 ob_X6_leastToHold rfl rfl rfl rfl
theorem dX6_leastToHold_60 : dc cX6_leastToHold 60 61 .i2l 1 := o_133 ob_X6_leastToHold rfl rfl rfl
theorem dX6_leastToHold_61 : dc cX6_leastToHold 61 64 (.invokevirtual 104) 3 := o_182 ob_X6_leastToHold rfl rfl rfl rfl
theorem dX6_leastToHold_64 : dc cX6_leastToHold 64 65 (.aload_n 0) 1 := o_42 ob_X6_leastToHold rfl rfl rfl
theorem dX6_leastToHold_65 : dc cX6_leastToHold 65 68 (.invokevirtual 108) 3 := o_182 ob_X6_leastToHold rfl rfl rfl rfl
theorem dX6_leastToHold_68 : dc cX6_leastToHold 68 69 (.iconst (-1)) 1 := o_2 ob_X6_leastToHold rfl rfl rfl
theorem dX6_leastToHold_69 : dc cX6_leastToHold 69 72 (.if_icmp .ne 7) 3 := o_160 ob_X6_leastToHold rfl rfl rfl rfl
theorem dX6_leastToHold_72 : dc cX6_leastToHold 72 73 (.iconst 1) 1 := o_4 ob_X6_leastToHold rfl rfl rfl
theorem dX6_leastToHold_73 : dc cX6_leastToHold 73 76 (.goto 4) 3 := o_167 ob_X6_leastToHold rfl rfl rfl rfl
theorem dX6_leastToHold_76 : dc cX6_leastToHold 76 77 (.iconst 0) 1 := o_3 ob_X6_leastToHold rfl rfl rfl
theorem dX6_leastToHold_77 : dc cX6_leastToHold 77 79 (.istore 8) 2 := o_54 ob_X6_leastToHold rfl rfl rfl rfl
theorem dX6_leastToHold_79 : dc cX6_leastToHold 79 81 (.iload 8) 2 := o_21 ob_X6_leastToHold rfl rfl rfl rfl
theorem dX6_leastToHold_81 : dc cX6_leastToHold 81 84 (.ifCond .eq 8) 3 := o_153 ob_X6_leastToHold rfl rfl rfl rfl
theorem dX6_leastToHold_84 : dc cX6_leastToHold 84 86 (.iload 7) 2 := o_21 ob_X6_leastToHold rfl rfl rfl rfl
theorem dX6_leastToHold_86 : dc cX6_leastToHold 86 89 (.goto 5) 3 := o_167 ob_X6_leastToHold rfl rfl rfl rfl
theorem dX6_leastToHold_89 : dc cX6_leastToHold 89 91 (.iload 4) 2 := o_21 ob_X6_leastToHold rfl rfl rfl rfl
theorem dX6_leastToHold_91 : dc cX6_leastToHold 91 93 (.istore 4) 2 := o_54 ob_X6_leastToHold rfl rfl rfl rfl
theorem dX6_leastToHold_93 : dc cX6_leastToHold 93 95 (.iload 8) 2 := o_21 ob_X6_leastToHold rfl rfl rfl rfl
theorem dX6_leastToHold_95 : dc cX6_leastToHold 95 98 (.ifCond .eq 8) 3 := o_153 ob_X6_leastToHold rfl rfl rfl rfl
theorem dX6_leastToHold_98 : dc cX6_leastToHold 98 100 (.iload 6) 2 := o_21 ob_X6_leastToHold rfl rfl rfl rfl
theorem dX6_leastToHold_100 : dc cX6_leastToHold 100 103 (.goto 5) 3 := o_167 ob_X6_leastToHold rfl rfl rfl rfl
theorem dX6_leastToHold_103 : dc cX6_leastToHold 103 105 (.iload 5) 2 := o_21 ob_X6_leastToHold rfl rfl rfl rfl
theorem dX6_leastToHold_105 : dc cX6_leastToHold 105 107 (.istore 5) 2 := o_54 ob_X6_leastToHold rfl rfl rfl rfl
theorem dX6_leastToHold_107 : dc cX6_leastToHold 107 110 (.iinc 7 1) 3 := o_132 ob_X6_leastToHold rfl rfl rfl rfl rfl
theorem dX6_leastToHold_110 : dc cX6_leastToHold 110 113 (.goto (-92)) 3 := o_167 ob_X6_leastToHold rfl rfl rfl rfl
theorem dX6_leastToHold_113 : dc cX6_leastToHold 113 116 (.iinc 6 1) 3 := o_132 ob_X6_leastToHold rfl rfl rfl rfl rfl
theorem dX6_leastToHold_116 : dc cX6_leastToHold 116 119 (.goto (-107)) 3 := o_167 ob_X6_leastToHold rfl rfl rfl rfl
theorem dX6_leastToHold_119 : dc cX6_leastToHold 119 121 (.iload 5) 2 := o_21 ob_X6_leastToHold rfl rfl rfl rfl
theorem dX6_leastToHold_121 : dc cX6_leastToHold 121 122 (.iconst 1) 1 := o_4 ob_X6_leastToHold rfl rfl rfl
theorem dX6_leastToHold_122 : dc cX6_leastToHold 122 125 (.if_icmp .ne 7) 3 := o_160 ob_X6_leastToHold rfl rfl rfl rfl
theorem dX6_leastToHold_125 : dc cX6_leastToHold 125 126 (.iconst (-1)) 1 := o_2 ob_X6_leastToHold rfl rfl rfl
theorem dX6_leastToHold_126 : dc cX6_leastToHold 126 129 (.goto 11) 3 := o_167 ob_X6_leastToHold rfl rfl rfl rfl
theorem dX6_leastToHold_129 : dc cX6_leastToHold 129 131 (.bipush 100) 2 := o_16 ob_X6_leastToHold rfl rfl rfl rfl
theorem dX6_leastToHold_131 : dc cX6_leastToHold 131 133 (.iload 4) 2 := o_21 ob_X6_leastToHold rfl rfl rfl rfl
theorem dX6_leastToHold_133 : dc cX6_leastToHold 133 134 .imul 1 := o_104 ob_X6_leastToHold rfl rfl rfl
theorem dX6_leastToHold_134 : dc cX6_leastToHold 134 136 (.iload 5) 2 := o_21 ob_X6_leastToHold rfl rfl rfl rfl
theorem dX6_leastToHold_136 : dc cX6_leastToHold 136 137 .iadd 1 := o_96 ob_X6_leastToHold rfl rfl rfl
theorem dX6_leastToHold_137 : dc cX6_leastToHold 137 138 .ireturn 1 := o_172 ob_X6_leastToHold rfl rfl rfl
def F_Pair_leastToHold_j119 (x4 : Int32) (x5 : Int32) (M : Mem) : Option (Int32 × Mem) :=
  if x5 = 1 then some (((-1), M)) else some (((100 * x4) + x5, M))
def F_Pair_leastToHold_j91 (x1 : Int32) (x2 : Int32) (x3 : Int32) (x5 : Int32) (x6 : Int32) (x7 : Int32) (x8 : Bool) (s0 : Int32) (M : Mem) : Option ((Int32 × Int32 × Int32 × Mem) ⊕ ((Int32 × Int32 × Mem))) :=
  if x8 = true then some (.inl ((s0, x6, x7 + 1, M))) else some (.inl ((s0, x5, x7 + 1, M)))
def F_Pair_leastToHold_j77 (x1 : Int32) (x2 : Int32) (x3 : Int32) (x4 : Int32) (x5 : Int32) (x6 : Int32) (x7 : Int32) (s0 : Bool) (M : Mem) : Option ((Int32 × Int32 × Int32 × Mem) ⊕ ((Int32 × Int32 × Mem))) :=
  if s0 = true then F_Pair_leastToHold_j91 x1 x2 x3 x5 x6 x7 s0 x7 M else F_Pair_leastToHold_j91 x1 x2 x3 x5 x6 x7 s0 x4 M
def F_Pair_leastToHold_b18 (x1 : Int32) (x2 : Int32) (x3 : Int32) (x6 : Int32) (z : Int32 × Int32 × Int32 × Mem) : Option ((Int32 × Int32 × Int32 × Mem) ⊕ ((Int32 × Int32 × Mem))) :=
  if x6 ≤ z.2.2.1 then some (.inr ((z.1, z.2.1, z.2.2.2))) else if (z.1 * x6) ≤ (z.2.2.1 * z.2.1) then some (.inl ((z.1, z.2.1, z.2.2.1 + 1, z.2.2.2))) else (F_Fraction_commonPart z.2.2.1.toInt64 x6.toInt64 z.2.2.2).bind fun r1 => if r1 = 1 then (F_Pair_look x1 x2 z.2.2.1.toInt64 x6.toInt64 z.2.2.2).bind fun r2 => (F_Pair_firstGain r2).bind fun r3 => if r3 = ((-1)) then F_Pair_leastToHold_j77 x1 x2 x3 z.1 z.2.1 x6 z.2.2.1 true r2 else F_Pair_leastToHold_j77 x1 x2 x3 z.1 z.2.1 x6 z.2.2.1 false r2 else some (.inl ((z.1, z.2.1, z.2.2.1 + 1, z.2.2.2)))
def F_Pair_leastToHold_l18 (x1 : Int32) (x2 : Int32) (x3 : Int32) (x4 : Int32) (x5 : Int32) (x6 : Int32) (x7 : Int32) (M : Mem) : Option ((Int32 × Int32 × Int32 × Mem) ⊕ ((Int32 × Int32 × Mem))) :=
  (iter (F_Pair_leastToHold_b18 x1 x2 x3 x6) FUEL (x4, x5, x7, M)).bind fun r => some (.inl ((r.1, r.2.1, x6 + 1, r.2.2)))
def F_Pair_leastToHold_b9 (x1 : Int32) (x2 : Int32) (x3 : Int32) (z : Int32 × Int32 × Int32 × Mem) : Option ((Int32 × Int32 × Int32 × Mem) ⊕ ((Int32 × Int32 × Mem))) :=
  if x3 < z.2.2.1 then some (.inr ((z.1, z.2.1, z.2.2.2))) else F_Pair_leastToHold_l18 x1 x2 x3 z.1 z.2.1 z.2.2.1 1 z.2.2.2
def F_Pair_leastToHold_l9 (x1 : Int32) (x2 : Int32) (x3 : Int32) (x4 : Int32) (x5 : Int32) (x6 : Int32) (M : Mem) : Option (Int32 × Mem) :=
  (iter (F_Pair_leastToHold_b9 x1 x2 x3) FUEL (x4, x5, x6, M)).bind fun r => F_Pair_leastToHold_j119 r.1 r.2.1 r.2.2
def F_Pair_leastToHold (x1 : Int32) (x2 : Int32) (x3 : Int32) (M : Mem) : Option (Int32 × Mem) :=
  F_Pair_leastToHold_l9 x1 x2 x3 1 1 2 M
set_option maxRecDepth 100000 in
set_option maxHeartbeats 4000000 in
theorem K_Pair_leastToHold (l : Launch) (g : GB) (htr : l.stackTraces = false) (x1 : Int32) (x2 : Int32) (x3 : Int32) (M : Mem) (rr : Int32) (MZ : Mem) (h : F_Pair_leastToHold x1 x2 x3 M = some (rr, MZ)) : CT l g yX6_leastToHold (.code yX6_leastToHold cX6_leastToHold 9 (some .int) :: wAll) { frames := 5, cells := 0, slots := 0, locals := 148 } [.ref (g.2.1 34), .int x1, .int x2, .int x3] M (.inl (some (.int rr))) MZ := by
  refine CT.of [(0, .ref (g.2.1 34)), (1, .int x1), (2, .int x2), (3, .int x3)] (by decide +kernel) (Nat.le_of_ble_eq_true rfl) rfl htr ?_
  intro p e s m args below meth c K hr ht
  skip
  obtain ⟨PHI, hPHI, h⟩ : ∃ PHI : Int32 × Mem → Prop, (∀ a, PHI a → a = (rr, MZ)) ∧ wpO (F_Pair_leastToHold x1 x2 x3 M) PHI := ⟨fun a => a = (rr, MZ), fun _ h => h, _, h, rfl⟩
  have J119 : ∀ (x4 : Int32) (x5 : Int32) (M : Mem), wpO (F_Pair_leastToHold_j119 x4 x5 M) PHI → GG p l e { frames := 5, cells := 0, slots := 0, locals := 148 } s m args below meth c g 9 (vx_MQ below (Qn g s.heap.size (.inl (some (.int rr))) MZ) (QX g s.heap.size (.inl (some (.int rr))) MZ) args s 0 0 (AS g s.heap.size)) 0 0 119 [(4, .int x4), (5, .int x5)] [] M := by
    intro x4 x5 M h
    unfold F_Pair_leastToHold_j119 at h
    refine G_iload 1 rfl K dX6_leastToHold_119 ?_
    refine G_iconst (v := 1) rfl K dX6_leastToHold_121 ?_
    refine G_icmp_ne (tgt := 129) K dX6_leastToHold_122 (by decide) (fun hc => ?_) (fun hc => ?_)
    · have h := wpO_f h hc
      refine G_bipush (v := 100) rfl K dX6_leastToHold_129 ?_
      refine G_iload 0 rfl K dX6_leastToHold_131 ?_
      refine G_imul K dX6_leastToHold_133 ?_
      refine G_iload 1 rfl K dX6_leastToHold_134 ?_
      refine G_iadd K dX6_leastToHold_136 ?_
      cases hPHI _ (wpO_some h)
      exact G_iret K hr rfl dX6_leastToHold_137 (Nat.le_of_ble_eq_true rfl) (Nat.le_of_ble_eq_true rfl) ⟨rfl, rfl⟩
    · have h := wpO_t h hc
      refine G_iconst (v := (-1)) rfl K dX6_leastToHold_125 ?_
      refine G_goto (tgt := 137) K dX6_leastToHold_126 (by decide) ?_
      cases hPHI _ (wpO_some h)
      exact G_iret K hr rfl dX6_leastToHold_137 (Nat.le_of_ble_eq_true rfl) (Nat.le_of_ble_eq_true rfl) ⟨rfl, rfl⟩
  have J9 : ∀ (x1 : Int32) (x2 : Int32) (x3 : Int32) (x4 : Int32) (x5 : Int32) (x6 : Int32) (M : Mem), wpO (F_Pair_leastToHold_l9 x1 x2 x3 x4 x5 x6 M) PHI → GG p l e { frames := 5, cells := 0, slots := 0, locals := 148 } s m args below meth c g 9 (vx_MQ below (Qn g s.heap.size (.inl (some (.int rr))) MZ) (QX g s.heap.size (.inl (some (.int rr))) MZ) args s 0 0 (AS g s.heap.size)) 0 0 9 [(0, .ref (g.2.1 34)), (1, .int x1), (2, .int x2), (3, .int x3), (4, .int x4), (5, .int x5), (6, .int x6)] [] M := by
    intro x1 x2 x3 x4 x5 x6 M h
    unfold F_Pair_leastToHold_l9 at h
    refine loop_C4 (G := fun (x4 : Int32) (x5 : Int32) (x6 : Int32) (M : Mem) => GG p l e { frames := 5, cells := 0, slots := 0, locals := 148 } s m args below meth c g 9 (vx_MQ below (Qn g s.heap.size (.inl (some (.int rr))) MZ) (QX g s.heap.size (.inl (some (.int rr))) MZ) args s 0 0 (AS g s.heap.size)) 0 0 9 [(0, .ref (g.2.1 34)), (1, .int x1), (2, .int x2), (3, .int x3), (4, .int x4), (5, .int x5), (6, .int x6)] [] M) (body := F_Pair_leastToHold_b9 x1 x2 x3) ?_ FUEL _ _ _ _ (wpO_bind h)
    intro P9 E9 X9
    have J18 : ∀ (x4 : Int32) (x5 : Int32) (x6 : Int32) (x7 : Int32) (M : Mem), wpO (F_Pair_leastToHold_l18 x1 x2 x3 x4 x5 x6 x7 M) P9 → GG p l e { frames := 5, cells := 0, slots := 0, locals := 148 } s m args below meth c g 9 (vx_MQ below (Qn g s.heap.size (.inl (some (.int rr))) MZ) (QX g s.heap.size (.inl (some (.int rr))) MZ) args s 0 0 (AS g s.heap.size)) 0 0 18 [(0, .ref (g.2.1 34)), (1, .int x1), (2, .int x2), (3, .int x3), (4, .int x4), (5, .int x5), (6, .int x6), (7, .int x7)] [] M := by
      intro x4 x5 x6 x7 M h
      unfold F_Pair_leastToHold_l18 at h
      refine loop_C4 (G := fun (x4 : Int32) (x5 : Int32) (x7 : Int32) (M : Mem) => GG p l e { frames := 5, cells := 0, slots := 0, locals := 148 } s m args below meth c g 9 (vx_MQ below (Qn g s.heap.size (.inl (some (.int rr))) MZ) (QX g s.heap.size (.inl (some (.int rr))) MZ) args s 0 0 (AS g s.heap.size)) 0 0 18 [(0, .ref (g.2.1 34)), (1, .int x1), (2, .int x2), (3, .int x3), (4, .int x4), (5, .int x5), (6, .int x6), (7, .int x7)] [] M) (body := F_Pair_leastToHold_b18 x1 x2 x3 x6) ?_ FUEL _ _ _ _ (wpO_bind h)
      intro P18 E18 X18
      have J91 : ∀ (x5 : Int32) (x7 : Int32) (x8 : Bool) (s0 : Int32) (M : Mem), wpO (F_Pair_leastToHold_j91 x1 x2 x3 x5 x6 x7 x8 s0 M) P18 → GG p l e { frames := 5, cells := 0, slots := 0, locals := 148 } s m args below meth c g 9 (vx_MQ below (Qn g s.heap.size (.inl (some (.int rr))) MZ) (QX g s.heap.size (.inl (some (.int rr))) MZ) args s 0 0 (AS g s.heap.size)) 0 0 91 [(0, .ref (g.2.1 34)), (1, .int x1), (2, .int x2), (3, .int x3), (5, .int x5), (6, .int x6), (7, .int x7), (8, .int ((b2i x8)))] [.int s0] M := by
        intro x5 x7 x8 s0 M h
        unfold F_Pair_leastToHold_j91 at h
        refine G_istore K dX6_leastToHold_91 (Nat.le_of_ble_eq_true rfl) rfl ?_
        refine G_iload 8 rfl K dX6_leastToHold_93 ?_
        refine G_ifb_eq (tgt := 103) K dX6_leastToHold_95 (by decide) (fun hc => ?_) (fun hc => ?_)
        · have h := wpO_bf h hc
          refine G_iload 5 rfl K dX6_leastToHold_103 ?_
          refine G_istore K dX6_leastToHold_105 (Nat.le_of_ble_eq_true rfl) rfl ?_
          refine G_iinc (v := x7 + 1) 7 rfl K dX6_leastToHold_107 rfl (Nat.le_of_ble_eq_true rfl) rfl ?_
          refine G_goto (tgt := 18) K dX6_leastToHold_110 (by decide) ?_
          exact G_lv (lv' := [(0, .ref (g.2.1 34)), (1, .int x1), (2, .int x2), (3, .int x3), (4, .int s0), (5, .int x5), (6, .int x6), (7, .int (x7 + 1))]) [3, 4, 5, 6, 2, 1, 7, 0] rfl (E18 s0 x5 (x7 + 1) M (wpO_some h))
        · have h := wpO_t h hc
          refine G_iload 6 rfl K dX6_leastToHold_98 ?_
          refine G_goto (tgt := 105) K dX6_leastToHold_100 (by decide) ?_
          refine G_istore K dX6_leastToHold_105 (Nat.le_of_ble_eq_true rfl) rfl ?_
          refine G_iinc (v := x7 + 1) 7 rfl K dX6_leastToHold_107 rfl (Nat.le_of_ble_eq_true rfl) rfl ?_
          refine G_goto (tgt := 18) K dX6_leastToHold_110 (by decide) ?_
          exact G_lv (lv' := [(0, .ref (g.2.1 34)), (1, .int x1), (2, .int x2), (3, .int x3), (4, .int s0), (5, .int x6), (6, .int x6), (7, .int (x7 + 1))]) [3, 4, 5, 6, 2, 1, 7, 0] rfl (E18 s0 x6 (x7 + 1) M (wpO_some h))
      have J77 : ∀ (x4 : Int32) (x5 : Int32) (x7 : Int32) (s0 : Bool) (M : Mem), wpO (F_Pair_leastToHold_j77 x1 x2 x3 x4 x5 x6 x7 s0 M) P18 → GG p l e { frames := 5, cells := 0, slots := 0, locals := 148 } s m args below meth c g 9 (vx_MQ below (Qn g s.heap.size (.inl (some (.int rr))) MZ) (QX g s.heap.size (.inl (some (.int rr))) MZ) args s 0 0 (AS g s.heap.size)) 0 0 77 [(0, .ref (g.2.1 34)), (1, .int x1), (2, .int x2), (3, .int x3), (4, .int x4), (5, .int x5), (6, .int x6), (7, .int x7)] [.int ((b2i s0))] M := by
        intro x4 x5 x7 s0 M h
        unfold F_Pair_leastToHold_j77 at h
        refine G_istore K dX6_leastToHold_77 (Nat.le_of_ble_eq_true rfl) rfl ?_
        refine G_iload 0 rfl K dX6_leastToHold_79 ?_
        refine G_ifb_eq (tgt := 89) K dX6_leastToHold_81 (by decide) (fun hc => ?_) (fun hc => ?_)
        · have h := wpO_bf h hc
          refine G_iload 5 rfl K dX6_leastToHold_89 ?_
          exact G_lv (lv' := [(0, .ref (g.2.1 34)), (1, .int x1), (2, .int x2), (3, .int x3), (5, .int x5), (6, .int x6), (7, .int x7), (8, .int ((b2i s0)))]) [1, 2, 3, 4, 6, 7, 8, 0] rfl (J91 x5 x7 s0 x4 M h)
        · have h := wpO_t h hc
          refine G_iload 8 rfl K dX6_leastToHold_84 ?_
          refine G_goto (tgt := 91) K dX6_leastToHold_86 (by decide) ?_
          exact G_lv (lv' := [(0, .ref (g.2.1 34)), (1, .int x1), (2, .int x2), (3, .int x3), (5, .int x5), (6, .int x6), (7, .int x7), (8, .int ((b2i s0)))]) [1, 2, 3, 4, 6, 7, 8, 0] rfl (J91 x5 x7 s0 x7 M h)
      intro z h
      unfold F_Pair_leastToHold_b18 at h
      refine G_iload 7 rfl K dX6_leastToHold_18 ?_
      refine G_iload 6 rfl K dX6_leastToHold_20 ?_
      refine G_icmp_ge (tgt := 113) K dX6_leastToHold_22 (by decide) (fun hc => ?_) (fun hc => ?_)
      · have h := wpO_t h hc
        have h := X18 _ (wpO_some h)
        try dsimp only at h
        refine G_iinc (v := x6 + 1) 6 rfl K dX6_leastToHold_113 rfl (Nat.le_of_ble_eq_true rfl) rfl ?_
        refine G_goto (tgt := 9) K dX6_leastToHold_116 (by decide) ?_
        exact G_lv (lv' := [(0, .ref (g.2.1 34)), (1, .int x1), (2, .int x2), (3, .int x3), (4, .int z.1), (5, .int z.2.1), (6, .int (x6 + 1))]) [1, 2, 3, 4, 5, 6, 0] rfl (E9 z.1 z.2.1 (x6 + 1) z.2.2.2 (wpO_some h))
      · have h := wpO_f h hc
        refine G_iload 7 rfl K dX6_leastToHold_25 ?_
        refine G_iload 5 rfl K dX6_leastToHold_27 ?_
        refine G_imul K dX6_leastToHold_29 ?_
        refine G_iload 4 rfl K dX6_leastToHold_30 ?_
        refine G_iload 6 rfl K dX6_leastToHold_32 ?_
        refine G_imul K dX6_leastToHold_34 ?_
        refine G_icmp_ge (tgt := 107) K dX6_leastToHold_35 (by decide) (fun hc => ?_) (fun hc => ?_)
        · have h := wpO_t h hc
          refine G_iinc (v := z.2.2.1 + 1) 7 rfl K dX6_leastToHold_107 rfl (Nat.le_of_ble_eq_true rfl) rfl ?_
          refine G_goto (tgt := 18) K dX6_leastToHold_110 (by decide) ?_
          exact G_lv (lv' := [(0, .ref (g.2.1 34)), (1, .int x1), (2, .int x2), (3, .int x3), (4, .int z.1), (5, .int z.2.1), (6, .int x6), (7, .int (z.2.2.1 + 1))]) [1, 2, 3, 4, 5, 6, 7, 0] rfl (E18 z.1 z.2.1 (z.2.2.1 + 1) z.2.2.2 (wpO_some h))
        · have h := wpO_f h hc
          refine G_iload 7 rfl K dX6_leastToHold_38 ?_
          refine G_i2l K dX6_leastToHold_40 ?_
          refine G_iload 6 rfl K dX6_leastToHold_41 ?_
          refine G_i2l K dX6_leastToHold_43 ?_
          obtain ⟨r1, e1, h⟩ := wpO_bind h
          refine G_callSl [.long z.2.2.1.toInt64, .long x6.toInt64] [] K dX6_leastToHold_44 wv_1178 yd_X5_commonPart (by decide) (by decide) rfl rfl (Nat.le_of_ble_eq_true rfl) (K_Fraction_commonPart l g htr z.2.2.1.toInt64 x6.toInt64 z.2.2.2 _ e1) ?_
          refine G_lconst (v := 1) rfl K dX6_leastToHold_47 ?_
          refine G_lcmp_ne (tgt := 107) K dX6_leastToHold_48 dX6_leastToHold_49 (by decide) (fun hc => ?_) (fun hc => ?_)
          · have h := wpO_f h hc
            refine G_iinc (v := z.2.2.1 + 1) 7 rfl K dX6_leastToHold_107 rfl (Nat.le_of_ble_eq_true rfl) rfl ?_
            refine G_goto (tgt := 18) K dX6_leastToHold_110 (by decide) ?_
            exact G_lv (lv' := [(0, .ref (g.2.1 34)), (1, .int x1), (2, .int x2), (3, .int x3), (4, .int z.1), (5, .int z.2.1), (6, .int x6), (7, .int (z.2.2.1 + 1))]) [1, 2, 3, 4, 5, 6, 7, 0] rfl (E18 z.1 z.2.1 (z.2.2.1 + 1) z.2.2.2 (wpO_some h))
          · have h := wpO_t h hc
            refine G_aload_n rfl 0 rfl K dX6_leastToHold_52 ?_
            refine G_iload_n rfl 1 rfl K dX6_leastToHold_53 ?_
            refine G_iload_n rfl 2 rfl K dX6_leastToHold_54 ?_
            refine G_iload 7 rfl K dX6_leastToHold_55 ?_
            refine G_i2l K dX6_leastToHold_57 ?_
            refine G_iload 6 rfl K dX6_leastToHold_58 ?_
            refine G_i2l K dX6_leastToHold_60 ?_
            obtain ⟨r2, e2, h⟩ := wpO_bind h
            refine G_callVv (ci := 6) [.int x1, .int x2, .long z.2.2.1.toInt64, .long x6.toInt64] [] K dX6_leastToHold_61 wv_490 yd_X6_look (Nat.le_of_ble_eq_true rfl) (sh_34 _ _) rfl (by decide) (by decide) rfl rfl (Nat.le_of_ble_eq_true rfl) (K_Pair_look l g htr x1 x2 z.2.2.1.toInt64 x6.toInt64 z.2.2.2 _ e2) ?_
            refine G_aload_n rfl 0 rfl K dX6_leastToHold_64 ?_
            obtain ⟨r3, e3, h⟩ := wpO_bind h
            refine G_callVi (ci := 6) [] [] K dX6_leastToHold_65 wv_544 yd_X6_firstGain (Nat.le_of_ble_eq_true rfl) (sh_34 _ _) rfl (by decide) (by decide) rfl rfl (Nat.le_of_ble_eq_true rfl) (K_Pair_firstGain l g htr  r2 _ e3) ?_
            refine G_iconst (v := (-1)) rfl K dX6_leastToHold_68 ?_
            refine G_icmp_ne (tgt := 76) K dX6_leastToHold_69 (by decide) (fun hc => ?_) (fun hc => ?_)
            · have h := wpO_f h hc
              refine G_iconst (v := 0) rfl K dX6_leastToHold_76 ?_
              exact J77 z.1 z.2.1 z.2.2.1 false r2 h
            · have h := wpO_t h hc
              refine G_iconst (v := 1) rfl K dX6_leastToHold_72 ?_
              refine G_goto (tgt := 77) K dX6_leastToHold_73 (by decide) ?_
              exact J77 z.1 z.2.1 z.2.2.1 true r2 h
    intro z h
    unfold F_Pair_leastToHold_b9 at h
    refine G_iload 6 rfl K dX6_leastToHold_9 ?_
    refine G_iload_n rfl 3 rfl K dX6_leastToHold_11 ?_
    refine G_icmp_gt (tgt := 119) K dX6_leastToHold_12 (by decide) (fun hc => ?_) (fun hc => ?_)
    · have h := wpO_t h hc
      have h := X9 _ (wpO_some h)
      try dsimp only at h
      exact G_lv (lv' := [(4, .int z.1), (5, .int z.2.1)]) [4, 5] rfl (J119 z.1 z.2.1 z.2.2.2 h)
    · have h := wpO_f h hc
      refine G_iconst (v := 1) rfl K dX6_leastToHold_15 ?_
      refine G_istore K dX6_leastToHold_16 (Nat.le_of_ble_eq_true rfl) rfl ?_
      exact G_lv (lv' := [(0, .ref (g.2.1 34)), (1, .int x1), (2, .int x2), (3, .int x3), (4, .int z.1), (5, .int z.2.1), (6, .int z.2.2.1), (7, .int 1)]) [1, 2, 3, 4, 5, 6, 7, 0] rfl (J18 z.1 z.2.1 z.2.2.1 1 z.2.2.2 h)
  unfold F_Pair_leastToHold at h
  refine G_iconst (v := 1) rfl K dX6_leastToHold_0 ?_
  refine G_istore K dX6_leastToHold_1 (Nat.le_of_ble_eq_true rfl) rfl ?_
  refine G_iconst (v := 1) rfl K dX6_leastToHold_3 ?_
  refine G_istore K dX6_leastToHold_4 (Nat.le_of_ble_eq_true rfl) rfl ?_
  refine G_iconst (v := 2) rfl K dX6_leastToHold_6 ?_
  refine G_istore K dX6_leastToHold_7 (Nat.le_of_ble_eq_true rfl) rfl ?_
  exact G_lv (lv' := [(0, .ref (g.2.1 34)), (1, .int x1), (2, .int x2), (3, .int x3), (4, .int 1), (5, .int 1), (6, .int 2)]) [3, 4, 5, 6, 2, 1, 0] rfl (J9 x1 x2 x3 1 1 2 M h)
theorem wv_471 : wdV "KeptWell$Pair" 115 yX10_isBarred cX10_isBarred 4 (some .boolean) := ⟨wd_471, wd_472, wd_473, wd_2, wd_474⟩
theorem wv_562 : wdV "KeptWell$Pair" 128 yX7_at cX7_at 2 (some .long) := ⟨wd_562, wd_528, wd_529, wd_3, wd_530⟩
theorem wv_563 : wdS "KeptWell$Pair" 135 yX5_order cX5_order 26 (some .int) := ⟨wd_563, wd_557, wd_13, wd_558⟩
def on_X6_bestTogether : Nat := 0xac1b48ffa701068464ffa701078404370a164108163c600715680615081013009e8700b80416200a16081610009f021b0a378000b6038400b40c00b42a0837618000b6047d00b40c00b42a8000b6037d00b40c00b42a4b00a706009f026c00b62a6800b6857a00b42b00b42a857700b42b00b42a071506152a6e00a70600997300b607152b00b42a7d009a7300b606152b00b42a8f00a2081007159600a27000b42b00b42a0715073603ab00a208100615b200a27000b42b00b42a061506360304370a41093c02
theorem ob_X6_bestTogether : OKB cX6_bestTogether on_X6_bestTogether 199 := ⟨by decide +kernel, by decide +kernel⟩
theorem dX6_bestTogether_0 : dc cX6_bestTogether 0 1 (.iconst (-1)) 1 := o_2 ob_X6_bestTogether rfl rfl rfl
theorem dX6_bestTogether_1 : dc cX6_bestTogether 1 2 (.istore_n 1) 1 := o_60 ob_X6_bestTogether rfl rfl rfl
theorem dX6_bestTogether_2 : dc cX6_bestTogether 2 3 (.lconst 0) 1 := o_9 ob_X6_bestTogether rfl rfl rfl
theorem dX6_bestTogether_3 : dc cX6_bestTogether 3 4 (.lstore_n 2) 1 := o_65 ob_X6_bestTogether rfl rfl rfl
theorem dX6_bestTogether_4 : dc cX6_bestTogether 4 5 (.lconst 1) 1 := o_10 ob_X6_bestTogether rfl rfl rfl
theorem dX6_bestTogether_5 : dc cX6_bestTogether 5 7 (.lstore 4) 2 := o_55 ob_X6_bestTogether rfl rfl rfl rfl
theorem dX6_bestTogether_7 : dc cX6_bestTogether 7 8 (.iconst 0) 1 := o_3 ob_X6_bestTogether rfl rfl rfl
theorem dX6_bestTogether_8 : dc cX6_bestTogether 8 10 (.istore 6) 2 := o_54 ob_X6_bestTogether rfl rfl rfl rfl
theorem dX6_bestTogether_10 : dc cX6_bestTogether 10 12 (.iload 6) 2 := o_21 ob_X6_bestTogether rfl rfl rfl rfl
theorem dX6_bestTogether_12 : dc cX6_bestTogether 12 13 (.aload_n 0) 1 := o_42 ob_X6_bestTogether rfl rfl rfl
theorem dX6_bestTogether_13 : dc cX6_bestTogether 13 16 (.getfield 43) 3 := o_180 ob_X6_bestTogether rfl rfl rfl rfl
theorem dX6_bestTogether_16 : dc cX6_bestTogether 16 19 (.getfield 112) 3 := o_180 ob_X6_bestTogether rfl rfl rfl rfl
theorem dX6_bestTogether_19 : dc cX6_bestTogether 19 22 (.if_icmp .ge 178) 3 := o_162 ob_X6_bestTogether rfl rfl rfl rfl
theorem dX6_bestTogether_22 : dc cX6_bestTogether 22 24 (.iload 6) 2 := o_21 ob_X6_bestTogether rfl rfl rfl rfl
theorem dX6_bestTogether_24 : dc cX6_bestTogether 24 26 (.bipush 8) 2 := o_16 ob_X6_bestTogether rfl rfl rfl rfl
theorem dX6_bestTogether_26 : dc cX6_bestTogether 26 29 (.if_icmp .ge 171) 3 := o_162 ob_X6_bestTogether rfl rfl rfl rfl
theorem dX6_bestTogether_29 : dc cX6_bestTogether 29 30 (.iconst 0) 1 := o_3 ob_X6_bestTogether rfl rfl rfl
theorem dX6_bestTogether_30 : dc cX6_bestTogether 30 32 (.istore 7) 2 := o_54 ob_X6_bestTogether rfl rfl rfl rfl
theorem dX6_bestTogether_32 : dc cX6_bestTogether 32 34 (.iload 7) 2 := o_21 ob_X6_bestTogether rfl rfl rfl rfl
theorem dX6_bestTogether_34 : dc cX6_bestTogether 34 35 (.aload_n 0) 1 := o_42 ob_X6_bestTogether rfl rfl rfl
theorem dX6_bestTogether_35 : dc cX6_bestTogether 35 38 (.getfield 43) 3 := o_180 ob_X6_bestTogether rfl rfl rfl rfl
theorem dX6_bestTogether_38 : dc cX6_bestTogether 38 41 (.getfield 112) 3 := o_180 ob_X6_bestTogether rfl rfl rfl rfl
theorem dX6_bestTogether_41 : dc cX6_bestTogether 41 44 (.if_icmp .ge 150) 3 := o_162 ob_X6_bestTogether rfl rfl rfl rfl
theorem dX6_bestTogether_44 : dc cX6_bestTogether 44 46 (.iload 7) 2 := o_21 ob_X6_bestTogether rfl rfl rfl rfl
theorem dX6_bestTogether_46 : dc cX6_bestTogether 46 48 (.bipush 8) 2 := o_16 ob_X6_bestTogether rfl rfl rfl rfl
theorem dX6_bestTogether_48 : dc cX6_bestTogether 48 51 (.if_icmp .ge 143) 3 := o_162 ob_X6_bestTogether rfl rfl rfl rfl
theorem dX6_bestTogether_51 : dc cX6_bestTogether 51 52 (.aload_n 0) 1 := o_42 ob_X6_bestTogether rfl rfl rfl
theorem dX6_bestTogether_52 : dc cX6_bestTogether 52 55 (.getfield 43) 3 := o_180 ob_X6_bestTogether rfl rfl rfl rfl
theorem dX6_bestTogether_55 : dc cX6_bestTogether 55 57 (.iload 6) 2 := o_21 ob_X6_bestTogether rfl rfl rfl rfl
theorem dX6_bestTogether_57 : dc cX6_bestTogether 57 60 (.invokevirtual 115) 3 := o_182 ob_X6_bestTogether rfl rfl rfl rfl
theorem dX6_bestTogether_60 : dc cX6_bestTogether 60 63 (.ifCond .ne 125) 3 := o_154 ob_X6_bestTogether rfl rfl rfl rfl
theorem dX6_bestTogether_63 : dc cX6_bestTogether 63 64 (.aload_n 0) 1 := o_42 ob_X6_bestTogether rfl rfl rfl
theorem dX6_bestTogether_64 : dc cX6_bestTogether 64 67 (.getfield 43) 3 := o_180 ob_X6_bestTogether rfl rfl rfl rfl
theorem dX6_bestTogether_67 : dc cX6_bestTogether 67 69 (.iload 7) 2 := o_21 ob_X6_bestTogether rfl rfl rfl rfl
theorem dX6_bestTogether_69 : dc cX6_bestTogether 69 72 (.invokevirtual 115) 3 := o_182 ob_X6_bestTogether rfl rfl rfl rfl
theorem dX6_bestTogether_72 : dc cX6_bestTogether 72 75 (.ifCond .eq 6) 3 := o_153 ob_X6_bestTogether rfl rfl rfl rfl
theorem dX6_bestTogether_75 : dc cX6_bestTogether 75 78 (.goto 110) 3 := o_167 ob_X6_bestTogether rfl rfl rfl rfl
theorem dX6_bestTogether_78 : dc cX6_bestTogether 78 79 (.aload_n 0) 1 := o_42 ob_X6_bestTogether rfl rfl rfl
theorem dX6_bestTogether_79 : dc cX6_bestTogether 79 81 (.iload 6) 2 := o_21 ob_X6_bestTogether rfl rfl rfl rfl
theorem dX6_bestTogether_81 : dc cX6_bestTogether 81 83 (.iload 7) 2 := o_21 ob_X6_bestTogether rfl rfl rfl rfl
theorem dX6_bestTogether_83 : dc cX6_bestTogether 83 84 (.aload_n 0) 1 := o_42 ob_X6_bestTogether rfl rfl rfl
theorem dX6_bestTogether_84 : dc cX6_bestTogether 84 87 (.getfield 43) 3 := o_180 ob_X6_bestTogether rfl rfl rfl rfl
theorem dX6_bestTogether_87 : dc cX6_bestTogether 87 90 (.getfield 119) 3 := o_180 ob_X6_bestTogether rfl rfl rfl rfl
theorem dX6_bestTogether_90 : dc cX6_bestTogether 90 91 .i2l 1 := o_133 ob_X6_bestTogether rfl rfl rfl
theorem dX6_bestTogether_91 : dc cX6_bestTogether 91 92 (.aload_n 0) 1 := o_42 ob_X6_bestTogether rfl rfl rfl
theorem dX6_bestTogether_92 : dc cX6_bestTogether 92 95 (.getfield 43) 3 := o_180 ob_X6_bestTogether rfl rfl rfl rfl
theorem dX6_bestTogether_95 : dc cX6_bestTogether 95 98 (.getfield 122) 3 := o_180 ob_X6_bestTogether rfl rfl rfl rfl
theorem dX6_bestTogether_98 : dc cX6_bestTogether 98 99 .i2l 1 := o_133 ob_X6_bestTogether rfl rfl rfl
theorem dX6_bestTogether_99 : dc cX6_bestTogether 99 102 (.invokevirtual 104) 3 := o_182 ob_X6_bestTogether rfl rfl rfl rfl
theorem dX6_bestTogether_102 : dc cX6_bestTogether 102 103 (.aload_n 0) 1 := o_42 ob_X6_bestTogether rfl rfl rfl
theorem dX6_bestTogether_103 : dc cX6_bestTogether 103 106 (.invokevirtual 108) 3 := o_182 ob_X6_bestTogether rfl rfl rfl rfl
theorem dX6_bestTogether_106 : dc cX6_bestTogether 106 107 (.iconst (-1)) 1 := o_2 ob_X6_bestTogether rfl rfl rfl
theorem dX6_bestTogether_107 : dc cX6_bestTogether 107 110 (.if_icmp .eq 6) 3 := o_159 ob_X6_bestTogether rfl rfl rfl rfl
theorem dX6_bestTogether_110 : dc cX6_bestTogether 110 113 (.goto 75) 3 := o_167 ob_X6_bestTogether rfl rfl rfl rfl
theorem dX6_bestTogether_113 : dc cX6_bestTogether 113 114 (.aload_n 0) 1 := o_42 ob_X6_bestTogether rfl rfl rfl
theorem dX6_bestTogether_114 : dc cX6_bestTogether 114 117 (.getfield 12) 3 := o_180 ob_X6_bestTogether rfl rfl rfl rfl
theorem dX6_bestTogether_117 : dc cX6_bestTogether 117 120 (.getfield 125) 3 := o_180 ob_X6_bestTogether rfl rfl rfl rfl
theorem dX6_bestTogether_120 : dc cX6_bestTogether 120 121 (.iconst 0) 1 := o_3 ob_X6_bestTogether rfl rfl rfl
theorem dX6_bestTogether_121 : dc cX6_bestTogether 121 124 (.invokevirtual 128) 3 := o_182 ob_X6_bestTogether rfl rfl rfl rfl
theorem dX6_bestTogether_124 : dc cX6_bestTogether 124 125 (.aload_n 0) 1 := o_42 ob_X6_bestTogether rfl rfl rfl
theorem dX6_bestTogether_125 : dc cX6_bestTogether 125 128 (.getfield 12) 3 := o_180 ob_X6_bestTogether rfl rfl rfl rfl
theorem dX6_bestTogether_128 : dc cX6_bestTogether 128 131 (.getfield 125) 3 := o_180 ob_X6_bestTogether rfl rfl rfl rfl
theorem dX6_bestTogether_131 : dc cX6_bestTogether 131 132 (.iconst 1) 1 := o_4 ob_X6_bestTogether rfl rfl rfl
theorem dX6_bestTogether_132 : dc cX6_bestTogether 132 135 (.invokevirtual 128) 3 := o_182 ob_X6_bestTogether rfl rfl rfl rfl
theorem dX6_bestTogether_135 : dc cX6_bestTogether 135 136 .ladd 1 := o_97 ob_X6_bestTogether rfl rfl rfl
theorem dX6_bestTogether_136 : dc cX6_bestTogether 136 138 (.lstore 8) 2 := o_55 ob_X6_bestTogether rfl rfl rfl rfl
theorem dX6_bestTogether_138 : dc cX6_bestTogether 138 139 (.aload_n 0) 1 := o_42 ob_X6_bestTogether rfl rfl rfl
theorem dX6_bestTogether_139 : dc cX6_bestTogether 139 142 (.getfield 12) 3 := o_180 ob_X6_bestTogether rfl rfl rfl rfl
theorem dX6_bestTogether_142 : dc cX6_bestTogether 142 145 (.getfield 132) 3 := o_180 ob_X6_bestTogether rfl rfl rfl rfl
theorem dX6_bestTogether_145 : dc cX6_bestTogether 145 146 (.iconst 0) 1 := o_3 ob_X6_bestTogether rfl rfl rfl
theorem dX6_bestTogether_146 : dc cX6_bestTogether 146 149 (.invokevirtual 128) 3 := o_182 ob_X6_bestTogether rfl rfl rfl rfl
theorem dX6_bestTogether_149 : dc cX6_bestTogether 149 151 (.lstore 10) 2 := o_55 ob_X6_bestTogether rfl rfl rfl rfl
theorem dX6_bestTogether_151 : dc cX6_bestTogether 151 152 (.iload_n 1) 1 := o_27 ob_X6_bestTogether rfl rfl rfl
theorem dX6_bestTogether_152 : dc cX6_bestTogether 152 153 (.iconst (-1)) 1 := o_2 ob_X6_bestTogether rfl rfl rfl
theorem dX6_bestTogether_153 : dc cX6_bestTogether 153 156 (.if_icmp .eq 16) 3 := o_159 ob_X6_bestTogether rfl rfl rfl rfl
theorem dX6_bestTogether_156 : dc cX6_bestTogether 156 158 (.lload 8) 2 := o_22 ob_X6_bestTogether rfl rfl rfl rfl
theorem dX6_bestTogether_158 : dc cX6_bestTogether 158 160 (.lload 10) 2 := o_22 ob_X6_bestTogether rfl rfl rfl rfl
theorem dX6_bestTogether_160 : dc cX6_bestTogether 160 161 (.lload_n 2) 1 := o_32 ob_X6_bestTogether rfl rfl rfl
theorem dX6_bestTogether_161 : dc cX6_bestTogether 161 163 (.lload 4) 2 := o_22 ob_X6_bestTogether rfl rfl rfl rfl
theorem dX6_bestTogether_163 : dc cX6_bestTogether 163 166 (.invokestatic 135) 3 := o_184 ob_X6_bestTogether rfl rfl rfl rfl
theorem dX6_bestTogether_166 : dc cX6_bestTogether 166 169 (.ifCond .le 19) 3 := o_158 ob_X6_bestTogether rfl rfl rfl rfl
theorem dX6_bestTogether_169 : dc cX6_bestTogether 169 171 (.bipush 8) 2 := o_16 ob_X6_bestTogether rfl rfl rfl rfl
theorem dX6_bestTogether_171 : dc cX6_bestTogether 171 173 (.iload 6) 2 := o_21 ob_X6_bestTogether rfl rfl rfl rfl
theorem dX6_bestTogether_173 : dc cX6_bestTogether 173 174 .imul 1 := o_104 ob_X6_bestTogether rfl rfl rfl
theorem dX6_bestTogether_174 : dc cX6_bestTogether 174 176 (.iload 7) 2 := o_21 ob_X6_bestTogether rfl rfl rfl rfl
theorem dX6_bestTogether_176 : dc cX6_bestTogether 176 177 .iadd 1 := o_96 ob_X6_bestTogether rfl rfl rfl
theorem dX6_bestTogether_177 : dc cX6_bestTogether 177 178 (.istore_n 1) 1 := o_60 ob_X6_bestTogether rfl rfl rfl
theorem dX6_bestTogether_178 : dc cX6_bestTogether 178 180 (.lload 8) 2 := o_22 ob_X6_bestTogether rfl rfl rfl rfl
theorem dX6_bestTogether_180 : dc cX6_bestTogether 180 181 (.lstore_n 2) 1 := o_65 ob_X6_bestTogether rfl rfl rfl
theorem dX6_bestTogether_181 : dc cX6_bestTogether 181 183 (.lload 10) 2 := o_22 ob_X6_bestTogether rfl rfl rfl rfl
theorem dX6_bestTogether_183 : dc cX6_bestTogether 183 185 (.lstore 4) 2 := o_55 ob_X6_bestTogether rfl rfl rfl rfl
theorem dX6_bestTogether_185 : dc cX6_bestTogether 185 188 (.iinc 7 1) 3 := o_132 ob_X6_bestTogether rfl rfl rfl rfl rfl
theorem dX6_bestTogether_188 : dc cX6_bestTogether 188 191 (.goto (-156)) 3 := o_167 ob_X6_bestTogether rfl rfl rfl rfl
theorem dX6_bestTogether_191 : dc cX6_bestTogether 191 194 (.iinc 6 1) 3 := o_132 ob_X6_bestTogether rfl rfl rfl rfl rfl
theorem dX6_bestTogether_194 : dc cX6_bestTogether 194 197 (.goto (-184)) 3 := o_167 ob_X6_bestTogether rfl rfl rfl rfl
theorem dX6_bestTogether_197 : dc cX6_bestTogether 197 198 (.iload_n 1) 1 := o_27 ob_X6_bestTogether rfl rfl rfl
theorem dX6_bestTogether_198 : dc cX6_bestTogether 198 199 .ireturn 1 := o_172 ob_X6_bestTogether rfl rfl rfl
def F_Pair_bestTogether_j169 (x6 : Int32) (x7 : Int32) (x8 : Int64) (x10 : Int64) (M : Mem) : Option ((Int32 × Int64 × Int64 × Int32 × Mem) ⊕ ((Int32 × Int64 × Int64 × Mem))) :=
  some (.inl (((8 * x6) + x7, x8, x10, x7 + 1, M)))
def F_Pair_bestTogether_b32 (x6 : Int32) (z : Int32 × Int64 × Int64 × Int32 × Mem) : Option ((Int32 × Int64 × Int64 × Int32 × Mem) ⊕ ((Int32 × Int64 × Int64 × Mem))) :=
  if (z.2.2.2.2.1 1 6) ≤ z.2.2.2.1 then some (.inr ((z.1, z.2.1, z.2.2.1, z.2.2.2.2))) else if 8 ≤ z.2.2.2.1 then some (.inr ((z.1, z.2.1, z.2.2.1, z.2.2.2.2))) else (F_Well_isBarred x6 z.2.2.2.2).bind fun r1 => if r1 = true then some (.inl ((z.1, z.2.1, z.2.2.1, z.2.2.2.1 + 1, z.2.2.2.2))) else (F_Well_isBarred z.2.2.2.1 z.2.2.2.2).bind fun r2 => if r2 = true then some (.inl ((z.1, z.2.1, z.2.2.1, z.2.2.2.1 + 1, z.2.2.2.2))) else (F_Pair_look x6 z.2.2.2.1 ((z.2.2.2.2.1 1 1).toInt64) ((z.2.2.2.2.1 1 2).toInt64) z.2.2.2.2).bind fun r3 => (F_Pair_firstGain r3).bind fun r4 => if r4 = ((-1)) then (F_Row_at 41 18 0 r3).bind fun r5 => (F_Row_at 41 18 1 r3).bind fun r6 => (F_Row_at 43 9 0 r3).bind fun r7 => if z.1 = ((-1)) then F_Pair_bestTogether_j169 x6 z.2.2.2.1 (r5 + r6) r7 r3 else (F_Fraction_order (r5 + r6) r7 z.2.1 z.2.2.1 r3).bind fun r8 => if r8 ≤ 0 then some (.inl ((z.1, z.2.1, z.2.2.1, z.2.2.2.1 + 1, r3))) else F_Pair_bestTogether_j169 x6 z.2.2.2.1 (r5 + r6) r7 r3 else some (.inl ((z.1, z.2.1, z.2.2.1, z.2.2.2.1 + 1, r3)))
def F_Pair_bestTogether_l32 (x1 : Int32) (x2 : Int64) (x4 : Int64) (x6 : Int32) (x7 : Int32) (M : Mem) : Option ((Int32 × Int64 × Int64 × Int32 × Mem) ⊕ ((Int32 × Mem))) :=
  (iter (F_Pair_bestTogether_b32 x6) FUEL (x1, x2, x4, x7, M)).bind fun r => some (.inl ((r.1, r.2.1, r.2.2.1, x6 + 1, r.2.2.2)))
def F_Pair_bestTogether_b10 (z : Int32 × Int64 × Int64 × Int32 × Mem) : Option ((Int32 × Int64 × Int64 × Int32 × Mem) ⊕ ((Int32 × Mem))) :=
  if (z.2.2.2.2.1 1 6) ≤ z.2.2.2.1 then some (.inr ((z.1, z.2.2.2.2))) else if 8 ≤ z.2.2.2.1 then some (.inr ((z.1, z.2.2.2.2))) else F_Pair_bestTogether_l32 z.1 z.2.1 z.2.2.1 z.2.2.2.1 0 z.2.2.2.2
def F_Pair_bestTogether_l10 (x1 : Int32) (x2 : Int64) (x4 : Int64) (x6 : Int32) (M : Mem) : Option (Int32 × Mem) :=
  (iter (F_Pair_bestTogether_b10) FUEL (x1, x2, x4, x6, M)).bind fun r => some ((r.1, r.2))
def F_Pair_bestTogether (M : Mem) : Option (Int32 × Mem) :=
  F_Pair_bestTogether_l10 ((-1)) 0 1 0 M
set_option maxRecDepth 100000 in
set_option maxHeartbeats 4000000 in
theorem K_Pair_bestTogether (l : Launch) (g : GB) (htr : l.stackTraces = false) (M : Mem) (rr : Int32) (MZ : Mem) (h : F_Pair_bestTogether M = some (rr, MZ)) : CT l g yX6_bestTogether (.code yX6_bestTogether cX6_bestTogether 12 (some .int) :: wAll) { frames := 5, cells := 0, slots := 0, locals := 148 } [.ref (g.2.1 34)] M (.inl (some (.int rr))) MZ := by
  refine CT.of [(0, .ref (g.2.1 34))] (by decide +kernel) (Nat.le_of_ble_eq_true rfl) rfl htr ?_
  intro p e s m args below meth c K hr ht
  skip
  obtain ⟨PHI, hPHI, h⟩ : ∃ PHI : Int32 × Mem → Prop, (∀ a, PHI a → a = (rr, MZ)) ∧ wpO (F_Pair_bestTogether M) PHI := ⟨fun a => a = (rr, MZ), fun _ h => h, _, h, rfl⟩
  have J10 : ∀ (x1 : Int32) (x2 : Int64) (x4 : Int64) (x6 : Int32) (M : Mem), wpO (F_Pair_bestTogether_l10 x1 x2 x4 x6 M) PHI → GG p l e { frames := 5, cells := 0, slots := 0, locals := 148 } s m args below meth c g 12 (vx_MQ below (Qn g s.heap.size (.inl (some (.int rr))) MZ) (QX g s.heap.size (.inl (some (.int rr))) MZ) args s 0 0 (AS g s.heap.size)) 0 0 10 [(0, .ref (g.2.1 34)), (1, .int x1), (2, .long x2), (4, .long x4), (6, .int x6)] [] M := by
    intro x1 x2 x4 x6 M h
    unfold F_Pair_bestTogether_l10 at h
    refine loop_C5 (G := fun (x1 : Int32) (x2 : Int64) (x4 : Int64) (x6 : Int32) (M : Mem) => GG p l e { frames := 5, cells := 0, slots := 0, locals := 148 } s m args below meth c g 12 (vx_MQ below (Qn g s.heap.size (.inl (some (.int rr))) MZ) (QX g s.heap.size (.inl (some (.int rr))) MZ) args s 0 0 (AS g s.heap.size)) 0 0 10 [(0, .ref (g.2.1 34)), (1, .int x1), (2, .long x2), (4, .long x4), (6, .int x6)] [] M) (body := F_Pair_bestTogether_b10) ?_ FUEL _ _ _ _ _ (wpO_bind h)
    intro P10 E10 X10
    have J32 : ∀ (x1 : Int32) (x2 : Int64) (x4 : Int64) (x6 : Int32) (x7 : Int32) (M : Mem), wpO (F_Pair_bestTogether_l32 x1 x2 x4 x6 x7 M) P10 → GG p l e { frames := 5, cells := 0, slots := 0, locals := 148 } s m args below meth c g 12 (vx_MQ below (Qn g s.heap.size (.inl (some (.int rr))) MZ) (QX g s.heap.size (.inl (some (.int rr))) MZ) args s 0 0 (AS g s.heap.size)) 0 0 32 [(0, .ref (g.2.1 34)), (1, .int x1), (2, .long x2), (4, .long x4), (6, .int x6), (7, .int x7)] [] M := by
      intro x1 x2 x4 x6 x7 M h
      unfold F_Pair_bestTogether_l32 at h
      refine loop_C5 (G := fun (x1 : Int32) (x2 : Int64) (x4 : Int64) (x7 : Int32) (M : Mem) => GG p l e { frames := 5, cells := 0, slots := 0, locals := 148 } s m args below meth c g 12 (vx_MQ below (Qn g s.heap.size (.inl (some (.int rr))) MZ) (QX g s.heap.size (.inl (some (.int rr))) MZ) args s 0 0 (AS g s.heap.size)) 0 0 32 [(0, .ref (g.2.1 34)), (1, .int x1), (2, .long x2), (4, .long x4), (6, .int x6), (7, .int x7)] [] M) (body := F_Pair_bestTogether_b32 x6) ?_ FUEL _ _ _ _ _ (wpO_bind h)
      intro P32 E32 X32
      have J169 : ∀ (x7 : Int32) (x8 : Int64) (x10 : Int64) (M : Mem), wpO (F_Pair_bestTogether_j169 x6 x7 x8 x10 M) P32 → GG p l e { frames := 5, cells := 0, slots := 0, locals := 148 } s m args below meth c g 12 (vx_MQ below (Qn g s.heap.size (.inl (some (.int rr))) MZ) (QX g s.heap.size (.inl (some (.int rr))) MZ) args s 0 0 (AS g s.heap.size)) 0 0 169 [(0, .ref (g.2.1 34)), (6, .int x6), (7, .int x7), (8, .long x8), (10, .long x10)] [] M := by
        intro x7 x8 x10 M h
        unfold F_Pair_bestTogether_j169 at h
        refine G_bipush (v := 8) rfl K dX6_bestTogether_169 ?_
        refine G_iload 1 rfl K dX6_bestTogether_171 ?_
        refine G_imul K dX6_bestTogether_173 ?_
        refine G_iload 2 rfl K dX6_bestTogether_174 ?_
        refine G_iadd K dX6_bestTogether_176 ?_
        refine G_istore_n rfl K dX6_bestTogether_177 (Nat.le_of_ble_eq_true rfl) rfl ?_
        refine G_lload 4 rfl K dX6_bestTogether_178 ?_
        refine G_lstore_n rfl K dX6_bestTogether_180 (Nat.le_of_ble_eq_true rfl) rfl ?_
        refine G_lload 6 rfl K dX6_bestTogether_181 ?_
        refine G_lstore K dX6_bestTogether_183 (Nat.le_of_ble_eq_true rfl) rfl ?_
        refine G_iinc (v := x7 + 1) 5 rfl K dX6_bestTogether_185 rfl (Nat.le_of_ble_eq_true rfl) rfl ?_
        refine G_goto (tgt := 32) K dX6_bestTogether_188 (by decide) ?_
        exact G_lv (lv' := [(0, .ref (g.2.1 34)), (1, .int ((8 * x6) + x7)), (2, .long x8), (4, .long x10), (6, .int x6), (7, .int (x7 + 1))]) [4, 3, 2, 1, 5, 0] rfl (E32 ((8 * x6) + x7) x8 x10 (x7 + 1) M (wpO_some h))
      intro z h
      unfold F_Pair_bestTogether_b32 at h
      refine G_iload 5 rfl K dX6_bestTogether_32 ?_
      refine G_aload_n rfl 0 rfl K dX6_bestTogether_34 ?_
      refine G_get (ci := 6) (k := 0) K rfl in_X6 wd_220 rfl dX6_bestTogether_35 (Nat.le_of_ble_eq_true rfl) (sh_34 _ _) (Nat.le_of_ble_eq_true rfl) rfl ?_
      refine G_get (ci := 10) (k := 6) K rfl in_X10 wd_87 rfl dX6_bestTogether_38 (Nat.le_of_ble_eq_true rfl) (sh_1 _ _) (Nat.le_of_ble_eq_true rfl) rfl ?_
      refine G_icmp_ge (tgt := 191) K dX6_bestTogether_41 (by decide) (fun hc => ?_) (fun hc => ?_)
      · have h := wpO_t h hc
        have h := X32 _ (wpO_some h)
        try dsimp only at h
        refine G_iinc (v := x6 + 1) 4 rfl K dX6_bestTogether_191 rfl (Nat.le_of_ble_eq_true rfl) rfl ?_
        refine G_goto (tgt := 10) K dX6_bestTogether_194 (by decide) ?_
        exact G_lv (lv' := [(0, .ref (g.2.1 34)), (1, .int z.1), (2, .long z.2.1), (4, .long z.2.2.1), (6, .int (x6 + 1))]) [1, 2, 3, 4, 0] rfl (E10 z.1 z.2.1 z.2.2.1 (x6 + 1) z.2.2.2.2 (wpO_some h))
      · have h := wpO_f h hc
        refine G_iload 5 rfl K dX6_bestTogether_44 ?_
        refine G_bipush (v := 8) rfl K dX6_bestTogether_46 ?_
        refine G_icmp_ge (tgt := 191) K dX6_bestTogether_48 (by decide) (fun hc => ?_) (fun hc => ?_)
        · have h := wpO_t h hc
          have h := X32 _ (wpO_some h)
          try dsimp only at h
          refine G_iinc (v := x6 + 1) 4 rfl K dX6_bestTogether_191 rfl (Nat.le_of_ble_eq_true rfl) rfl ?_
          refine G_goto (tgt := 10) K dX6_bestTogether_194 (by decide) ?_
          exact G_lv (lv' := [(0, .ref (g.2.1 34)), (1, .int z.1), (2, .long z.2.1), (4, .long z.2.2.1), (6, .int (x6 + 1))]) [1, 2, 3, 4, 0] rfl (E10 z.1 z.2.1 z.2.2.1 (x6 + 1) z.2.2.2.2 (wpO_some h))
        · have h := wpO_f h hc
          refine G_aload_n rfl 0 rfl K dX6_bestTogether_51 ?_
          refine G_get (ci := 6) (k := 0) K rfl in_X6 wd_220 rfl dX6_bestTogether_52 (Nat.le_of_ble_eq_true rfl) (sh_34 _ _) (Nat.le_of_ble_eq_true rfl) rfl ?_
          refine G_iload 4 rfl K dX6_bestTogether_55 ?_
          obtain ⟨r1, e1, h⟩ := wpO_bind h
          refine G_callVi (ci := 10) [.int x6] [] K dX6_bestTogether_57 wv_471 yd_X10_isBarred (Nat.le_of_ble_eq_true rfl) (sh_1 _ _) rfl (by decide) (by decide) rfl rfl (Nat.le_of_ble_eq_true rfl) (K_Well_isBarred l g htr x6 z.2.2.2.2 _ e1) ?_
          refine G_ifb_ne (tgt := 185) K dX6_bestTogether_60 (by decide) (fun hc => ?_) (fun hc => ?_)
          · have h := wpO_t h hc
            refine G_iinc (v := z.2.2.2.1 + 1) 5 rfl K dX6_bestTogether_185 rfl (Nat.le_of_ble_eq_true rfl) rfl ?_
            refine G_goto (tgt := 32) K dX6_bestTogether_188 (by decide) ?_
            exact G_lv (lv' := [(0, .ref (g.2.1 34)), (1, .int z.1), (2, .long z.2.1), (4, .long z.2.2.1), (6, .int x6), (7, .int (z.2.2.2.1 + 1))]) [1, 2, 3, 4, 5, 0] rfl (E32 z.1 z.2.1 z.2.2.1 (z.2.2.2.1 + 1) z.2.2.2.2 (wpO_some h))
          · have h := wpO_bf h hc
            refine G_aload_n rfl 0 rfl K dX6_bestTogether_63 ?_
            refine G_get (ci := 6) (k := 0) K rfl in_X6 wd_220 rfl dX6_bestTogether_64 (Nat.le_of_ble_eq_true rfl) (sh_34 _ _) (Nat.le_of_ble_eq_true rfl) rfl ?_
            refine G_iload 5 rfl K dX6_bestTogether_67 ?_
            obtain ⟨r2, e2, h⟩ := wpO_bind h
            refine G_callVi (ci := 10) [.int z.2.2.2.1] [] K dX6_bestTogether_69 wv_471 yd_X10_isBarred (Nat.le_of_ble_eq_true rfl) (sh_1 _ _) rfl (by decide) (by decide) rfl rfl (Nat.le_of_ble_eq_true rfl) (K_Well_isBarred l g htr z.2.2.2.1 z.2.2.2.2 _ e2) ?_
            refine G_ifb_eq (tgt := 78) K dX6_bestTogether_72 (by decide) (fun hc => ?_) (fun hc => ?_)
            · have h := wpO_bf h hc
              refine G_aload_n rfl 0 rfl K dX6_bestTogether_78 ?_
              refine G_iload 4 rfl K dX6_bestTogether_79 ?_
              refine G_iload 5 rfl K dX6_bestTogether_81 ?_
              refine G_aload_n rfl 0 rfl K dX6_bestTogether_83 ?_
              refine G_get (ci := 6) (k := 0) K rfl in_X6 wd_220 rfl dX6_bestTogether_84 (Nat.le_of_ble_eq_true rfl) (sh_34 _ _) (Nat.le_of_ble_eq_true rfl) rfl ?_
              refine G_get (ci := 10) (k := 1) K rfl in_X10 wd_65 rfl dX6_bestTogether_87 (Nat.le_of_ble_eq_true rfl) (sh_1 _ _) (Nat.le_of_ble_eq_true rfl) rfl ?_
              refine G_i2l K dX6_bestTogether_90 ?_
              refine G_aload_n rfl 0 rfl K dX6_bestTogether_91 ?_
              refine G_get (ci := 6) (k := 0) K rfl in_X6 wd_220 rfl dX6_bestTogether_92 (Nat.le_of_ble_eq_true rfl) (sh_34 _ _) (Nat.le_of_ble_eq_true rfl) rfl ?_
              refine G_get (ci := 10) (k := 2) K rfl in_X10 wd_71 rfl dX6_bestTogether_95 (Nat.le_of_ble_eq_true rfl) (sh_1 _ _) (Nat.le_of_ble_eq_true rfl) rfl ?_
              refine G_i2l K dX6_bestTogether_98 ?_
              obtain ⟨r3, e3, h⟩ := wpO_bind h
              refine G_callVv (ci := 6) [.int x6, .int z.2.2.2.1, .long ((z.2.2.2.2.1 1 1).toInt64), .long ((z.2.2.2.2.1 1 2).toInt64)] [] K dX6_bestTogether_99 wv_490 yd_X6_look (Nat.le_of_ble_eq_true rfl) (sh_34 _ _) rfl (by decide) (by decide) rfl rfl (Nat.le_of_ble_eq_true rfl) (K_Pair_look l g htr x6 z.2.2.2.1 ((z.2.2.2.2.1 1 1).toInt64) ((z.2.2.2.2.1 1 2).toInt64) z.2.2.2.2 _ e3) ?_
              refine G_aload_n rfl 0 rfl K dX6_bestTogether_102 ?_
              obtain ⟨r4, e4, h⟩ := wpO_bind h
              refine G_callVi (ci := 6) [] [] K dX6_bestTogether_103 wv_544 yd_X6_firstGain (Nat.le_of_ble_eq_true rfl) (sh_34 _ _) rfl (by decide) (by decide) rfl rfl (Nat.le_of_ble_eq_true rfl) (K_Pair_firstGain l g htr  r3 _ e4) ?_
              refine G_iconst (v := (-1)) rfl K dX6_bestTogether_106 ?_
              refine G_icmp_eq (tgt := 113) K dX6_bestTogether_107 (by decide) (fun hc => ?_) (fun hc => ?_)
              · have h := wpO_t h hc
                refine G_aload_n rfl 0 rfl K dX6_bestTogether_113 ?_
                refine G_get (ci := 6) (k := 1) K rfl in_X6 wd_221 rfl dX6_bestTogether_114 (Nat.le_of_ble_eq_true rfl) (sh_34 _ _) (Nat.le_of_ble_eq_true rfl) rfl ?_
                refine G_get (ci := 2) (k := 2) K rfl in_X2 wd_194 rfl dX6_bestTogether_117 (Nat.le_of_ble_eq_true rfl) (sh_35 _ _) (Nat.le_of_ble_eq_true rfl) rfl ?_
                refine G_iconst (v := 0) rfl K dX6_bestTogether_120 ?_
                obtain ⟨r5, e5, h⟩ := wpO_bind h
                refine G_callVl (ci := 7) [.int 0] [] K dX6_bestTogether_121 wv_562 yd_X7_at (Nat.le_of_ble_eq_true rfl) (sh_40 _ _) rfl (by decide) (by decide) rfl rfl (Nat.le_of_ble_eq_true rfl) (K_Row_at l g htr 40 41 18 isRow_40 0 r3 _ e5) ?_
                refine G_aload_n rfl 0 rfl K dX6_bestTogether_124 ?_
                refine G_get (ci := 6) (k := 1) K rfl in_X6 wd_221 rfl dX6_bestTogether_125 (Nat.le_of_ble_eq_true rfl) (sh_34 _ _) (Nat.le_of_ble_eq_true rfl) rfl ?_
                refine G_get (ci := 2) (k := 2) K rfl in_X2 wd_194 rfl dX6_bestTogether_128 (Nat.le_of_ble_eq_true rfl) (sh_35 _ _) (Nat.le_of_ble_eq_true rfl) rfl ?_
                refine G_iconst (v := 1) rfl K dX6_bestTogether_131 ?_
                obtain ⟨r6, e6, h⟩ := wpO_bind h
                refine G_callVl (ci := 7) [.int 1] [.long r5] K dX6_bestTogether_132 wv_562 yd_X7_at (Nat.le_of_ble_eq_true rfl) (sh_40 _ _) rfl (by decide) (by decide) rfl rfl (Nat.le_of_ble_eq_true rfl) (K_Row_at l g htr 40 41 18 isRow_40 1 r3 _ e6) ?_
                refine G_ladd K dX6_bestTogether_135 ?_
                refine G_lstore K dX6_bestTogether_136 (Nat.le_of_ble_eq_true rfl) rfl ?_
                refine G_aload_n rfl 1 rfl K dX6_bestTogether_138 ?_
                refine G_get (ci := 6) (k := 1) K rfl in_X6 wd_221 rfl dX6_bestTogether_139 (Nat.le_of_ble_eq_true rfl) (sh_34 _ _) (Nat.le_of_ble_eq_true rfl) rfl ?_
                refine G_get (ci := 2) (k := 3) K rfl in_X2 wd_196 rfl dX6_bestTogether_142 (Nat.le_of_ble_eq_true rfl) (sh_35 _ _) (Nat.le_of_ble_eq_true rfl) rfl ?_
                refine G_iconst (v := 0) rfl K dX6_bestTogether_145 ?_
                obtain ⟨r7, e7, h⟩ := wpO_bind h
                refine G_callVl (ci := 7) [.int 0] [] K dX6_bestTogether_146 wv_562 yd_X7_at (Nat.le_of_ble_eq_true rfl) (sh_42 _ _) rfl (by decide) (by decide) rfl rfl (Nat.le_of_ble_eq_true rfl) (K_Row_at l g htr 42 43 9 isRow_42 0 r3 _ e7) ?_
                refine G_lstore K dX6_bestTogether_149 (Nat.le_of_ble_eq_true rfl) rfl ?_
                refine G_iload_n rfl 3 rfl K dX6_bestTogether_151 ?_
                refine G_iconst (v := (-1)) rfl K dX6_bestTogether_152 ?_
                refine G_icmp_eq (tgt := 169) K dX6_bestTogether_153 (by decide) (fun hc => ?_) (fun hc => ?_)
                · have h := wpO_t h hc
                  exact G_lv (lv' := [(0, .ref (g.2.1 34)), (6, .int x6), (7, .int z.2.2.2.1), (8, .long (r5 + r6)), (10, .long r7)]) [2, 6, 7, 1, 0] rfl (J169 z.2.2.2.1 (r5 + r6) r7 r3 h)
                · have h := wpO_f h hc
                  refine G_lload 1 rfl K dX6_bestTogether_156 ?_
                  refine G_lload 0 rfl K dX6_bestTogether_158 ?_
                  refine G_lload_n rfl 4 rfl K dX6_bestTogether_160 ?_
                  refine G_lload 5 rfl K dX6_bestTogether_161 ?_
                  obtain ⟨r8, e8, h⟩ := wpO_bind h
                  refine G_callSi [.long (r5 + r6), .long r7, .long z.2.1, .long z.2.2.1] [] K dX6_bestTogether_163 wv_563 yd_X5_order (by decide) (by decide) rfl rfl (Nat.le_of_ble_eq_true rfl) (K_Fraction_order l g htr (r5 + r6) r7 z.2.1 z.2.2.1 r3 _ e8) ?_
                  refine G_if_le (tgt := 185) K dX6_bestTogether_166 (by decide) (fun hc => ?_) (fun hc => ?_)
                  · have h := wpO_t h hc
                    refine G_iinc (v := z.2.2.2.1 + 1) 7 rfl K dX6_bestTogether_185 rfl (Nat.le_of_ble_eq_true rfl) rfl ?_
                    refine G_goto (tgt := 32) K dX6_bestTogether_188 (by decide) ?_
                    exact G_lv (lv' := [(0, .ref (g.2.1 34)), (1, .int z.1), (2, .long z.2.1), (4, .long z.2.2.1), (6, .int x6), (7, .int (z.2.2.2.1 + 1))]) [3, 4, 5, 6, 7, 0] rfl (E32 z.1 z.2.1 z.2.2.1 (z.2.2.2.1 + 1) r3 (wpO_some h))
                  · have h := wpO_f h hc
                    exact G_lv (lv' := [(0, .ref (g.2.1 34)), (6, .int x6), (7, .int z.2.2.2.1), (8, .long (r5 + r6)), (10, .long r7)]) [2, 6, 7, 1, 0] rfl (J169 z.2.2.2.1 (r5 + r6) r7 r3 h)
              · have h := wpO_f h hc
                refine G_goto (tgt := 185) K dX6_bestTogether_110 (by decide) ?_
                refine G_iinc (v := z.2.2.2.1 + 1) 5 rfl K dX6_bestTogether_185 rfl (Nat.le_of_ble_eq_true rfl) rfl ?_
                refine G_goto (tgt := 32) K dX6_bestTogether_188 (by decide) ?_
                exact G_lv (lv' := [(0, .ref (g.2.1 34)), (1, .int z.1), (2, .long z.2.1), (4, .long z.2.2.1), (6, .int x6), (7, .int (z.2.2.2.1 + 1))]) [1, 2, 3, 4, 5, 0] rfl (E32 z.1 z.2.1 z.2.2.1 (z.2.2.2.1 + 1) r3 (wpO_some h))
            · have h := wpO_t h hc
              refine G_goto (tgt := 185) K dX6_bestTogether_75 (by decide) ?_
              refine G_iinc (v := z.2.2.2.1 + 1) 5 rfl K dX6_bestTogether_185 rfl (Nat.le_of_ble_eq_true rfl) rfl ?_
              refine G_goto (tgt := 32) K dX6_bestTogether_188 (by decide) ?_
              exact G_lv (lv' := [(0, .ref (g.2.1 34)), (1, .int z.1), (2, .long z.2.1), (4, .long z.2.2.1), (6, .int x6), (7, .int (z.2.2.2.1 + 1))]) [1, 2, 3, 4, 5, 0] rfl (E32 z.1 z.2.1 z.2.2.1 (z.2.2.2.1 + 1) z.2.2.2.2 (wpO_some h))
    intro z h
    unfold F_Pair_bestTogether_b10 at h
    refine G_iload 4 rfl K dX6_bestTogether_10 ?_
    refine G_aload_n rfl 0 rfl K dX6_bestTogether_12 ?_
    refine G_get (ci := 6) (k := 0) K rfl in_X6 wd_220 rfl dX6_bestTogether_13 (Nat.le_of_ble_eq_true rfl) (sh_34 _ _) (Nat.le_of_ble_eq_true rfl) rfl ?_
    refine G_get (ci := 10) (k := 6) K rfl in_X10 wd_87 rfl dX6_bestTogether_16 (Nat.le_of_ble_eq_true rfl) (sh_1 _ _) (Nat.le_of_ble_eq_true rfl) rfl ?_
    refine G_icmp_ge (tgt := 197) K dX6_bestTogether_19 (by decide) (fun hc => ?_) (fun hc => ?_)
    · have h := wpO_t h hc
      have h := X10 _ (wpO_some h)
      try dsimp only at h
      refine G_iload_n rfl 1 rfl K dX6_bestTogether_197 ?_
      cases hPHI _ (wpO_some h)
      exact G_iret K hr rfl dX6_bestTogether_198 (Nat.le_of_ble_eq_true rfl) (Nat.le_of_ble_eq_true rfl) ⟨rfl, rfl⟩
    · have h := wpO_f h hc
      refine G_iload 4 rfl K dX6_bestTogether_22 ?_
      refine G_bipush (v := 8) rfl K dX6_bestTogether_24 ?_
      refine G_icmp_ge (tgt := 197) K dX6_bestTogether_26 (by decide) (fun hc => ?_) (fun hc => ?_)
      · have h := wpO_t h hc
        have h := X10 _ (wpO_some h)
        try dsimp only at h
        refine G_iload_n rfl 1 rfl K dX6_bestTogether_197 ?_
        cases hPHI _ (wpO_some h)
        exact G_iret K hr rfl dX6_bestTogether_198 (Nat.le_of_ble_eq_true rfl) (Nat.le_of_ble_eq_true rfl) ⟨rfl, rfl⟩
      · have h := wpO_f h hc
        refine G_iconst (v := 0) rfl K dX6_bestTogether_29 ?_
        refine G_istore K dX6_bestTogether_30 (Nat.le_of_ble_eq_true rfl) rfl ?_
        exact G_lv (lv' := [(0, .ref (g.2.1 34)), (1, .int z.1), (2, .long z.2.1), (4, .long z.2.2.1), (6, .int z.2.2.2.1), (7, .int 0)]) [1, 2, 3, 4, 5, 0] rfl (J32 z.1 z.2.1 z.2.2.1 z.2.2.2.1 0 z.2.2.2.2 h)
  unfold F_Pair_bestTogether at h
  refine G_iconst (v := (-1)) rfl K dX6_bestTogether_0 ?_
  refine G_istore_n rfl K dX6_bestTogether_1 (Nat.le_of_ble_eq_true rfl) rfl ?_
  refine G_lconst (v := 0) rfl K dX6_bestTogether_2 ?_
  refine G_lstore_n rfl K dX6_bestTogether_3 (Nat.le_of_ble_eq_true rfl) rfl ?_
  refine G_lconst (v := 1) rfl K dX6_bestTogether_4 ?_
  refine G_lstore K dX6_bestTogether_5 (Nat.le_of_ble_eq_true rfl) rfl ?_
  refine G_iconst (v := 0) rfl K dX6_bestTogether_7 ?_
  refine G_istore K dX6_bestTogether_8 (Nat.le_of_ble_eq_true rfl) rfl ?_
  exact G_lv (lv' := [(0, .ref (g.2.1 34)), (1, .int ((-1))), (2, .long 0), (4, .long 1), (6, .int 0)]) [4, 3, 2, 1, 0] rfl (J10 ((-1)) 0 1 0 M h)
theorem wv_1420 : wdS "KeptWell$Pair" 152 yJ9_floorDiv_f86c9 cJ9_floorDiv_f86c9 6 (some .long) := ⟨wd_1420, wd_560, wd_4, wd_561⟩
def on_X6_lossTo : Nat := 0xad759800b821750716073765696d0516218000b6601c681b057d00b40c00b42a8000b61c7d00b40c00b42aad0905009d940905160a009e94092105378000b61b8400b40c00b42a428000b6038400b40c00b42a
theorem ob_X6_lossTo : OKB cX6_lossTo on_X6_lossTo 83 := ⟨by decide +kernel, by decide +kernel⟩
theorem dX6_lossTo_0 : dc cX6_lossTo 0 1 (.aload_n 0) 1 := o_42 ob_X6_lossTo rfl rfl rfl
theorem dX6_lossTo_1 : dc cX6_lossTo 1 4 (.getfield 12) 3 := o_180 ob_X6_lossTo rfl rfl rfl rfl
theorem dX6_lossTo_4 : dc cX6_lossTo 4 7 (.getfield 132) 3 := o_180 ob_X6_lossTo rfl rfl rfl rfl
theorem dX6_lossTo_7 : dc cX6_lossTo 7 8 (.iconst 0) 1 := o_3 ob_X6_lossTo rfl rfl rfl
theorem dX6_lossTo_8 : dc cX6_lossTo 8 11 (.invokevirtual 128) 3 := o_182 ob_X6_lossTo rfl rfl rfl rfl
theorem dX6_lossTo_11 : dc cX6_lossTo 11 12 (.lstore_n 3) 1 := o_66 ob_X6_lossTo rfl rfl rfl
theorem dX6_lossTo_12 : dc cX6_lossTo 12 13 (.aload_n 0) 1 := o_42 ob_X6_lossTo rfl rfl rfl
theorem dX6_lossTo_13 : dc cX6_lossTo 13 16 (.getfield 12) 3 := o_180 ob_X6_lossTo rfl rfl rfl rfl
theorem dX6_lossTo_16 : dc cX6_lossTo 16 19 (.getfield 132) 3 := o_180 ob_X6_lossTo rfl rfl rfl rfl
theorem dX6_lossTo_19 : dc cX6_lossTo 19 20 (.iload_n 1) 1 := o_27 ob_X6_lossTo rfl rfl rfl
theorem dX6_lossTo_20 : dc cX6_lossTo 20 23 (.invokevirtual 128) 3 := o_182 ob_X6_lossTo rfl rfl rfl rfl
theorem dX6_lossTo_23 : dc cX6_lossTo 23 25 (.lstore 5) 2 := o_55 ob_X6_lossTo rfl rfl rfl rfl
theorem dX6_lossTo_25 : dc cX6_lossTo 25 26 (.lload_n 3) 1 := o_33 ob_X6_lossTo rfl rfl rfl
theorem dX6_lossTo_26 : dc cX6_lossTo 26 27 (.lconst 0) 1 := o_9 ob_X6_lossTo rfl rfl rfl
theorem dX6_lossTo_27 : dc cX6_lossTo 27 28 .lcmp 1 := o_148 ob_X6_lossTo rfl rfl rfl
theorem dX6_lossTo_28 : dc cX6_lossTo 28 31 (.ifCond .le 10) 3 := o_158 ob_X6_lossTo rfl rfl rfl rfl
theorem dX6_lossTo_31 : dc cX6_lossTo 31 33 (.lload 5) 2 := o_22 ob_X6_lossTo rfl rfl rfl rfl
theorem dX6_lossTo_33 : dc cX6_lossTo 33 34 (.lconst 0) 1 := o_9 ob_X6_lossTo rfl rfl rfl
theorem dX6_lossTo_34 : dc cX6_lossTo 34 35 .lcmp 1 := o_148 ob_X6_lossTo rfl rfl rfl
theorem dX6_lossTo_35 : dc cX6_lossTo 35 38 (.ifCond .gt 5) 3 := o_157 ob_X6_lossTo rfl rfl rfl rfl
theorem dX6_lossTo_38 : dc cX6_lossTo 38 39 (.lconst 0) 1 := o_9 ob_X6_lossTo rfl rfl rfl
theorem dX6_lossTo_39 : dc cX6_lossTo 39 40 .lreturn 1 := o_173 ob_X6_lossTo rfl rfl rfl
theorem dX6_lossTo_40 : dc cX6_lossTo 40 41 (.aload_n 0) 1 := o_42 ob_X6_lossTo rfl rfl rfl
theorem dX6_lossTo_41 : dc cX6_lossTo 41 44 (.getfield 12) 3 := o_180 ob_X6_lossTo rfl rfl rfl rfl
theorem dX6_lossTo_44 : dc cX6_lossTo 44 47 (.getfield 125) 3 := o_180 ob_X6_lossTo rfl rfl rfl rfl
theorem dX6_lossTo_47 : dc cX6_lossTo 47 48 (.iload_n 2) 1 := o_28 ob_X6_lossTo rfl rfl rfl
theorem dX6_lossTo_48 : dc cX6_lossTo 48 51 (.invokevirtual 128) 3 := o_182 ob_X6_lossTo rfl rfl rfl rfl
theorem dX6_lossTo_51 : dc cX6_lossTo 51 52 (.aload_n 0) 1 := o_42 ob_X6_lossTo rfl rfl rfl
theorem dX6_lossTo_52 : dc cX6_lossTo 52 55 (.getfield 12) 3 := o_180 ob_X6_lossTo rfl rfl rfl rfl
theorem dX6_lossTo_55 : dc cX6_lossTo 55 58 (.getfield 125) 3 := o_180 ob_X6_lossTo rfl rfl rfl rfl
theorem dX6_lossTo_58 : dc cX6_lossTo 58 59 (.iconst 2) 1 := o_5 ob_X6_lossTo rfl rfl rfl
theorem dX6_lossTo_59 : dc cX6_lossTo 59 60 (.iload_n 1) 1 := o_27 ob_X6_lossTo rfl rfl rfl
theorem dX6_lossTo_60 : dc cX6_lossTo 60 61 .imul 1 := o_104 ob_X6_lossTo rfl rfl rfl
theorem dX6_lossTo_61 : dc cX6_lossTo 61 62 (.iload_n 2) 1 := o_28 ob_X6_lossTo rfl rfl rfl
theorem dX6_lossTo_62 : dc cX6_lossTo 62 63 .iadd 1 := o_96 ob_X6_lossTo rfl rfl rfl
theorem dX6_lossTo_63 : dc cX6_lossTo 63 66 (.invokevirtual 128) 3 := o_182 ob_X6_lossTo rfl rfl rfl rfl
theorem dX6_lossTo_66 : dc cX6_lossTo 66 67 (.lload_n 3) 1 := o_33 ob_X6_lossTo rfl rfl rfl
theorem dX6_lossTo_67 : dc cX6_lossTo 67 69 (.lload 5) 2 := o_22 ob_X6_lossTo rfl rfl rfl rfl
theorem dX6_lossTo_69 : dc cX6_lossTo 69 70 .ldiv 1 := o_109 ob_X6_lossTo rfl rfl rfl
theorem dX6_lossTo_70 : dc cX6_lossTo 70 71 .lmul 1 := o_105 ob_X6_lossTo rfl rfl rfl
theorem dX6_lossTo_71 : dc cX6_lossTo 71 72 .lsub 1 := o_101 ob_X6_lossTo rfl rfl rfl
theorem dX6_lossTo_72 : dc cX6_lossTo 72 74 (.lstore 7) 2 := o_55 ob_X6_lossTo rfl rfl rfl rfl
theorem dX6_lossTo_74 : dc cX6_lossTo 74 76 (.lload 7) 2 := o_22 ob_X6_lossTo rfl rfl rfl rfl
theorem dX6_lossTo_76 : dc cX6_lossTo 76 77 .lneg 1 := o_117 ob_X6_lossTo rfl rfl rfl
theorem dX6_lossTo_77 : dc cX6_lossTo 77 78 (.lload_n 3) 1 := o_33 ob_X6_lossTo rfl rfl rfl
theorem dX6_lossTo_78 : dc cX6_lossTo 78 81 (.invokestatic 152) 3 := o_184 ob_X6_lossTo rfl rfl rfl rfl
theorem dX6_lossTo_81 : dc cX6_lossTo 81 82 .lneg 1 := o_117 ob_X6_lossTo rfl rfl rfl
theorem dX6_lossTo_82 : dc cX6_lossTo 82 83 .lreturn 1 := o_173 ob_X6_lossTo rfl rfl rfl
def F_Pair_lossTo (x1 : Int32) (x2 : Int32) (M : Mem) : Option (Int64) :=
  (F_Row_at 43 9 0 M).bind fun r1 => (F_Row_at 43 9 x1 M).bind fun r2 => if r1 ≤ 0 then some 0 else if 0 < r2 then (F_Row_at 41 18 x2 M).bind fun r3 => (F_Row_at 41 18 ((2 * x1) + x2) M).bind fun r4 => if ¬ r2 = 0 then (F_Math_floorDiv (-(r3 - (r4 * (r1 / r2)))) r1 M).bind fun r5 => some (-r5) else none else some 0
set_option maxRecDepth 100000 in
set_option maxHeartbeats 4000000 in
theorem K_Pair_lossTo (l : Launch) (g : GB) (htr : l.stackTraces = false) (x1 : Int32) (x2 : Int32) (M : Mem) (rr : Int64) (h : F_Pair_lossTo x1 x2 M = some rr) : CT l g yX6_lossTo (.code yX6_lossTo cX6_lossTo 9 (some .long) :: wAll) { frames := 1, cells := 0, slots := 0, locals := 25 } [.ref (g.2.1 34), .int x1, .int x2] M (.inl (some (.long rr))) M := by
  refine CT.of [(0, .ref (g.2.1 34)), (1, .int x1), (2, .int x2)] (by decide +kernel) (Nat.le_of_ble_eq_true rfl) rfl htr ?_
  intro p e s m args below meth c K hr ht
  skip
  obtain ⟨PHI, hPHI, h⟩ : ∃ PHI : Int64 → Prop, (∀ a, PHI a → a = rr) ∧ wpO (F_Pair_lossTo x1 x2 M) PHI := ⟨fun a => a = rr, fun _ h => h, _, h, rfl⟩
  unfold F_Pair_lossTo at h
  refine G_aload_n rfl 0 rfl K dX6_lossTo_0 ?_
  refine G_get (ci := 6) (k := 1) K rfl in_X6 wd_221 rfl dX6_lossTo_1 (Nat.le_of_ble_eq_true rfl) (sh_34 _ _) (Nat.le_of_ble_eq_true rfl) rfl ?_
  refine G_get (ci := 2) (k := 3) K rfl in_X2 wd_196 rfl dX6_lossTo_4 (Nat.le_of_ble_eq_true rfl) (sh_35 _ _) (Nat.le_of_ble_eq_true rfl) rfl ?_
  refine G_iconst (v := 0) rfl K dX6_lossTo_7 ?_
  obtain ⟨r1, e1, h⟩ := wpO_bind h
  refine G_callVl (ci := 7) [.int 0] [] K dX6_lossTo_8 wv_562 yd_X7_at (Nat.le_of_ble_eq_true rfl) (sh_42 _ _) rfl (by decide) (by decide) rfl rfl (Nat.le_of_ble_eq_true rfl) (K_Row_at l g htr 42 43 9 isRow_42 0 M _ e1) ?_
  refine G_lstore_n rfl K dX6_lossTo_11 (Nat.le_of_ble_eq_true rfl) rfl ?_
  refine G_aload_n rfl 1 rfl K dX6_lossTo_12 ?_
  refine G_get (ci := 6) (k := 1) K rfl in_X6 wd_221 rfl dX6_lossTo_13 (Nat.le_of_ble_eq_true rfl) (sh_34 _ _) (Nat.le_of_ble_eq_true rfl) rfl ?_
  refine G_get (ci := 2) (k := 3) K rfl in_X2 wd_196 rfl dX6_lossTo_16 (Nat.le_of_ble_eq_true rfl) (sh_35 _ _) (Nat.le_of_ble_eq_true rfl) rfl ?_
  refine G_iload_n rfl 2 rfl K dX6_lossTo_19 ?_
  obtain ⟨r2, e2, h⟩ := wpO_bind h
  refine G_callVl (ci := 7) [.int x1] [] K dX6_lossTo_20 wv_562 yd_X7_at (Nat.le_of_ble_eq_true rfl) (sh_42 _ _) rfl (by decide) (by decide) rfl rfl (Nat.le_of_ble_eq_true rfl) (K_Row_at l g htr 42 43 9 isRow_42 x1 M _ e2) ?_
  refine G_lstore K dX6_lossTo_23 (Nat.le_of_ble_eq_true rfl) rfl ?_
  refine G_lload_n rfl 1 rfl K dX6_lossTo_25 ?_
  refine G_lconst (v := 0) rfl K dX6_lossTo_26 ?_
  refine G_lcmp_le (tgt := 38) K dX6_lossTo_27 dX6_lossTo_28 (by decide) (fun hc => ?_) (fun hc => ?_)
  · have h := wpO_t h hc
    refine G_lconst (v := 0) rfl K dX6_lossTo_38 ?_
    cases hPHI _ (wpO_some h)
    exact G_lret K hr dX6_lossTo_39 (Nat.le_of_ble_eq_true rfl) (Nat.le_of_ble_eq_true rfl) ⟨rfl, rfl⟩
  · have h := wpO_f h hc
    refine G_lload 0 rfl K dX6_lossTo_31 ?_
    refine G_lconst (v := 0) rfl K dX6_lossTo_33 ?_
    refine G_lcmp_gt (tgt := 40) K dX6_lossTo_34 dX6_lossTo_35 (by decide) (fun hc => ?_) (fun hc => ?_)
    · have h := wpO_t h hc
      refine G_aload_n rfl 2 rfl K dX6_lossTo_40 ?_
      refine G_get (ci := 6) (k := 1) K rfl in_X6 wd_221 rfl dX6_lossTo_41 (Nat.le_of_ble_eq_true rfl) (sh_34 _ _) (Nat.le_of_ble_eq_true rfl) rfl ?_
      refine G_get (ci := 2) (k := 2) K rfl in_X2 wd_194 rfl dX6_lossTo_44 (Nat.le_of_ble_eq_true rfl) (sh_35 _ _) (Nat.le_of_ble_eq_true rfl) rfl ?_
      refine G_iload_n rfl 4 rfl K dX6_lossTo_47 ?_
      obtain ⟨r3, e3, h⟩ := wpO_bind h
      refine G_callVl (ci := 7) [.int x2] [] K dX6_lossTo_48 wv_562 yd_X7_at (Nat.le_of_ble_eq_true rfl) (sh_40 _ _) rfl (by decide) (by decide) rfl rfl (Nat.le_of_ble_eq_true rfl) (K_Row_at l g htr 40 41 18 isRow_40 x2 M _ e3) ?_
      refine G_aload_n rfl 2 rfl K dX6_lossTo_51 ?_
      refine G_get (ci := 6) (k := 1) K rfl in_X6 wd_221 rfl dX6_lossTo_52 (Nat.le_of_ble_eq_true rfl) (sh_34 _ _) (Nat.le_of_ble_eq_true rfl) rfl ?_
      refine G_get (ci := 2) (k := 2) K rfl in_X2 wd_194 rfl dX6_lossTo_55 (Nat.le_of_ble_eq_true rfl) (sh_35 _ _) (Nat.le_of_ble_eq_true rfl) rfl ?_
      refine G_iconst (v := 2) rfl K dX6_lossTo_58 ?_
      refine G_iload_n rfl 3 rfl K dX6_lossTo_59 ?_
      refine G_imul K dX6_lossTo_60 ?_
      refine G_iload_n rfl 4 rfl K dX6_lossTo_61 ?_
      refine G_iadd K dX6_lossTo_62 ?_
      obtain ⟨r4, e4, h⟩ := wpO_bind h
      refine G_callVl (ci := 7) [.int ((2 * x1) + x2)] [.long r3] K dX6_lossTo_63 wv_562 yd_X7_at (Nat.le_of_ble_eq_true rfl) (sh_40 _ _) rfl (by decide) (by decide) rfl rfl (Nat.le_of_ble_eq_true rfl) (K_Row_at l g htr 40 41 18 isRow_40 ((2 * x1) + x2) M _ e4) ?_
      refine G_lload_n rfl 1 rfl K dX6_lossTo_66 ?_
      refine G_lload 0 rfl K dX6_lossTo_67 ?_
      obtain ⟨hc, h⟩ := wpO_g h
      refine G_ldiv hc K dX6_lossTo_69 ?_
      refine G_lmul K dX6_lossTo_70 ?_
      refine G_lsub K dX6_lossTo_71 ?_
      refine G_lstore K dX6_lossTo_72 (Nat.le_of_ble_eq_true rfl) rfl ?_
      refine G_lload 0 rfl K dX6_lossTo_74 ?_
      refine G_lneg K dX6_lossTo_76 ?_
      refine G_lload_n rfl 2 rfl K dX6_lossTo_77 ?_
      obtain ⟨r5, e5, h⟩ := wpO_bind h
      refine G_callSl [.long (-(r3 - (r4 * (r1 / r2)))), .long r1] [] K dX6_lossTo_78 wv_1420 yd_J9_floorDiv_f86c9 (by decide) (by decide) rfl rfl (Nat.le_of_ble_eq_true rfl) (K_Math_floorDiv l g htr (-(r3 - (r4 * (r1 / r2)))) r1 M _ e5) ?_
      refine G_lneg K dX6_lossTo_81 ?_
      cases hPHI _ (wpO_some h)
      exact G_lret K hr dX6_lossTo_82 (Nat.le_of_ble_eq_true rfl) (Nat.le_of_ble_eq_true rfl) ⟨rfl, rfl⟩
    · have h := wpO_f h hc
      refine G_lconst (v := 0) rfl K dX6_lossTo_38 ?_
      cases hPHI _ (wpO_some h)
      exact G_lret K hr dX6_lossTo_39 (Nat.le_of_ble_eq_true rfl) (Nat.le_of_ble_eq_true rfl) ⟨rfl, rfl⟩
def on_J9_max_f86c9 : Nat := 0xad200400a71e07009b94201e
theorem ob_J9_max_f86c9 : OKB cJ9_max_f86c9 on_J9_max_f86c9 12 := ⟨by decide +kernel, by decide +kernel⟩
theorem dJ9_max_f86c9_0 : dc cJ9_max_f86c9 0 1 (.lload_n 0) 1 := o_30 ob_J9_max_f86c9 rfl rfl rfl
theorem dJ9_max_f86c9_1 : dc cJ9_max_f86c9 1 2 (.lload_n 2) 1 := o_32 ob_J9_max_f86c9 rfl rfl rfl
theorem dJ9_max_f86c9_2 : dc cJ9_max_f86c9 2 3 .lcmp 1 := o_148 ob_J9_max_f86c9 rfl rfl rfl
theorem dJ9_max_f86c9_3 : dc cJ9_max_f86c9 3 6 (.ifCond .lt 7) 3 := o_155 ob_J9_max_f86c9 rfl rfl rfl rfl
theorem dJ9_max_f86c9_6 : dc cJ9_max_f86c9 6 7 (.lload_n 0) 1 := o_30 ob_J9_max_f86c9 rfl rfl rfl
theorem dJ9_max_f86c9_7 : dc cJ9_max_f86c9 7 10 (.goto 4) 3 := o_167 ob_J9_max_f86c9 rfl rfl rfl rfl
theorem dJ9_max_f86c9_10 : dc cJ9_max_f86c9 10 11 (.lload_n 2) 1 := o_32 ob_J9_max_f86c9 rfl rfl rfl
theorem dJ9_max_f86c9_11 : dc cJ9_max_f86c9 11 12 .lreturn 1 := o_173 ob_J9_max_f86c9 rfl rfl rfl
def F_Math_max_JJJ (x0 : Int64) (x2 : Int64) (M : Mem) : Option (Int64) :=
  if x0 < x2 then some x2 else some x0
set_option maxRecDepth 100000 in
set_option maxHeartbeats 4000000 in
theorem K_Math_max_JJJ (l : Launch) (g : GB) (htr : l.stackTraces = false) (x0 : Int64) (x2 : Int64) (M : Mem) (rr : Int64) (h : F_Math_max_JJJ x0 x2 M = some rr) : CT l g yJ9_max_f86c9 (.code yJ9_max_f86c9 cJ9_max_f86c9 4 (some .long) :: wAll) { frames := 0, cells := 0, slots := 0, locals := 0 } [.long x0, .long x2] M (.inl (some (.long rr))) M := by
  refine CT.of [(0, .long x0), (2, .long x2)] pf_J9_max_f86c9 (Nat.le_of_ble_eq_true rfl) rfl htr ?_
  intro p e s m args below meth c K hr ht
  skip
  obtain ⟨PHI, hPHI, h⟩ : ∃ PHI : Int64 → Prop, (∀ a, PHI a → a = rr) ∧ wpO (F_Math_max_JJJ x0 x2 M) PHI := ⟨fun a => a = rr, fun _ h => h, _, h, rfl⟩
  unfold F_Math_max_JJJ at h
  refine G_lload_n rfl 0 rfl K dJ9_max_f86c9_0 ?_
  refine G_lload_n rfl 1 rfl K dJ9_max_f86c9_1 ?_
  refine G_lcmp_lt (tgt := 10) K dJ9_max_f86c9_2 dJ9_max_f86c9_3 (by decide) (fun hc => ?_) (fun hc => ?_)
  · have h := wpO_t h hc
    refine G_lload_n rfl 1 rfl K dJ9_max_f86c9_10 ?_
    cases hPHI _ (wpO_some h)
    exact G_lret K hr dJ9_max_f86c9_11 (Nat.le_of_ble_eq_true rfl) (Nat.le_of_ble_eq_true rfl) ⟨rfl, rfl⟩
  · have h := wpO_f h hc
    refine G_lload_n rfl 0 rfl K dJ9_max_f86c9_6 ?_
    refine G_goto (tgt := 11) K dJ9_max_f86c9_7 (by decide) ?_
    cases hPHI _ (wpO_some h)
    exact G_lret K hr dJ9_max_f86c9_11 (Nat.le_of_ble_eq_true rfl) (Nat.le_of_ble_eq_true rfl) ⟨rfl, rfl⟩
theorem yd_J9_max_f86c9 : ydN yJ9_max_f86c9 2 := ⟨by decide, by decide, by decide +kernel⟩
theorem yd_X6_lossTo : ydN yX6_lossTo 2 := ⟨by decide, by decide, by decide +kernel⟩
theorem wv_1416 : wdV "KeptWell$Pair" 139 yX6_lossTo cX6_lossTo 9 (some .long) := ⟨wd_1416, wd_1418, ws_X6_lossTo, wd_6, wd_1419⟩
theorem wv_1421 : wdS "KeptWell$Pair" 143 yJ9_max_f86c9 cJ9_max_f86c9 4 (some .long) := ⟨wd_1421, wd_1137, wd_4, wd_1138⟩
theorem wv_1422 : wdV "KeptWell$Pair" 149 yX7_small cX7_small 2 (some .int) := ⟨wd_1422, wd_480, wd_481, wd_3, wd_482⟩
def on_X6_costToLeave : Nat := 0xac881fd6ffa70104843e9500b61d9200b40c00b42a408f00b88f00b88b00b6041d2a8b00b6031d2a1f2900a2091004150436033e034009
theorem ob_X6_costToLeave : OKB cX6_costToLeave on_X6_costToLeave 55 := ⟨by decide +kernel, by decide +kernel⟩
theorem dX6_costToLeave_0 : dc cX6_costToLeave 0 1 (.lconst 0) 1 := o_9 ob_X6_costToLeave rfl rfl rfl
theorem dX6_costToLeave_1 : dc cX6_costToLeave 1 2 (.lstore_n 1) 1 := o_64 ob_X6_costToLeave rfl rfl rfl
theorem dX6_costToLeave_2 : dc cX6_costToLeave 2 3 (.iconst 0) 1 := o_3 ob_X6_costToLeave rfl rfl rfl
theorem dX6_costToLeave_3 : dc cX6_costToLeave 3 4 (.istore_n 3) 1 := o_62 ob_X6_costToLeave rfl rfl rfl
theorem dX6_costToLeave_4 : dc cX6_costToLeave 4 5 (.iconst 0) 1 := o_3 ob_X6_costToLeave rfl rfl rfl
theorem dX6_costToLeave_5 : dc cX6_costToLeave 5 7 (.istore 4) 2 := o_54 ob_X6_costToLeave rfl rfl rfl rfl
theorem dX6_costToLeave_7 : dc cX6_costToLeave 7 9 (.iload 4) 2 := o_21 ob_X6_costToLeave rfl rfl rfl rfl
theorem dX6_costToLeave_9 : dc cX6_costToLeave 9 11 (.bipush 9) 2 := o_16 ob_X6_costToLeave rfl rfl rfl rfl
theorem dX6_costToLeave_11 : dc cX6_costToLeave 11 14 (.if_icmp .ge 41) 3 := o_162 ob_X6_costToLeave rfl rfl rfl rfl
theorem dX6_costToLeave_14 : dc cX6_costToLeave 14 15 (.lload_n 1) 1 := o_31 ob_X6_costToLeave rfl rfl rfl
theorem dX6_costToLeave_15 : dc cX6_costToLeave 15 16 (.aload_n 0) 1 := o_42 ob_X6_costToLeave rfl rfl rfl
theorem dX6_costToLeave_16 : dc cX6_costToLeave 16 17 (.iload_n 3) 1 := o_29 ob_X6_costToLeave rfl rfl rfl
theorem dX6_costToLeave_17 : dc cX6_costToLeave 17 18 (.iconst 0) 1 := o_3 ob_X6_costToLeave rfl rfl rfl
theorem dX6_costToLeave_18 : dc cX6_costToLeave 18 21 (.invokevirtual 139) 3 := o_182 ob_X6_costToLeave rfl rfl rfl rfl
theorem dX6_costToLeave_21 : dc cX6_costToLeave 21 22 (.aload_n 0) 1 := o_42 ob_X6_costToLeave rfl rfl rfl
theorem dX6_costToLeave_22 : dc cX6_costToLeave 22 23 (.iload_n 3) 1 := o_29 ob_X6_costToLeave rfl rfl rfl
theorem dX6_costToLeave_23 : dc cX6_costToLeave 23 24 (.iconst 1) 1 := o_4 ob_X6_costToLeave rfl rfl rfl
theorem dX6_costToLeave_24 : dc cX6_costToLeave 24 27 (.invokevirtual 139) 3 := o_182 ob_X6_costToLeave rfl rfl rfl rfl
theorem dX6_costToLeave_27 : dc cX6_costToLeave 27 30 (.invokestatic 143) 3 := o_184 ob_X6_costToLeave rfl rfl rfl rfl
theorem dX6_costToLeave_30 : dc cX6_costToLeave 30 33 (.invokestatic 143) 3 := o_184 ob_X6_costToLeave rfl rfl rfl rfl
theorem dX6_costToLeave_33 : dc cX6_costToLeave 33 34 (.lstore_n 1) 1 := o_64 ob_X6_costToLeave rfl rfl rfl
theorem dX6_costToLeave_34 : dc cX6_costToLeave 34 35 (.aload_n 0) 1 := o_42 ob_X6_costToLeave rfl rfl rfl
theorem dX6_costToLeave_35 : dc cX6_costToLeave 35 38 (.getfield 12) 3 := o_180 ob_X6_costToLeave rfl rfl rfl rfl
theorem dX6_costToLeave_38 : dc cX6_costToLeave 38 41 (.getfield 146) 3 := o_180 ob_X6_costToLeave rfl rfl rfl rfl
theorem dX6_costToLeave_41 : dc cX6_costToLeave 41 42 (.iload_n 3) 1 := o_29 ob_X6_costToLeave rfl rfl rfl
theorem dX6_costToLeave_42 : dc cX6_costToLeave 42 45 (.invokevirtual 149) 3 := o_182 ob_X6_costToLeave rfl rfl rfl rfl
theorem dX6_costToLeave_45 : dc cX6_costToLeave 45 46 (.istore_n 3) 1 := o_62 ob_X6_costToLeave rfl rfl rfl
theorem dX6_costToLeave_46 : dc cX6_costToLeave 46 49 (.iinc 4 1) 3 := o_132 ob_X6_costToLeave rfl rfl rfl rfl rfl
theorem dX6_costToLeave_49 : dc cX6_costToLeave 49 52 (.goto (-42)) 3 := o_167 ob_X6_costToLeave rfl rfl rfl rfl
theorem dX6_costToLeave_52 : dc cX6_costToLeave 52 53 (.lload_n 1) 1 := o_31 ob_X6_costToLeave rfl rfl rfl
theorem dX6_costToLeave_53 : dc cX6_costToLeave 53 54 .l2i 1 := o_136 ob_X6_costToLeave rfl rfl rfl
theorem dX6_costToLeave_54 : dc cX6_costToLeave 54 55 .ireturn 1 := o_172 ob_X6_costToLeave rfl rfl rfl
def F_Pair_costToLeave_b7 (M : Mem) (z : Int64 × Int32 × Int32) : Option ((Int64 × Int32 × Int32) ⊕ ((Int64))) :=
  if 9 ≤ z.2.2 then some (.inr z.1) else (F_Pair_lossTo z.2.1 0 M).bind fun r1 => (F_Pair_lossTo z.2.1 1 M).bind fun r2 => (F_Math_max_JJJ r1 r2 M).bind fun r3 => (F_Math_max_JJJ z.1 r3 M).bind fun r4 => (F_Row_small 37 9 z.2.1 M).bind fun r5 => some (.inl ((r4, r5, z.2.2 + 1)))
def F_Pair_costToLeave_l7 (x1 : Int64) (x3 : Int32) (x4 : Int32) (M : Mem) : Option (Int32) :=
  (iter (F_Pair_costToLeave_b7 M) FUEL (x1, x3, x4)).bind fun r => some r.toInt32
def F_Pair_costToLeave (M : Mem) : Option (Int32) :=
  F_Pair_costToLeave_l7 0 0 0 M
set_option maxRecDepth 100000 in
set_option maxHeartbeats 4000000 in
theorem K_Pair_costToLeave (l : Launch) (g : GB) (htr : l.stackTraces = false) (M : Mem) (rr : Int32) (h : F_Pair_costToLeave M = some rr) : CT l g yX6_costToLeave (.code yX6_costToLeave cX6_costToLeave 5 (some .int) :: wAll) { frames := 2, cells := 0, slots := 0, locals := 53 } [.ref (g.2.1 34)] M (.inl (some (.int rr))) M := by
  refine CT.of [(0, .ref (g.2.1 34))] (by decide +kernel) (Nat.le_of_ble_eq_true rfl) rfl htr ?_
  intro p e s m args below meth c K hr ht
  skip
  obtain ⟨PHI, hPHI, h⟩ : ∃ PHI : Int32 → Prop, (∀ a, PHI a → a = rr) ∧ wpO (F_Pair_costToLeave M) PHI := ⟨fun a => a = rr, fun _ h => h, _, h, rfl⟩
  have J7 : ∀ (x1 : Int64) (x3 : Int32) (x4 : Int32), wpO (F_Pair_costToLeave_l7 x1 x3 x4 M) PHI → GG p l e { frames := 2, cells := 0, slots := 0, locals := 53 } s m args below meth c g 5 (vx_MQ below (Qn g s.heap.size (.inl (some (.int rr))) M) (QX g s.heap.size (.inl (some (.int rr))) M) args s 0 0 (AS g s.heap.size)) 0 0 7 [(0, .ref (g.2.1 34)), (1, .long x1), (3, .int x3), (4, .int x4)] [] M := by
    intro x1 x3 x4 h
    unfold F_Pair_costToLeave_l7 at h
    refine loop_C3 (G := fun (x1 : Int64) (x3 : Int32) (x4 : Int32) => GG p l e { frames := 2, cells := 0, slots := 0, locals := 53 } s m args below meth c g 5 (vx_MQ below (Qn g s.heap.size (.inl (some (.int rr))) M) (QX g s.heap.size (.inl (some (.int rr))) M) args s 0 0 (AS g s.heap.size)) 0 0 7 [(0, .ref (g.2.1 34)), (1, .long x1), (3, .int x3), (4, .int x4)] [] M) (body := F_Pair_costToLeave_b7 M) ?_ FUEL _ _ _ (wpO_bind h)
    intro P7 E7 X7
    intro z h
    unfold F_Pair_costToLeave_b7 at h
    refine G_iload 3 rfl K dX6_costToLeave_7 ?_
    refine G_bipush (v := 9) rfl K dX6_costToLeave_9 ?_
    refine G_icmp_ge (tgt := 52) K dX6_costToLeave_11 (by decide) (fun hc => ?_) (fun hc => ?_)
    · have h := wpO_t h hc
      have h := X7 _ (wpO_some h)
      try dsimp only at h
      refine G_lload_n rfl 1 rfl K dX6_costToLeave_52 ?_
      refine G_l2i K dX6_costToLeave_53 ?_
      cases hPHI _ (wpO_some h)
      exact G_iret K hr rfl dX6_costToLeave_54 (Nat.le_of_ble_eq_true rfl) (Nat.le_of_ble_eq_true rfl) ⟨rfl, rfl⟩
    · have h := wpO_f h hc
      refine G_lload_n rfl 1 rfl K dX6_costToLeave_14 ?_
      refine G_aload_n rfl 0 rfl K dX6_costToLeave_15 ?_
      refine G_iload_n rfl 2 rfl K dX6_costToLeave_16 ?_
      refine G_iconst (v := 0) rfl K dX6_costToLeave_17 ?_
      obtain ⟨r1, e1, h⟩ := wpO_bind h
      refine G_callVl (ci := 6) [.int z.2.1, .int 0] [.long z.1] K dX6_costToLeave_18 wv_1416 yd_X6_lossTo (Nat.le_of_ble_eq_true rfl) (sh_34 _ _) rfl (by decide) (by decide) rfl rfl (Nat.le_of_ble_eq_true rfl) (K_Pair_lossTo l g htr z.2.1 0 M _ e1) ?_
      refine G_aload_n rfl 0 rfl K dX6_costToLeave_21 ?_
      refine G_iload_n rfl 2 rfl K dX6_costToLeave_22 ?_
      refine G_iconst (v := 1) rfl K dX6_costToLeave_23 ?_
      obtain ⟨r2, e2, h⟩ := wpO_bind h
      refine G_callVl (ci := 6) [.int z.2.1, .int 1] [.long r1, .long z.1] K dX6_costToLeave_24 wv_1416 yd_X6_lossTo (Nat.le_of_ble_eq_true rfl) (sh_34 _ _) rfl (by decide) (by decide) rfl rfl (Nat.le_of_ble_eq_true rfl) (K_Pair_lossTo l g htr z.2.1 1 M _ e2) ?_
      obtain ⟨r3, e3, h⟩ := wpO_bind h
      refine G_callSl [.long r1, .long r2] [.long z.1] K dX6_costToLeave_27 wv_1421 yd_J9_max_f86c9 (by decide) (by decide) rfl rfl (Nat.le_of_ble_eq_true rfl) (K_Math_max_JJJ l g htr r1 r2 M _ e3) ?_
      obtain ⟨r4, e4, h⟩ := wpO_bind h
      refine G_callSl [.long z.1, .long r3] [] K dX6_costToLeave_30 wv_1421 yd_J9_max_f86c9 (by decide) (by decide) rfl rfl (Nat.le_of_ble_eq_true rfl) (K_Math_max_JJJ l g htr z.1 r3 M _ e4) ?_
      refine G_lstore_n rfl K dX6_costToLeave_33 (Nat.le_of_ble_eq_true rfl) rfl ?_
      refine G_aload_n rfl 1 rfl K dX6_costToLeave_34 ?_
      refine G_get (ci := 6) (k := 1) K rfl in_X6 wd_221 rfl dX6_costToLeave_35 (Nat.le_of_ble_eq_true rfl) (sh_34 _ _) (Nat.le_of_ble_eq_true rfl) rfl ?_
      refine G_get (ci := 2) (k := 0) K rfl in_X2 wd_191 rfl dX6_costToLeave_38 (Nat.le_of_ble_eq_true rfl) (sh_35 _ _) (Nat.le_of_ble_eq_true rfl) rfl ?_
      refine G_iload_n rfl 2 rfl K dX6_costToLeave_41 ?_
      obtain ⟨r5, e5, h⟩ := wpO_bind h
      refine G_callVi (ci := 7) [.int z.2.1] [] K dX6_costToLeave_42 wv_1422 yd_X7_small (Nat.le_of_ble_eq_true rfl) (sh_36 _ _) rfl (by decide) (by decide) rfl rfl (Nat.le_of_ble_eq_true rfl) (K_Row_small l g htr 36 37 9 isRow_36 z.2.1 M _ e5) ?_
      refine G_istore_n rfl K dX6_costToLeave_45 (Nat.le_of_ble_eq_true rfl) rfl ?_
      refine G_iinc (v := z.2.2 + 1) 3 rfl K dX6_costToLeave_46 rfl (Nat.le_of_ble_eq_true rfl) rfl ?_
      refine G_goto (tgt := 7) K dX6_costToLeave_49 (by decide) ?_
      exact G_lv (lv' := [(0, .ref (g.2.1 34)), (1, .long r4), (3, .int r5), (4, .int (z.2.2 + 1))]) [3, 2, 1, 0] rfl (E7 r4 r5 (z.2.2 + 1) (wpO_some h))
  unfold F_Pair_costToLeave at h
  refine G_lconst (v := 0) rfl K dX6_costToLeave_0 ?_
  refine G_lstore_n rfl K dX6_costToLeave_1 (Nat.le_of_ble_eq_true rfl) rfl ?_
  refine G_iconst (v := 0) rfl K dX6_costToLeave_2 ?_
  refine G_istore_n rfl K dX6_costToLeave_3 (Nat.le_of_ble_eq_true rfl) rfl ?_
  refine G_iconst (v := 0) rfl K dX6_costToLeave_4 ?_
  refine G_istore K dX6_costToLeave_5 (Nat.le_of_ble_eq_true rfl) rfl ?_
  exact G_lv (lv' := [(0, .ref (g.2.1 34)), (1, .long 0), (3, .int 0), (4, .int 0)]) [3, 2, 1, 0] rfl (J7 0 0 0 h)
def on_X6_chanceOf : Nat := 0xad85c000b42b00b42a0b00a78564c000b42b00b42ab600b42b00b42a1600991b
theorem ob_X6_chanceOf : OKB cX6_chanceOf on_X6_chanceOf 32 := ⟨by decide +kernel, by decide +kernel⟩
theorem dX6_chanceOf_0 : dc cX6_chanceOf 0 1 (.iload_n 1) 1 := o_27 ob_X6_chanceOf rfl rfl rfl
theorem dX6_chanceOf_1 : dc cX6_chanceOf 1 4 (.ifCond .eq 22) 3 := o_153 ob_X6_chanceOf rfl rfl rfl rfl
theorem dX6_chanceOf_4 : dc cX6_chanceOf 4 5 (.aload_n 0) 1 := o_42 ob_X6_chanceOf rfl rfl rfl
theorem dX6_chanceOf_5 : dc cX6_chanceOf 5 8 (.getfield 43) 3 := o_180 ob_X6_chanceOf rfl rfl rfl rfl
theorem dX6_chanceOf_8 : dc cX6_chanceOf 8 11 (.getfield 182) 3 := o_180 ob_X6_chanceOf rfl rfl rfl rfl
theorem dX6_chanceOf_11 : dc cX6_chanceOf 11 12 (.aload_n 0) 1 := o_42 ob_X6_chanceOf rfl rfl rfl
theorem dX6_chanceOf_12 : dc cX6_chanceOf 12 15 (.getfield 43) 3 := o_180 ob_X6_chanceOf rfl rfl rfl rfl
theorem dX6_chanceOf_15 : dc cX6_chanceOf 15 18 (.getfield 192) 3 := o_180 ob_X6_chanceOf rfl rfl rfl rfl
theorem dX6_chanceOf_18 : dc cX6_chanceOf 18 19 .isub 1 := o_100 ob_X6_chanceOf rfl rfl rfl
theorem dX6_chanceOf_19 : dc cX6_chanceOf 19 20 .i2l 1 := o_133 ob_X6_chanceOf rfl rfl rfl
theorem dX6_chanceOf_20 : dc cX6_chanceOf 20 23 (.goto 11) 3 := o_167 ob_X6_chanceOf rfl rfl rfl rfl
theorem dX6_chanceOf_23 : dc cX6_chanceOf 23 24 (.aload_n 0) 1 := o_42 ob_X6_chanceOf rfl rfl rfl
theorem dX6_chanceOf_24 : dc cX6_chanceOf 24 27 (.getfield 43) 3 := o_180 ob_X6_chanceOf rfl rfl rfl rfl
theorem dX6_chanceOf_27 : dc cX6_chanceOf 27 30 (.getfield 192) 3 := o_180 ob_X6_chanceOf rfl rfl rfl rfl
theorem dX6_chanceOf_30 : dc cX6_chanceOf 30 31 .i2l 1 := o_133 ob_X6_chanceOf rfl rfl rfl
theorem dX6_chanceOf_31 : dc cX6_chanceOf 31 32 .lreturn 1 := o_173 ob_X6_chanceOf rfl rfl rfl
def F_Pair_chanceOf (x1 : Int32) (M : Mem) : Option (Int64) :=
  if x1 = 0 then some ((M.1 1 3).toInt64) else some (((M.1 1 4) - (M.1 1 3)).toInt64)
set_option maxRecDepth 100000 in
set_option maxHeartbeats 4000000 in
theorem K_Pair_chanceOf (l : Launch) (g : GB) (htr : l.stackTraces = false) (x1 : Int32) (M : Mem) (rr : Int64) (h : F_Pair_chanceOf x1 M = some rr) : CT l g yX6_chanceOf (.code yX6_chanceOf cX6_chanceOf 2 (some .long) :: wAll) { frames := 0, cells := 0, slots := 0, locals := 0 } [.ref (g.2.1 34), .int x1] M (.inl (some (.long rr))) M := by
  refine CT.of [(0, .ref (g.2.1 34)), (1, .int x1)] (by decide +kernel) (Nat.le_of_ble_eq_true rfl) rfl htr ?_
  intro p e s m args below meth c K hr ht
  skip
  obtain ⟨PHI, hPHI, h⟩ : ∃ PHI : Int64 → Prop, (∀ a, PHI a → a = rr) ∧ wpO (F_Pair_chanceOf x1 M) PHI := ⟨fun a => a = rr, fun _ h => h, _, h, rfl⟩
  unfold F_Pair_chanceOf at h
  refine G_iload_n rfl 1 rfl K dX6_chanceOf_0 ?_
  refine G_if_eq (tgt := 23) K dX6_chanceOf_1 (by decide) (fun hc => ?_) (fun hc => ?_)
  · have h := wpO_t h hc
    refine G_aload_n rfl 0 rfl K dX6_chanceOf_23 ?_
    refine G_get (ci := 6) (k := 0) K rfl in_X6 wd_220 rfl dX6_chanceOf_24 (Nat.le_of_ble_eq_true rfl) (sh_34 _ _) (Nat.le_of_ble_eq_true rfl) rfl ?_
    refine G_get (ci := 10) (k := 3) K rfl in_X10 wd_75 rfl dX6_chanceOf_27 (Nat.le_of_ble_eq_true rfl) (sh_1 _ _) (Nat.le_of_ble_eq_true rfl) rfl ?_
    refine G_i2l K dX6_chanceOf_30 ?_
    cases hPHI _ (wpO_some h)
    exact G_lret K hr dX6_chanceOf_31 (Nat.le_of_ble_eq_true rfl) (Nat.le_of_ble_eq_true rfl) ⟨rfl, rfl⟩
  · have h := wpO_f h hc
    refine G_aload_n rfl 0 rfl K dX6_chanceOf_4 ?_
    refine G_get (ci := 6) (k := 0) K rfl in_X6 wd_220 rfl dX6_chanceOf_5 (Nat.le_of_ble_eq_true rfl) (sh_34 _ _) (Nat.le_of_ble_eq_true rfl) rfl ?_
    refine G_get (ci := 10) (k := 4) K rfl in_X10 wd_79 rfl dX6_chanceOf_8 (Nat.le_of_ble_eq_true rfl) (sh_1 _ _) (Nat.le_of_ble_eq_true rfl) rfl ?_
    refine G_aload_n rfl 0 rfl K dX6_chanceOf_11 ?_
    refine G_get (ci := 6) (k := 0) K rfl in_X6 wd_220 rfl dX6_chanceOf_12 (Nat.le_of_ble_eq_true rfl) (sh_34 _ _) (Nat.le_of_ble_eq_true rfl) rfl ?_
    refine G_get (ci := 10) (k := 3) K rfl in_X10 wd_75 rfl dX6_chanceOf_15 (Nat.le_of_ble_eq_true rfl) (sh_1 _ _) (Nat.le_of_ble_eq_true rfl) rfl ?_
    refine G_isub K dX6_chanceOf_18 ?_
    refine G_i2l K dX6_chanceOf_19 ?_
    refine G_goto (tgt := 31) K dX6_chanceOf_20 (by decide) ?_
    cases hPHI _ (wpO_some h)
    exact G_lret K hr dX6_chanceOf_31 (Nat.le_of_ble_eq_true rfl) (Nat.le_of_ble_eq_true rfl) ⟨rfl, rfl⟩
theorem yd_X7_add : ydN yX7_add 2 := ⟨by decide, by decide, by decide +kernel⟩
theorem yd_X6_chanceOf : ydN yX6_chanceOf 1 := ⟨by decide, by decide, by decide +kernel⟩
theorem wv_1214 : wdV "KeptWell$Pair" 185 yX7_add cX7_add 4 none := ⟨wd_1214, wd_1094, wd_1095, wd_3, wd_1096⟩
theorem wv_1215 : wdV "KeptWell$Pair" 179 yX7_put cX7_put 4 none := ⟨wd_1215, wd_452, wd_453, wd_3, wd_454⟩
theorem wv_1216 : wdV "KeptWell$Pair" 188 yX6_chanceOf cX6_chanceOf 2 (some .long) := ⟨wd_1216, wd_1218, ws_X6_chanceOf, wd_6, wd_1219⟩
def on_X6_fillDoubt : Nat := 0xb18bffa70108849affa7010984b900b6690a1685747700b42b00b42a600c15681b072400b42a0c36605100b608151d1600b42a2b00b42a685100b609151c1200b42a2b00b42a050a3769bc00b6030400a7040700a0051509152abc00b6030400a7040700a0041508152a6600a20509150936037500a2050815083603b300b669854500b605150415042b00b42a06166004681b052800b42ab300b669854500b605150415032b00b42a0616681b052800b42ab900b60616681b082400b42a06376985b600b42b00b42a6985b600b42b00b42a857a00b42b00b42a05363e00b61d1600b42a2b00b42a04363e00b61c1200b42a2b00b42a
theorem ob_X6_fillDoubt : OKB cX6_fillDoubt on_X6_fillDoubt 246 := ⟨by decide +kernel, by decide +kernel⟩
theorem dX6_fillDoubt_0 : dc cX6_fillDoubt 0 1 (.aload_n 0) 1 := o_42 ob_X6_fillDoubt rfl rfl rfl
theorem dX6_fillDoubt_1 : dc cX6_fillDoubt 1 4 (.getfield 43) 3 := o_180 ob_X6_fillDoubt rfl rfl rfl rfl
theorem dX6_fillDoubt_4 : dc cX6_fillDoubt 4 5 (.aload_n 0) 1 := o_42 ob_X6_fillDoubt rfl rfl rfl
theorem dX6_fillDoubt_5 : dc cX6_fillDoubt 5 8 (.getfield 18) 3 := o_180 ob_X6_fillDoubt rfl rfl rfl rfl
theorem dX6_fillDoubt_8 : dc cX6_fillDoubt 8 9 (.iload_n 2) 1 := o_28 ob_X6_fillDoubt rfl rfl rfl
theorem dX6_fillDoubt_9 : dc cX6_fillDoubt 9 12 (.invokevirtual 62) 3 := o_182 ob_X6_fillDoubt rfl rfl rfl rfl
theorem dX6_fillDoubt_12 : dc cX6_fillDoubt 12 14 (.istore 4) 2 := o_54 ob_X6_fillDoubt rfl rfl rfl rfl
theorem dX6_fillDoubt_14 : dc cX6_fillDoubt 14 15 (.aload_n 0) 1 := o_42 ob_X6_fillDoubt rfl rfl rfl
theorem dX6_fillDoubt_15 : dc cX6_fillDoubt 15 18 (.getfield 43) 3 := o_180 ob_X6_fillDoubt rfl rfl rfl rfl
theorem dX6_fillDoubt_18 : dc cX6_fillDoubt 18 19 (.aload_n 0) 1 := o_42 ob_X6_fillDoubt rfl rfl rfl
theorem dX6_fillDoubt_19 : dc cX6_fillDoubt 19 22 (.getfield 22) 3 := o_180 ob_X6_fillDoubt rfl rfl rfl rfl
theorem dX6_fillDoubt_22 : dc cX6_fillDoubt 22 23 (.iload_n 3) 1 := o_29 ob_X6_fillDoubt rfl rfl rfl
theorem dX6_fillDoubt_23 : dc cX6_fillDoubt 23 26 (.invokevirtual 62) 3 := o_182 ob_X6_fillDoubt rfl rfl rfl rfl
theorem dX6_fillDoubt_26 : dc cX6_fillDoubt 26 28 (.istore 5) 2 := o_54 ob_X6_fillDoubt rfl rfl rfl rfl
theorem dX6_fillDoubt_28 : dc cX6_fillDoubt 28 29 (.aload_n 0) 1 := o_42 ob_X6_fillDoubt rfl rfl rfl
theorem dX6_fillDoubt_29 : dc cX6_fillDoubt 29 32 (.getfield 43) 3 := o_180 ob_X6_fillDoubt rfl rfl rfl rfl
theorem dX6_fillDoubt_32 : dc cX6_fillDoubt 32 35 (.getfield 122) 3 := o_180 ob_X6_fillDoubt rfl rfl rfl rfl
theorem dX6_fillDoubt_35 : dc cX6_fillDoubt 35 36 .i2l 1 := o_133 ob_X6_fillDoubt rfl rfl rfl
theorem dX6_fillDoubt_36 : dc cX6_fillDoubt 36 37 (.aload_n 0) 1 := o_42 ob_X6_fillDoubt rfl rfl rfl
theorem dX6_fillDoubt_37 : dc cX6_fillDoubt 37 40 (.getfield 43) 3 := o_180 ob_X6_fillDoubt rfl rfl rfl rfl
theorem dX6_fillDoubt_40 : dc cX6_fillDoubt 40 43 (.getfield 182) 3 := o_180 ob_X6_fillDoubt rfl rfl rfl rfl
theorem dX6_fillDoubt_43 : dc cX6_fillDoubt 43 44 .i2l 1 := o_133 ob_X6_fillDoubt rfl rfl rfl
theorem dX6_fillDoubt_44 : dc cX6_fillDoubt 44 45 .lmul 1 := o_105 ob_X6_fillDoubt rfl rfl rfl
theorem dX6_fillDoubt_45 : dc cX6_fillDoubt 45 46 (.aload_n 0) 1 := o_42 ob_X6_fillDoubt rfl rfl rfl
theorem dX6_fillDoubt_46 : dc cX6_fillDoubt 46 49 (.getfield 43) 3 := o_180 ob_X6_fillDoubt rfl rfl rfl rfl
theorem dX6_fillDoubt_49 : dc cX6_fillDoubt 49 52 (.getfield 182) 3 := o_180 ob_X6_fillDoubt rfl rfl rfl rfl
theorem dX6_fillDoubt_52 : dc cX6_fillDoubt 52 53 .i2l 1 := o_133 ob_X6_fillDoubt rfl rfl rfl
theorem dX6_fillDoubt_53 : dc cX6_fillDoubt 53 54 .lmul 1 := o_105 ob_X6_fillDoubt rfl rfl rfl
theorem dX6_fillDoubt_54 : dc cX6_fillDoubt 54 56 (.lstore 6) 2 := o_55 ob_X6_fillDoubt rfl rfl rfl rfl
theorem dX6_fillDoubt_56 : dc cX6_fillDoubt 56 57 (.aload_n 0) 1 := o_42 ob_X6_fillDoubt rfl rfl rfl
theorem dX6_fillDoubt_57 : dc cX6_fillDoubt 57 60 (.getfield 36) 3 := o_180 ob_X6_fillDoubt rfl rfl rfl rfl
theorem dX6_fillDoubt_60 : dc cX6_fillDoubt 60 61 (.iconst 5) 1 := o_8 ob_X6_fillDoubt rfl rfl rfl
theorem dX6_fillDoubt_61 : dc cX6_fillDoubt 61 62 (.iload_n 1) 1 := o_27 ob_X6_fillDoubt rfl rfl rfl
theorem dX6_fillDoubt_62 : dc cX6_fillDoubt 62 63 .imul 1 := o_104 ob_X6_fillDoubt rfl rfl rfl
theorem dX6_fillDoubt_63 : dc cX6_fillDoubt 63 65 (.lload 6) 2 := o_22 ob_X6_fillDoubt rfl rfl rfl rfl
theorem dX6_fillDoubt_65 : dc cX6_fillDoubt 65 68 (.invokevirtual 185) 3 := o_182 ob_X6_fillDoubt rfl rfl rfl rfl
theorem dX6_fillDoubt_68 : dc cX6_fillDoubt 68 69 (.aload_n 0) 1 := o_42 ob_X6_fillDoubt rfl rfl rfl
theorem dX6_fillDoubt_69 : dc cX6_fillDoubt 69 72 (.getfield 40) 3 := o_180 ob_X6_fillDoubt rfl rfl rfl rfl
theorem dX6_fillDoubt_72 : dc cX6_fillDoubt 72 73 (.iconst 2) 1 := o_5 ob_X6_fillDoubt rfl rfl rfl
theorem dX6_fillDoubt_73 : dc cX6_fillDoubt 73 74 (.iload_n 1) 1 := o_27 ob_X6_fillDoubt rfl rfl rfl
theorem dX6_fillDoubt_74 : dc cX6_fillDoubt 74 75 .imul 1 := o_104 ob_X6_fillDoubt rfl rfl rfl
theorem dX6_fillDoubt_75 : dc cX6_fillDoubt 75 77 (.lload 6) 2 := o_22 ob_X6_fillDoubt rfl rfl rfl rfl
theorem dX6_fillDoubt_77 : dc cX6_fillDoubt 77 78 (.aload_n 0) 1 := o_42 ob_X6_fillDoubt rfl rfl rfl
theorem dX6_fillDoubt_78 : dc cX6_fillDoubt 78 81 (.getfield 43) 3 := o_180 ob_X6_fillDoubt rfl rfl rfl rfl
theorem dX6_fillDoubt_81 : dc cX6_fillDoubt 81 82 (.iconst 0) 1 := o_3 ob_X6_fillDoubt rfl rfl rfl
theorem dX6_fillDoubt_82 : dc cX6_fillDoubt 82 84 (.iload 4) 2 := o_21 ob_X6_fillDoubt rfl rfl rfl rfl
theorem dX6_fillDoubt_84 : dc cX6_fillDoubt 84 86 (.iload 5) 2 := o_21 ob_X6_fillDoubt rfl rfl rfl rfl
theorem dX6_fillDoubt_86 : dc cX6_fillDoubt 86 89 (.invokevirtual 69) 3 := o_182 ob_X6_fillDoubt rfl rfl rfl rfl
theorem dX6_fillDoubt_89 : dc cX6_fillDoubt 89 90 .i2l 1 := o_133 ob_X6_fillDoubt rfl rfl rfl
theorem dX6_fillDoubt_90 : dc cX6_fillDoubt 90 91 .lmul 1 := o_105 ob_X6_fillDoubt rfl rfl rfl
theorem dX6_fillDoubt_91 : dc cX6_fillDoubt 91 94 (.invokevirtual 179) 3 := o_182 ob_X6_fillDoubt rfl rfl rfl rfl
theorem dX6_fillDoubt_94 : dc cX6_fillDoubt 94 95 (.aload_n 0) 1 := o_42 ob_X6_fillDoubt rfl rfl rfl
theorem dX6_fillDoubt_95 : dc cX6_fillDoubt 95 98 (.getfield 40) 3 := o_180 ob_X6_fillDoubt rfl rfl rfl rfl
theorem dX6_fillDoubt_98 : dc cX6_fillDoubt 98 99 (.iconst 2) 1 := o_5 ob_X6_fillDoubt rfl rfl rfl
theorem dX6_fillDoubt_99 : dc cX6_fillDoubt 99 100 (.iload_n 1) 1 := o_27 ob_X6_fillDoubt rfl rfl rfl
theorem dX6_fillDoubt_100 : dc cX6_fillDoubt 100 101 .imul 1 := o_104 ob_X6_fillDoubt rfl rfl rfl
theorem dX6_fillDoubt_101 : dc cX6_fillDoubt 101 102 (.iconst 1) 1 := o_4 ob_X6_fillDoubt rfl rfl rfl
theorem dX6_fillDoubt_102 : dc cX6_fillDoubt 102 103 .iadd 1 := o_96 ob_X6_fillDoubt rfl rfl rfl
theorem dX6_fillDoubt_103 : dc cX6_fillDoubt 103 105 (.lload 6) 2 := o_22 ob_X6_fillDoubt rfl rfl rfl rfl
theorem dX6_fillDoubt_105 : dc cX6_fillDoubt 105 106 (.aload_n 0) 1 := o_42 ob_X6_fillDoubt rfl rfl rfl
theorem dX6_fillDoubt_106 : dc cX6_fillDoubt 106 109 (.getfield 43) 3 := o_180 ob_X6_fillDoubt rfl rfl rfl rfl
theorem dX6_fillDoubt_109 : dc cX6_fillDoubt 109 110 (.iconst 1) 1 := o_4 ob_X6_fillDoubt rfl rfl rfl
theorem dX6_fillDoubt_110 : dc cX6_fillDoubt 110 112 (.iload 4) 2 := o_21 ob_X6_fillDoubt rfl rfl rfl rfl
theorem dX6_fillDoubt_112 : dc cX6_fillDoubt 112 114 (.iload 5) 2 := o_21 ob_X6_fillDoubt rfl rfl rfl rfl
theorem dX6_fillDoubt_114 : dc cX6_fillDoubt 114 117 (.invokevirtual 69) 3 := o_182 ob_X6_fillDoubt rfl rfl rfl rfl
theorem dX6_fillDoubt_117 : dc cX6_fillDoubt 117 118 .i2l 1 := o_133 ob_X6_fillDoubt rfl rfl rfl
theorem dX6_fillDoubt_118 : dc cX6_fillDoubt 118 119 .lmul 1 := o_105 ob_X6_fillDoubt rfl rfl rfl
theorem dX6_fillDoubt_119 : dc cX6_fillDoubt 119 122 (.invokevirtual 179) 3 := o_182 ob_X6_fillDoubt rfl rfl rfl rfl
theorem dX6_fillDoubt_122 : dc cX6_fillDoubt 122 123 (.iconst 0) 1 := o_3 ob_X6_fillDoubt rfl rfl rfl
theorem dX6_fillDoubt_123 : dc cX6_fillDoubt 123 125 (.istore 8) 2 := o_54 ob_X6_fillDoubt rfl rfl rfl rfl
theorem dX6_fillDoubt_125 : dc cX6_fillDoubt 125 127 (.iload 8) 2 := o_21 ob_X6_fillDoubt rfl rfl rfl rfl
theorem dX6_fillDoubt_127 : dc cX6_fillDoubt 127 128 (.iconst 2) 1 := o_5 ob_X6_fillDoubt rfl rfl rfl
theorem dX6_fillDoubt_128 : dc cX6_fillDoubt 128 131 (.if_icmp .ge 117) 3 := o_162 ob_X6_fillDoubt rfl rfl rfl rfl
theorem dX6_fillDoubt_131 : dc cX6_fillDoubt 131 132 (.iconst 0) 1 := o_3 ob_X6_fillDoubt rfl rfl rfl
theorem dX6_fillDoubt_132 : dc cX6_fillDoubt 132 134 (.istore 9) 2 := o_54 ob_X6_fillDoubt rfl rfl rfl rfl
theorem dX6_fillDoubt_134 : dc cX6_fillDoubt 134 136 (.iload 9) 2 := o_21 ob_X6_fillDoubt rfl rfl rfl rfl
theorem dX6_fillDoubt_136 : dc cX6_fillDoubt 136 137 (.iconst 2) 1 := o_5 ob_X6_fillDoubt rfl rfl rfl
theorem dX6_fillDoubt_137 : dc cX6_fillDoubt 137 140 (.if_icmp .ge 102) 3 := o_162 ob_X6_fillDoubt rfl rfl rfl rfl
theorem dX6_fillDoubt_140 : dc cX6_fillDoubt 140 141 (.aload_n 0) 1 := o_42 ob_X6_fillDoubt rfl rfl rfl
theorem dX6_fillDoubt_141 : dc cX6_fillDoubt 141 143 (.iload 8) 2 := o_21 ob_X6_fillDoubt rfl rfl rfl rfl
theorem dX6_fillDoubt_143 : dc cX6_fillDoubt 143 145 (.iload 4) 2 := o_21 ob_X6_fillDoubt rfl rfl rfl rfl
theorem dX6_fillDoubt_145 : dc cX6_fillDoubt 145 148 (.if_icmp .ne 7) 3 := o_160 ob_X6_fillDoubt rfl rfl rfl rfl
theorem dX6_fillDoubt_148 : dc cX6_fillDoubt 148 149 (.iconst 1) 1 := o_4 ob_X6_fillDoubt rfl rfl rfl
theorem dX6_fillDoubt_149 : dc cX6_fillDoubt 149 152 (.goto 4) 3 := o_167 ob_X6_fillDoubt rfl rfl rfl rfl
theorem dX6_fillDoubt_152 : dc cX6_fillDoubt 152 153 (.iconst 0) 1 := o_3 ob_X6_fillDoubt rfl rfl rfl
theorem dX6_fillDoubt_153 : dc cX6_fillDoubt 153 156 (.invokevirtual 188) 3 := o_182 ob_X6_fillDoubt rfl rfl rfl rfl
theorem dX6_fillDoubt_156 : dc cX6_fillDoubt 156 157 (.aload_n 0) 1 := o_42 ob_X6_fillDoubt rfl rfl rfl
theorem dX6_fillDoubt_157 : dc cX6_fillDoubt 157 159 (.iload 9) 2 := o_21 ob_X6_fillDoubt rfl rfl rfl rfl
theorem dX6_fillDoubt_159 : dc cX6_fillDoubt 159 161 (.iload 5) 2 := o_21 ob_X6_fillDoubt rfl rfl rfl rfl
theorem dX6_fillDoubt_161 : dc cX6_fillDoubt 161 164 (.if_icmp .ne 7) 3 := o_160 ob_X6_fillDoubt rfl rfl rfl rfl
theorem dX6_fillDoubt_164 : dc cX6_fillDoubt 164 165 (.iconst 1) 1 := o_4 ob_X6_fillDoubt rfl rfl rfl
theorem dX6_fillDoubt_165 : dc cX6_fillDoubt 165 168 (.goto 4) 3 := o_167 ob_X6_fillDoubt rfl rfl rfl rfl
theorem dX6_fillDoubt_168 : dc cX6_fillDoubt 168 169 (.iconst 0) 1 := o_3 ob_X6_fillDoubt rfl rfl rfl
theorem dX6_fillDoubt_169 : dc cX6_fillDoubt 169 172 (.invokevirtual 188) 3 := o_182 ob_X6_fillDoubt rfl rfl rfl rfl
theorem dX6_fillDoubt_172 : dc cX6_fillDoubt 172 173 .lmul 1 := o_105 ob_X6_fillDoubt rfl rfl rfl
theorem dX6_fillDoubt_173 : dc cX6_fillDoubt 173 175 (.lstore 10) 2 := o_55 ob_X6_fillDoubt rfl rfl rfl rfl
theorem dX6_fillDoubt_175 : dc cX6_fillDoubt 175 176 (.iconst 2) 1 := o_5 ob_X6_fillDoubt rfl rfl rfl
theorem dX6_fillDoubt_176 : dc cX6_fillDoubt 176 177 (.aload_n 0) 1 := o_42 ob_X6_fillDoubt rfl rfl rfl
theorem dX6_fillDoubt_177 : dc cX6_fillDoubt 177 180 (.getfield 43) 3 := o_180 ob_X6_fillDoubt rfl rfl rfl rfl
theorem dX6_fillDoubt_180 : dc cX6_fillDoubt 180 181 (.aload_n 0) 1 := o_42 ob_X6_fillDoubt rfl rfl rfl
theorem dX6_fillDoubt_181 : dc cX6_fillDoubt 181 184 (.getfield 18) 3 := o_180 ob_X6_fillDoubt rfl rfl rfl rfl
theorem dX6_fillDoubt_184 : dc cX6_fillDoubt 184 185 (.iload_n 2) 1 := o_28 ob_X6_fillDoubt rfl rfl rfl
theorem dX6_fillDoubt_185 : dc cX6_fillDoubt 185 187 (.iload 9) 2 := o_21 ob_X6_fillDoubt rfl rfl rfl rfl
theorem dX6_fillDoubt_187 : dc cX6_fillDoubt 187 190 (.invokevirtual 81) 3 := o_182 ob_X6_fillDoubt rfl rfl rfl rfl
theorem dX6_fillDoubt_190 : dc cX6_fillDoubt 190 191 .imul 1 := o_104 ob_X6_fillDoubt rfl rfl rfl
theorem dX6_fillDoubt_191 : dc cX6_fillDoubt 191 192 (.aload_n 0) 1 := o_42 ob_X6_fillDoubt rfl rfl rfl
theorem dX6_fillDoubt_192 : dc cX6_fillDoubt 192 195 (.getfield 43) 3 := o_180 ob_X6_fillDoubt rfl rfl rfl rfl
theorem dX6_fillDoubt_195 : dc cX6_fillDoubt 195 196 (.aload_n 0) 1 := o_42 ob_X6_fillDoubt rfl rfl rfl
theorem dX6_fillDoubt_196 : dc cX6_fillDoubt 196 199 (.getfield 22) 3 := o_180 ob_X6_fillDoubt rfl rfl rfl rfl
theorem dX6_fillDoubt_199 : dc cX6_fillDoubt 199 200 (.iload_n 3) 1 := o_29 ob_X6_fillDoubt rfl rfl rfl
theorem dX6_fillDoubt_200 : dc cX6_fillDoubt 200 202 (.iload 8) 2 := o_21 ob_X6_fillDoubt rfl rfl rfl rfl
theorem dX6_fillDoubt_202 : dc cX6_fillDoubt 202 205 (.invokevirtual 81) 3 := o_182 ob_X6_fillDoubt rfl rfl rfl rfl
theorem dX6_fillDoubt_205 : dc cX6_fillDoubt 205 206 .iadd 1 := o_96 ob_X6_fillDoubt rfl rfl rfl
theorem dX6_fillDoubt_206 : dc cX6_fillDoubt 206 208 (.istore 12) 2 := o_54 ob_X6_fillDoubt rfl rfl rfl rfl
theorem dX6_fillDoubt_208 : dc cX6_fillDoubt 208 209 (.aload_n 0) 1 := o_42 ob_X6_fillDoubt rfl rfl rfl
theorem dX6_fillDoubt_209 : dc cX6_fillDoubt 209 212 (.getfield 36) 3 := o_180 ob_X6_fillDoubt rfl rfl rfl rfl
theorem dX6_fillDoubt_212 : dc cX6_fillDoubt 212 213 (.iconst 4) 1 := o_7 ob_X6_fillDoubt rfl rfl rfl
theorem dX6_fillDoubt_213 : dc cX6_fillDoubt 213 214 (.iload_n 1) 1 := o_27 ob_X6_fillDoubt rfl rfl rfl
theorem dX6_fillDoubt_214 : dc cX6_fillDoubt 214 215 .imul 1 := o_104 ob_X6_fillDoubt rfl rfl rfl
theorem dX6_fillDoubt_215 : dc cX6_fillDoubt 215 217 (.iload 12) 2 := o_21 ob_X6_fillDoubt rfl rfl rfl rfl
theorem dX6_fillDoubt_217 : dc cX6_fillDoubt 217 218 .iadd 1 := o_96 ob_X6_fillDoubt rfl rfl rfl
theorem dX6_fillDoubt_218 : dc cX6_fillDoubt 218 219 (.aload_n 0) 1 := o_42 ob_X6_fillDoubt rfl rfl rfl
theorem dX6_fillDoubt_219 : dc cX6_fillDoubt 219 222 (.getfield 43) 3 := o_180 ob_X6_fillDoubt rfl rfl rfl rfl
theorem dX6_fillDoubt_222 : dc cX6_fillDoubt 222 225 (.getfield 119) 3 := o_180 ob_X6_fillDoubt rfl rfl rfl rfl
theorem dX6_fillDoubt_225 : dc cX6_fillDoubt 225 226 .ineg 1 := o_116 ob_X6_fillDoubt rfl rfl rfl
theorem dX6_fillDoubt_226 : dc cX6_fillDoubt 226 227 .i2l 1 := o_133 ob_X6_fillDoubt rfl rfl rfl
theorem dX6_fillDoubt_227 : dc cX6_fillDoubt 227 229 (.lload 10) 2 := o_22 ob_X6_fillDoubt rfl rfl rfl rfl
theorem dX6_fillDoubt_229 : dc cX6_fillDoubt 229 230 .lmul 1 := o_105 ob_X6_fillDoubt rfl rfl rfl
theorem dX6_fillDoubt_230 : dc cX6_fillDoubt 230 233 (.invokevirtual 185) 3 := o_182 ob_X6_fillDoubt rfl rfl rfl rfl
theorem dX6_fillDoubt_233 : dc cX6_fillDoubt 233 236 (.iinc 9 1) 3 := o_132 ob_X6_fillDoubt rfl rfl rfl rfl rfl
theorem dX6_fillDoubt_236 : dc cX6_fillDoubt 236 239 (.goto (-102)) 3 := o_167 ob_X6_fillDoubt rfl rfl rfl rfl
theorem dX6_fillDoubt_239 : dc cX6_fillDoubt 239 242 (.iinc 8 1) 3 := o_132 ob_X6_fillDoubt rfl rfl rfl rfl rfl
theorem dX6_fillDoubt_242 : dc cX6_fillDoubt 242 245 (.goto (-117)) 3 := o_167 ob_X6_fillDoubt rfl rfl rfl rfl
theorem dX6_fillDoubt_245 : dc cX6_fillDoubt 245 246 .return_ 1 := o_177 ob_X6_fillDoubt rfl rfl rfl
def F_Pair_fillDoubt_j169 (x1 : Int32) (x2 : Int32) (x3 : Int32) (x4 : Int32) (x5 : Int32) (x8 : Int32) (x9 : Int32) (s0 : Int64) (s2 : Bool) (M : Mem) : Option ((Int32 × Mem) ⊕ ((Mem))) :=
  (F_Pair_chanceOf ((b2i s2)) M).bind fun r9 => (F_Well_nextOf (M.1 34 2) x2 x9 M).bind fun r10 => (F_Well_nextOf (M.1 34 3) x3 x8 M).bind fun r11 => (F_Row_add 49 16 ((4 * x1) + ((2 * r10) + r11)) (((-(M.1 1 1)).toInt64) * (s0 * r9)) M).bind fun r12 => some (.inl ((x9 + 1, r12)))
def F_Pair_fillDoubt_j153 (x1 : Int32) (x2 : Int32) (x3 : Int32) (x4 : Int32) (x5 : Int32) (x8 : Int32) (x9 : Int32) (s1 : Bool) (M : Mem) : Option ((Int32 × Mem) ⊕ ((Mem))) :=
  (F_Pair_chanceOf ((b2i s1)) M).bind fun r8 => if x9 = x5 then F_Pair_fillDoubt_j169 x1 x2 x3 x4 x5 x8 x9 r8 true M else F_Pair_fillDoubt_j169 x1 x2 x3 x4 x5 x8 x9 r8 false M
def F_Pair_fillDoubt_b134 (x1 : Int32) (x2 : Int32) (x3 : Int32) (x4 : Int32) (x5 : Int32) (x8 : Int32) (z : Int32 × Mem) : Option ((Int32 × Mem) ⊕ ((Mem))) :=
  if 2 ≤ z.1 then some (.inr z.2) else if x8 = x4 then F_Pair_fillDoubt_j153 x1 x2 x3 x4 x5 x8 z.1 true z.2 else F_Pair_fillDoubt_j153 x1 x2 x3 x4 x5 x8 z.1 false z.2
def F_Pair_fillDoubt_l134 (x1 : Int32) (x2 : Int32) (x3 : Int32) (x4 : Int32) (x5 : Int32) (x8 : Int32) (x9 : Int32) (M : Mem) : Option ((Int32 × Mem) ⊕ ((Mem))) :=
  (iter (F_Pair_fillDoubt_b134 x1 x2 x3 x4 x5 x8) FUEL (x9, M)).bind fun r => some (.inl ((x8 + 1, r)))
def F_Pair_fillDoubt_b125 (x1 : Int32) (x2 : Int32) (x3 : Int32) (x4 : Int32) (x5 : Int32) (z : Int32 × Mem) : Option ((Int32 × Mem) ⊕ ((Mem))) :=
  if 2 ≤ z.1 then some (.inr z.2) else F_Pair_fillDoubt_l134 x1 x2 x3 x4 x5 z.1 0 z.2
def F_Pair_fillDoubt_l125 (x1 : Int32) (x2 : Int32) (x3 : Int32) (x4 : Int32) (x5 : Int32) (x8 : Int32) (M : Mem) : Option (Mem) :=
  (iter (F_Pair_fillDoubt_b125 x1 x2 x3 x4 x5) FUEL (x8, M)).bind fun r => some r
def F_Pair_fillDoubt (x1 : Int32) (x2 : Int32) (x3 : Int32) (M : Mem) : Option (Mem) :=
  (F_Well_actOf (M.1 34 2) x2 M).bind fun r1 => (F_Well_actOf (M.1 34 3) x3 M).bind fun r2 => (F_Row_add 49 16 (5 * x1) ((((M.1 1 2).toInt64) * ((M.1 1 4).toInt64)) * ((M.1 1 4).toInt64)) M).bind fun r3 => (F_Well_bringsTo 0 r1 r2 r3).bind fun r4 => (F_Row_put 51 8 (2 * x1) (((((M.1 1 2).toInt64) * ((M.1 1 4).toInt64)) * ((M.1 1 4).toInt64)) * r4.toInt64) r3).bind fun r5 => (F_Well_bringsTo 1 r1 r2 r5).bind fun r6 => (F_Row_put 51 8 ((2 * x1) + 1) (((((M.1 1 2).toInt64) * ((M.1 1 4).toInt64)) * ((M.1 1 4).toInt64)) * r6.toInt64) r5).bind fun r7 => F_Pair_fillDoubt_l125 x1 x2 x3 r1 r2 0 r7
set_option maxRecDepth 100000 in
set_option maxHeartbeats 4000000 in
theorem K_Pair_fillDoubt (l : Launch) (g : GB) (htr : l.stackTraces = false) (x1 : Int32) (x2 : Int32) (x3 : Int32) (M : Mem) (MZ : Mem) (h : F_Pair_fillDoubt x1 x2 x3 M = some MZ) : CT l g yX6_fillDoubt (.code yX6_fillDoubt cX6_fillDoubt 13 none :: wAll) { frames := 2, cells := 0, slots := 0, locals := 46 } [.ref (g.2.1 34), .int x1, .int x2, .int x3] M (.inl none) MZ := by
  refine CT.of [(0, .ref (g.2.1 34)), (1, .int x1), (2, .int x2), (3, .int x3)] (by decide +kernel) (Nat.le_of_ble_eq_true rfl) rfl htr ?_
  intro p e s m args below meth c K hr ht
  skip
  obtain ⟨PHI, hPHI, h⟩ : ∃ PHI : Mem → Prop, (∀ a, PHI a → a = MZ) ∧ wpO (F_Pair_fillDoubt x1 x2 x3 M) PHI := ⟨fun a => a = MZ, fun _ h => h, _, h, rfl⟩
  have J125 : ∀ (x1 : Int32) (x2 : Int32) (x3 : Int32) (x4 : Int32) (x5 : Int32) (x8 : Int32) (M : Mem), wpO (F_Pair_fillDoubt_l125 x1 x2 x3 x4 x5 x8 M) PHI → GG p l e { frames := 2, cells := 0, slots := 0, locals := 46 } s m args below meth c g 13 (vx_MQ below (Qn g s.heap.size (.inl none) MZ) (QX g s.heap.size (.inl none) MZ) args s 0 0 (AS g s.heap.size)) 0 0 125 [(0, .ref (g.2.1 34)), (1, .int x1), (2, .int x2), (3, .int x3), (4, .int x4), (5, .int x5), (8, .int x8)] [] M := by
    intro x1 x2 x3 x4 x5 x8 M h
    unfold F_Pair_fillDoubt_l125 at h
    refine loop_C2 (G := fun (x8 : Int32) (M : Mem) => GG p l e { frames := 2, cells := 0, slots := 0, locals := 46 } s m args below meth c g 13 (vx_MQ below (Qn g s.heap.size (.inl none) MZ) (QX g s.heap.size (.inl none) MZ) args s 0 0 (AS g s.heap.size)) 0 0 125 [(0, .ref (g.2.1 34)), (1, .int x1), (2, .int x2), (3, .int x3), (4, .int x4), (5, .int x5), (8, .int x8)] [] M) (body := F_Pair_fillDoubt_b125 x1 x2 x3 x4 x5) ?_ FUEL _ _ (wpO_bind h)
    intro P125 E125 X125
    have J134 : ∀ (x8 : Int32) (x9 : Int32) (M : Mem), wpO (F_Pair_fillDoubt_l134 x1 x2 x3 x4 x5 x8 x9 M) P125 → GG p l e { frames := 2, cells := 0, slots := 0, locals := 46 } s m args below meth c g 13 (vx_MQ below (Qn g s.heap.size (.inl none) MZ) (QX g s.heap.size (.inl none) MZ) args s 0 0 (AS g s.heap.size)) 0 0 134 [(0, .ref (g.2.1 34)), (1, .int x1), (2, .int x2), (3, .int x3), (4, .int x4), (5, .int x5), (8, .int x8), (9, .int x9)] [] M := by
      intro x8 x9 M h
      unfold F_Pair_fillDoubt_l134 at h
      refine loop_C2 (G := fun (x9 : Int32) (M : Mem) => GG p l e { frames := 2, cells := 0, slots := 0, locals := 46 } s m args below meth c g 13 (vx_MQ below (Qn g s.heap.size (.inl none) MZ) (QX g s.heap.size (.inl none) MZ) args s 0 0 (AS g s.heap.size)) 0 0 134 [(0, .ref (g.2.1 34)), (1, .int x1), (2, .int x2), (3, .int x3), (4, .int x4), (5, .int x5), (8, .int x8), (9, .int x9)] [] M) (body := F_Pair_fillDoubt_b134 x1 x2 x3 x4 x5 x8) ?_ FUEL _ _ (wpO_bind h)
      intro P134 E134 X134
      have J169 : ∀ (x9 : Int32) (s0 : Int64) (s2 : Bool) (M : Mem), wpO (F_Pair_fillDoubt_j169 x1 x2 x3 x4 x5 x8 x9 s0 s2 M) P134 → GG p l e { frames := 2, cells := 0, slots := 0, locals := 46 } s m args below meth c g 13 (vx_MQ below (Qn g s.heap.size (.inl none) MZ) (QX g s.heap.size (.inl none) MZ) args s 0 0 (AS g s.heap.size)) 0 0 169 [(0, .ref (g.2.1 34)), (1, .int x1), (2, .int x2), (3, .int x3), (4, .int x4), (5, .int x5), (8, .int x8), (9, .int x9)] [.int ((b2i s2)), .ref (g.2.1 34), .long s0] M := by
        intro x9 s0 s2 M h
        unfold F_Pair_fillDoubt_j169 at h
        obtain ⟨r9, e9, h⟩ := wpO_bind h
        refine G_callVl (ci := 6) [.int ((b2i s2))] [.long s0] K dX6_fillDoubt_169 wv_1216 yd_X6_chanceOf (Nat.le_of_ble_eq_true rfl) (sh_34 _ _) rfl (by decide) (by decide) rfl rfl (Nat.le_of_ble_eq_true rfl) (K_Pair_chanceOf l g htr ((b2i s2)) M _ e9) ?_
        refine G_lmul K dX6_fillDoubt_172 ?_
        refine G_lstore K dX6_fillDoubt_173 (Nat.le_of_ble_eq_true rfl) rfl ?_
        refine G_iconst (v := 2) rfl K dX6_fillDoubt_175 ?_
        refine G_aload_n rfl 1 rfl K dX6_fillDoubt_176 ?_
        refine G_get (ci := 6) (k := 0) K rfl in_X6 wd_220 rfl dX6_fillDoubt_177 (Nat.le_of_ble_eq_true rfl) (sh_34 _ _) (Nat.le_of_ble_eq_true rfl) rfl ?_
        refine G_aload_n rfl 1 rfl K dX6_fillDoubt_180 ?_
        refine G_get (ci := 6) (k := 2) K rfl in_X6 wd_222 rfl dX6_fillDoubt_181 (Nat.le_of_ble_eq_true rfl) (sh_34 _ _) (Nat.le_of_ble_eq_true rfl) rfl ?_
        refine G_iload_n rfl 3 rfl K dX6_fillDoubt_184 ?_
        refine G_iload 8 rfl K dX6_fillDoubt_185 ?_
        obtain ⟨r10, e10, h⟩ := wpO_bind h
        refine G_callVi (ci := 10) [.int (M.1 34 2), .int x2, .int x9] [.int 2] K dX6_fillDoubt_187 wv_510 yd_X10_nextOf (Nat.le_of_ble_eq_true rfl) (sh_1 _ _) rfl (by decide) (by decide) rfl rfl (Nat.le_of_ble_eq_true rfl) (K_Well_nextOf l g htr (M.1 34 2) x2 x9 M _ e10) ?_
        refine G_imul K dX6_fillDoubt_190 ?_
        refine G_aload_n rfl 1 rfl K dX6_fillDoubt_191 ?_
        refine G_get (ci := 6) (k := 0) K rfl in_X6 wd_220 rfl dX6_fillDoubt_192 (Nat.le_of_ble_eq_true rfl) (sh_34 _ _) (Nat.le_of_ble_eq_true rfl) rfl ?_
        refine G_aload_n rfl 1 rfl K dX6_fillDoubt_195 ?_
        refine G_get (ci := 6) (k := 3) K rfl in_X6 wd_223 rfl dX6_fillDoubt_196 (Nat.le_of_ble_eq_true rfl) (sh_34 _ _) (Nat.le_of_ble_eq_true rfl) rfl ?_
        refine G_iload_n rfl 4 rfl K dX6_fillDoubt_199 ?_
        refine G_iload 7 rfl K dX6_fillDoubt_200 ?_
        obtain ⟨r11, e11, h⟩ := wpO_bind h
        refine G_callVi (ci := 10) [.int (M.1 34 3), .int x3, .int x8] [.int (2 * r10)] K dX6_fillDoubt_202 wv_510 yd_X10_nextOf (Nat.le_of_ble_eq_true rfl) (sh_1 _ _) rfl (by decide) (by decide) rfl rfl (Nat.le_of_ble_eq_true rfl) (K_Well_nextOf l g htr (M.1 34 3) x3 x8 M _ e11) ?_
        refine G_iadd K dX6_fillDoubt_205 ?_
        refine G_istore K dX6_fillDoubt_206 (Nat.le_of_ble_eq_true rfl) rfl ?_
        refine G_aload_n rfl 2 rfl K dX6_fillDoubt_208 ?_
        refine G_get (ci := 6) (k := 6) K rfl in_X6 wd_226 rfl dX6_fillDoubt_209 (Nat.le_of_ble_eq_true rfl) (sh_34 _ _) (Nat.le_of_ble_eq_true rfl) rfl ?_
        refine G_iconst (v := 4) rfl K dX6_fillDoubt_212 ?_
        refine G_iload_n rfl 3 rfl K dX6_fillDoubt_213 ?_
        refine G_imul K dX6_fillDoubt_214 ?_
        refine G_iload 0 rfl K dX6_fillDoubt_215 ?_
        refine G_iadd K dX6_fillDoubt_217 ?_
        refine G_aload_n rfl 2 rfl K dX6_fillDoubt_218 ?_
        refine G_get (ci := 6) (k := 0) K rfl in_X6 wd_220 rfl dX6_fillDoubt_219 (Nat.le_of_ble_eq_true rfl) (sh_34 _ _) (Nat.le_of_ble_eq_true rfl) rfl ?_
        refine G_get (ci := 10) (k := 1) K rfl in_X10 wd_65 rfl dX6_fillDoubt_222 (Nat.le_of_ble_eq_true rfl) (sh_1 _ _) (Nat.le_of_ble_eq_true rfl) rfl ?_
        refine G_ineg K dX6_fillDoubt_225 ?_
        refine G_i2l K dX6_fillDoubt_226 ?_
        refine G_lload 1 rfl K dX6_fillDoubt_227 ?_
        refine G_lmul K dX6_fillDoubt_229 ?_
        obtain ⟨r12, e12, h⟩ := wpO_bind h
        refine G_callVv (ci := 7) [.int ((4 * x1) + ((2 * r10) + r11)), .long (((-(M.1 1 1)).toInt64) * (s0 * r9))] [] K dX6_fillDoubt_230 wv_1214 yd_X7_add (Nat.le_of_ble_eq_true rfl) (sh_48 _ _) rfl (by decide) (by decide) rfl rfl (Nat.le_of_ble_eq_true rfl) (K_Row_add l g htr 48 49 16 isRow_48 ((4 * x1) + ((2 * r10) + r11)) (((-(M.1 1 1)).toInt64) * (s0 * r9)) M _ e12) ?_
        refine G_iinc (v := x9 + 1) 9 rfl K dX6_fillDoubt_233 rfl (Nat.le_of_ble_eq_true rfl) rfl ?_
        refine G_goto (tgt := 134) K dX6_fillDoubt_236 (by decide) ?_
        exact G_lv (lv' := [(0, .ref (g.2.1 34)), (1, .int x1), (2, .int x2), (3, .int x3), (4, .int x4), (5, .int x5), (8, .int x8), (9, .int (x9 + 1))]) [3, 4, 5, 6, 7, 8, 9, 0] rfl (E134 (x9 + 1) r12 (wpO_some h))
      have J153 : ∀ (x9 : Int32) (s1 : Bool) (M : Mem), wpO (F_Pair_fillDoubt_j153 x1 x2 x3 x4 x5 x8 x9 s1 M) P134 → GG p l e { frames := 2, cells := 0, slots := 0, locals := 46 } s m args below meth c g 13 (vx_MQ below (Qn g s.heap.size (.inl none) MZ) (QX g s.heap.size (.inl none) MZ) args s 0 0 (AS g s.heap.size)) 0 0 153 [(0, .ref (g.2.1 34)), (1, .int x1), (2, .int x2), (3, .int x3), (4, .int x4), (5, .int x5), (8, .int x8), (9, .int x9)] [.int ((b2i s1)), .ref (g.2.1 34)] M := by
        intro x9 s1 M h
        unfold F_Pair_fillDoubt_j153 at h
        obtain ⟨r8, e8, h⟩ := wpO_bind h
        refine G_callVl (ci := 6) [.int ((b2i s1))] [] K dX6_fillDoubt_153 wv_1216 yd_X6_chanceOf (Nat.le_of_ble_eq_true rfl) (sh_34 _ _) rfl (by decide) (by decide) rfl rfl (Nat.le_of_ble_eq_true rfl) (K_Pair_chanceOf l g htr ((b2i s1)) M _ e8) ?_
        refine G_aload_n rfl 0 rfl K dX6_fillDoubt_156 ?_
        refine G_iload 7 rfl K dX6_fillDoubt_157 ?_
        refine G_iload 5 rfl K dX6_fillDoubt_159 ?_
        refine G_icmp_ne (tgt := 168) K dX6_fillDoubt_161 (by decide) (fun hc => ?_) (fun hc => ?_)
        · have h := wpO_f h hc
          refine G_iconst (v := 0) rfl K dX6_fillDoubt_168 ?_
          exact J169 x9 r8 false M h
        · have h := wpO_t h hc
          refine G_iconst (v := 1) rfl K dX6_fillDoubt_164 ?_
          refine G_goto (tgt := 169) K dX6_fillDoubt_165 (by decide) ?_
          exact J169 x9 r8 true M h
      intro z h
      unfold F_Pair_fillDoubt_b134 at h
      refine G_iload 7 rfl K dX6_fillDoubt_134 ?_
      refine G_iconst (v := 2) rfl K dX6_fillDoubt_136 ?_
      refine G_icmp_ge (tgt := 239) K dX6_fillDoubt_137 (by decide) (fun hc => ?_) (fun hc => ?_)
      · have h := wpO_t h hc
        have h := X134 _ (wpO_some h)
        try dsimp only at h
        refine G_iinc (v := x8 + 1) 6 rfl K dX6_fillDoubt_239 rfl (Nat.le_of_ble_eq_true rfl) rfl ?_
        refine G_goto (tgt := 125) K dX6_fillDoubt_242 (by decide) ?_
        exact G_lv (lv' := [(0, .ref (g.2.1 34)), (1, .int x1), (2, .int x2), (3, .int x3), (4, .int x4), (5, .int x5), (8, .int (x8 + 1))]) [1, 2, 3, 4, 5, 6, 0] rfl (E125 (x8 + 1) z.2 (wpO_some h))
      · have h := wpO_f h hc
        refine G_aload_n rfl 0 rfl K dX6_fillDoubt_140 ?_
        refine G_iload 6 rfl K dX6_fillDoubt_141 ?_
        refine G_iload 4 rfl K dX6_fillDoubt_143 ?_
        refine G_icmp_ne (tgt := 152) K dX6_fillDoubt_145 (by decide) (fun hc => ?_) (fun hc => ?_)
        · have h := wpO_f h hc
          refine G_iconst (v := 0) rfl K dX6_fillDoubt_152 ?_
          exact J153 z.1 false z.2 h
        · have h := wpO_t h hc
          refine G_iconst (v := 1) rfl K dX6_fillDoubt_148 ?_
          refine G_goto (tgt := 153) K dX6_fillDoubt_149 (by decide) ?_
          exact J153 z.1 true z.2 h
    intro z h
    unfold F_Pair_fillDoubt_b125 at h
    refine G_iload 6 rfl K dX6_fillDoubt_125 ?_
    refine G_iconst (v := 2) rfl K dX6_fillDoubt_127 ?_
    refine G_icmp_ge (tgt := 245) K dX6_fillDoubt_128 (by decide) (fun hc => ?_) (fun hc => ?_)
    · have h := wpO_t h hc
      have h := X125 _ (wpO_some h)
      try dsimp only at h
      cases hPHI _ (wpO_some h)
      exact G_vret K hr dX6_fillDoubt_245 (Nat.le_of_ble_eq_true rfl) (Nat.le_of_ble_eq_true rfl) ⟨rfl, rfl⟩
    · have h := wpO_f h hc
      refine G_iconst (v := 0) rfl K dX6_fillDoubt_131 ?_
      refine G_istore K dX6_fillDoubt_132 (Nat.le_of_ble_eq_true rfl) rfl ?_
      exact G_lv (lv' := [(0, .ref (g.2.1 34)), (1, .int x1), (2, .int x2), (3, .int x3), (4, .int x4), (5, .int x5), (8, .int z.1), (9, .int 0)]) [1, 2, 3, 4, 5, 6, 7, 0] rfl (J134 z.1 0 z.2 h)
  unfold F_Pair_fillDoubt at h
  refine G_aload_n rfl 0 rfl K dX6_fillDoubt_0 ?_
  refine G_get (ci := 6) (k := 0) K rfl in_X6 wd_220 rfl dX6_fillDoubt_1 (Nat.le_of_ble_eq_true rfl) (sh_34 _ _) (Nat.le_of_ble_eq_true rfl) rfl ?_
  refine G_aload_n rfl 0 rfl K dX6_fillDoubt_4 ?_
  refine G_get (ci := 6) (k := 2) K rfl in_X6 wd_222 rfl dX6_fillDoubt_5 (Nat.le_of_ble_eq_true rfl) (sh_34 _ _) (Nat.le_of_ble_eq_true rfl) rfl ?_
  refine G_iload_n rfl 2 rfl K dX6_fillDoubt_8 ?_
  obtain ⟨r1, e1, h⟩ := wpO_bind h
  refine G_callVi (ci := 10) [.int (M.1 34 2), .int x2] [] K dX6_fillDoubt_9 wv_505 yd_X10_actOf (Nat.le_of_ble_eq_true rfl) (sh_1 _ _) rfl (by decide) (by decide) rfl rfl (Nat.le_of_ble_eq_true rfl) (K_Well_actOf l g htr (M.1 34 2) x2 M _ e1) ?_
  refine G_istore K dX6_fillDoubt_12 (Nat.le_of_ble_eq_true rfl) rfl ?_
  refine G_aload_n rfl 1 rfl K dX6_fillDoubt_14 ?_
  refine G_get (ci := 6) (k := 0) K rfl in_X6 wd_220 rfl dX6_fillDoubt_15 (Nat.le_of_ble_eq_true rfl) (sh_34 _ _) (Nat.le_of_ble_eq_true rfl) rfl ?_
  refine G_aload_n rfl 1 rfl K dX6_fillDoubt_18 ?_
  refine G_get (ci := 6) (k := 3) K rfl in_X6 wd_223 rfl dX6_fillDoubt_19 (Nat.le_of_ble_eq_true rfl) (sh_34 _ _) (Nat.le_of_ble_eq_true rfl) rfl ?_
  refine G_iload_n rfl 4 rfl K dX6_fillDoubt_22 ?_
  obtain ⟨r2, e2, h⟩ := wpO_bind h
  refine G_callVi (ci := 10) [.int (M.1 34 3), .int x3] [] K dX6_fillDoubt_23 wv_505 yd_X10_actOf (Nat.le_of_ble_eq_true rfl) (sh_1 _ _) rfl (by decide) (by decide) rfl rfl (Nat.le_of_ble_eq_true rfl) (K_Well_actOf l g htr (M.1 34 3) x3 M _ e2) ?_
  refine G_istore K dX6_fillDoubt_26 (Nat.le_of_ble_eq_true rfl) rfl ?_
  refine G_aload_n rfl 2 rfl K dX6_fillDoubt_28 ?_
  refine G_get (ci := 6) (k := 0) K rfl in_X6 wd_220 rfl dX6_fillDoubt_29 (Nat.le_of_ble_eq_true rfl) (sh_34 _ _) (Nat.le_of_ble_eq_true rfl) rfl ?_
  refine G_get (ci := 10) (k := 2) K rfl in_X10 wd_71 rfl dX6_fillDoubt_32 (Nat.le_of_ble_eq_true rfl) (sh_1 _ _) (Nat.le_of_ble_eq_true rfl) rfl ?_
  refine G_i2l K dX6_fillDoubt_35 ?_
  refine G_aload_n rfl 2 rfl K dX6_fillDoubt_36 ?_
  refine G_get (ci := 6) (k := 0) K rfl in_X6 wd_220 rfl dX6_fillDoubt_37 (Nat.le_of_ble_eq_true rfl) (sh_34 _ _) (Nat.le_of_ble_eq_true rfl) rfl ?_
  refine G_get (ci := 10) (k := 4) K rfl in_X10 wd_79 rfl dX6_fillDoubt_40 (Nat.le_of_ble_eq_true rfl) (sh_1 _ _) (Nat.le_of_ble_eq_true rfl) rfl ?_
  refine G_i2l K dX6_fillDoubt_43 ?_
  refine G_lmul K dX6_fillDoubt_44 ?_
  refine G_aload_n rfl 2 rfl K dX6_fillDoubt_45 ?_
  refine G_get (ci := 6) (k := 0) K rfl in_X6 wd_220 rfl dX6_fillDoubt_46 (Nat.le_of_ble_eq_true rfl) (sh_34 _ _) (Nat.le_of_ble_eq_true rfl) rfl ?_
  refine G_get (ci := 10) (k := 4) K rfl in_X10 wd_79 rfl dX6_fillDoubt_49 (Nat.le_of_ble_eq_true rfl) (sh_1 _ _) (Nat.le_of_ble_eq_true rfl) rfl ?_
  refine G_i2l K dX6_fillDoubt_52 ?_
  refine G_lmul K dX6_fillDoubt_53 ?_
  refine G_lstore K dX6_fillDoubt_54 (Nat.le_of_ble_eq_true rfl) rfl ?_
  refine G_aload_n rfl 3 rfl K dX6_fillDoubt_56 ?_
  refine G_get (ci := 6) (k := 6) K rfl in_X6 wd_226 rfl dX6_fillDoubt_57 (Nat.le_of_ble_eq_true rfl) (sh_34 _ _) (Nat.le_of_ble_eq_true rfl) rfl ?_
  refine G_iconst (v := 5) rfl K dX6_fillDoubt_60 ?_
  refine G_iload_n rfl 4 rfl K dX6_fillDoubt_61 ?_
  refine G_imul K dX6_fillDoubt_62 ?_
  refine G_lload 0 rfl K dX6_fillDoubt_63 ?_
  obtain ⟨r3, e3, h⟩ := wpO_bind h
  refine G_callVv (ci := 7) [.int (5 * x1), .long ((((M.1 1 2).toInt64) * ((M.1 1 4).toInt64)) * ((M.1 1 4).toInt64))] [] K dX6_fillDoubt_65 wv_1214 yd_X7_add (Nat.le_of_ble_eq_true rfl) (sh_48 _ _) rfl (by decide) (by decide) rfl rfl (Nat.le_of_ble_eq_true rfl) (K_Row_add l g htr 48 49 16 isRow_48 (5 * x1) ((((M.1 1 2).toInt64) * ((M.1 1 4).toInt64)) * ((M.1 1 4).toInt64)) M _ e3) ?_
  refine G_aload_n rfl 3 rfl K dX6_fillDoubt_68 ?_
  refine G_get (ci := 6) (k := 7) K rfl in_X6 wd_227 rfl dX6_fillDoubt_69 (Nat.le_of_ble_eq_true rfl) (sh_34 _ _) (Nat.le_of_ble_eq_true rfl) rfl ?_
  refine G_iconst (v := 2) rfl K dX6_fillDoubt_72 ?_
  refine G_iload_n rfl 4 rfl K dX6_fillDoubt_73 ?_
  refine G_imul K dX6_fillDoubt_74 ?_
  refine G_lload 0 rfl K dX6_fillDoubt_75 ?_
  refine G_aload_n rfl 3 rfl K dX6_fillDoubt_77 ?_
  refine G_get (ci := 6) (k := 0) K rfl in_X6 wd_220 rfl dX6_fillDoubt_78 (Nat.le_of_ble_eq_true rfl) (sh_34 _ _) (Nat.le_of_ble_eq_true rfl) rfl ?_
  refine G_iconst (v := 0) rfl K dX6_fillDoubt_81 ?_
  refine G_iload 2 rfl K dX6_fillDoubt_82 ?_
  refine G_iload 1 rfl K dX6_fillDoubt_84 ?_
  obtain ⟨r4, e4, h⟩ := wpO_bind h
  refine G_callVi (ci := 10) [.int 0, .int r1, .int r2] [.long ((((M.1 1 2).toInt64) * ((M.1 1 4).toInt64)) * ((M.1 1 4).toInt64)), .int (2 * x1), .ref (g.2.1 50)] K dX6_fillDoubt_86 wv_514 yd_X10_bringsTo (Nat.le_of_ble_eq_true rfl) (sh_1 _ _) rfl (by decide) (by decide) rfl rfl (Nat.le_of_ble_eq_true rfl) (K_Well_bringsTo l g htr 0 r1 r2 r3 _ e4) ?_
  refine G_i2l K dX6_fillDoubt_89 ?_
  refine G_lmul K dX6_fillDoubt_90 ?_
  obtain ⟨r5, e5, h⟩ := wpO_bind h
  refine G_callVv (ci := 7) [.int (2 * x1), .long (((((M.1 1 2).toInt64) * ((M.1 1 4).toInt64)) * ((M.1 1 4).toInt64)) * r4.toInt64)] [] K dX6_fillDoubt_91 wv_1215 yd_X7_put (Nat.le_of_ble_eq_true rfl) (sh_50 _ _) rfl (by decide) (by decide) rfl rfl (Nat.le_of_ble_eq_true rfl) (K_Row_put l g htr 50 51 8 isRow_50 (2 * x1) (((((M.1 1 2).toInt64) * ((M.1 1 4).toInt64)) * ((M.1 1 4).toInt64)) * r4.toInt64) r3 _ e5) ?_
  refine G_aload_n rfl 3 rfl K dX6_fillDoubt_94 ?_
  refine G_get (ci := 6) (k := 7) K rfl in_X6 wd_227 rfl dX6_fillDoubt_95 (Nat.le_of_ble_eq_true rfl) (sh_34 _ _) (Nat.le_of_ble_eq_true rfl) rfl ?_
  refine G_iconst (v := 2) rfl K dX6_fillDoubt_98 ?_
  refine G_iload_n rfl 4 rfl K dX6_fillDoubt_99 ?_
  refine G_imul K dX6_fillDoubt_100 ?_
  refine G_iconst (v := 1) rfl K dX6_fillDoubt_101 ?_
  refine G_iadd K dX6_fillDoubt_102 ?_
  refine G_lload 0 rfl K dX6_fillDoubt_103 ?_
  refine G_aload_n rfl 3 rfl K dX6_fillDoubt_105 ?_
  refine G_get (ci := 6) (k := 0) K rfl in_X6 wd_220 rfl dX6_fillDoubt_106 (Nat.le_of_ble_eq_true rfl) (sh_34 _ _) (Nat.le_of_ble_eq_true rfl) rfl ?_
  refine G_iconst (v := 1) rfl K dX6_fillDoubt_109 ?_
  refine G_iload 2 rfl K dX6_fillDoubt_110 ?_
  refine G_iload 1 rfl K dX6_fillDoubt_112 ?_
  obtain ⟨r6, e6, h⟩ := wpO_bind h
  refine G_callVi (ci := 10) [.int 1, .int r1, .int r2] [.long ((((M.1 1 2).toInt64) * ((M.1 1 4).toInt64)) * ((M.1 1 4).toInt64)), .int ((2 * x1) + 1), .ref (g.2.1 50)] K dX6_fillDoubt_114 wv_514 yd_X10_bringsTo (Nat.le_of_ble_eq_true rfl) (sh_1 _ _) rfl (by decide) (by decide) rfl rfl (Nat.le_of_ble_eq_true rfl) (K_Well_bringsTo l g htr 1 r1 r2 r5 _ e6) ?_
  refine G_i2l K dX6_fillDoubt_117 ?_
  refine G_lmul K dX6_fillDoubt_118 ?_
  obtain ⟨r7, e7, h⟩ := wpO_bind h
  refine G_callVv (ci := 7) [.int ((2 * x1) + 1), .long (((((M.1 1 2).toInt64) * ((M.1 1 4).toInt64)) * ((M.1 1 4).toInt64)) * r6.toInt64)] [] K dX6_fillDoubt_119 wv_1215 yd_X7_put (Nat.le_of_ble_eq_true rfl) (sh_50 _ _) rfl (by decide) (by decide) rfl rfl (Nat.le_of_ble_eq_true rfl) (K_Row_put l g htr 50 51 8 isRow_50 ((2 * x1) + 1) (((((M.1 1 2).toInt64) * ((M.1 1 4).toInt64)) * ((M.1 1 4).toInt64)) * r6.toInt64) r5 _ e7) ?_
  refine G_iconst (v := 0) rfl K dX6_fillDoubt_122 ?_
  refine G_istore K dX6_fillDoubt_123 (Nat.le_of_ble_eq_true rfl) rfl ?_
  exact G_lv (lv' := [(0, .ref (g.2.1 34)), (1, .int x1), (2, .int x2), (3, .int x3), (4, .int r1), (5, .int r2), (8, .int 0)]) [4, 5, 6, 7, 3, 2, 0] rfl (J125 x1 x2 x3 r1 r2 0 r7 h)
theorem yd_X6_fillDoubt : ydN yX6_fillDoubt 3 := ⟨by decide, by decide, by decide +kernel⟩
theorem wv_1209 : wdV "KeptWell$Pair" 171 yX7_setAll cX7_setAll 4 none := ⟨wd_1209, wd_502, wd_503, wd_3, wd_504⟩
theorem wv_1210 : wdV "KeptWell$Pair" 175 yX6_fillDoubt cX6_fillDoubt 13 none := ⟨wd_1210, wd_1212, ws_X6_fillDoubt, wd_6, wd_1213⟩
def on_X6_fillDoubts : Nat := 0xb1cbffa7010184b300b60a681b082400b42a0e00a7af00b61d1c1b2a0d00a21c00b42a1d1500a21900b42a1c3e70051b3d6c051b3600a2071b3c03ab00b6092800b42aab00b6092400b42a
theorem ob_X6_fillDoubts : OKB cX6_fillDoubts on_X6_fillDoubts 75 := ⟨by decide +kernel, by decide +kernel⟩
theorem dX6_fillDoubts_0 : dc cX6_fillDoubts 0 1 (.aload_n 0) 1 := o_42 ob_X6_fillDoubts rfl rfl rfl
theorem dX6_fillDoubts_1 : dc cX6_fillDoubts 1 4 (.getfield 36) 3 := o_180 ob_X6_fillDoubts rfl rfl rfl rfl
theorem dX6_fillDoubts_4 : dc cX6_fillDoubts 4 5 (.lconst 0) 1 := o_9 ob_X6_fillDoubts rfl rfl rfl
theorem dX6_fillDoubts_5 : dc cX6_fillDoubts 5 8 (.invokevirtual 171) 3 := o_182 ob_X6_fillDoubts rfl rfl rfl rfl
theorem dX6_fillDoubts_8 : dc cX6_fillDoubts 8 9 (.aload_n 0) 1 := o_42 ob_X6_fillDoubts rfl rfl rfl
theorem dX6_fillDoubts_9 : dc cX6_fillDoubts 9 12 (.getfield 40) 3 := o_180 ob_X6_fillDoubts rfl rfl rfl rfl
theorem dX6_fillDoubts_12 : dc cX6_fillDoubts 12 13 (.lconst 0) 1 := o_9 ob_X6_fillDoubts rfl rfl rfl
theorem dX6_fillDoubts_13 : dc cX6_fillDoubts 13 16 (.invokevirtual 171) 3 := o_182 ob_X6_fillDoubts rfl rfl rfl rfl
theorem dX6_fillDoubts_16 : dc cX6_fillDoubts 16 17 (.iconst 0) 1 := o_3 ob_X6_fillDoubts rfl rfl rfl
theorem dX6_fillDoubts_17 : dc cX6_fillDoubts 17 18 (.istore_n 1) 1 := o_60 ob_X6_fillDoubts rfl rfl rfl
theorem dX6_fillDoubts_18 : dc cX6_fillDoubts 18 19 (.iload_n 1) 1 := o_27 ob_X6_fillDoubts rfl rfl rfl
theorem dX6_fillDoubts_19 : dc cX6_fillDoubts 19 20 (.iconst 4) 1 := o_7 ob_X6_fillDoubts rfl rfl rfl
theorem dX6_fillDoubts_20 : dc cX6_fillDoubts 20 23 (.if_icmp .ge 54) 3 := o_162 ob_X6_fillDoubts rfl rfl rfl rfl
theorem dX6_fillDoubts_23 : dc cX6_fillDoubts 23 24 (.iload_n 1) 1 := o_27 ob_X6_fillDoubts rfl rfl rfl
theorem dX6_fillDoubts_24 : dc cX6_fillDoubts 24 25 (.iconst 2) 1 := o_5 ob_X6_fillDoubts rfl rfl rfl
theorem dX6_fillDoubts_25 : dc cX6_fillDoubts 25 26 .idiv 1 := o_108 ob_X6_fillDoubts rfl rfl rfl
theorem dX6_fillDoubts_26 : dc cX6_fillDoubts 26 27 (.istore_n 2) 1 := o_61 ob_X6_fillDoubts rfl rfl rfl
theorem dX6_fillDoubts_27 : dc cX6_fillDoubts 27 28 (.iload_n 1) 1 := o_27 ob_X6_fillDoubts rfl rfl rfl
theorem dX6_fillDoubts_28 : dc cX6_fillDoubts 28 29 (.iconst 2) 1 := o_5 ob_X6_fillDoubts rfl rfl rfl
theorem dX6_fillDoubts_29 : dc cX6_fillDoubts 29 30 .irem 1 := o_112 ob_X6_fillDoubts rfl rfl rfl
theorem dX6_fillDoubts_30 : dc cX6_fillDoubts 30 31 (.istore_n 3) 1 := o_62 ob_X6_fillDoubts rfl rfl rfl
theorem dX6_fillDoubts_31 : dc cX6_fillDoubts 31 32 (.iload_n 2) 1 := o_28 ob_X6_fillDoubts rfl rfl rfl
theorem dX6_fillDoubts_32 : dc cX6_fillDoubts 32 33 (.aload_n 0) 1 := o_42 ob_X6_fillDoubts rfl rfl rfl
theorem dX6_fillDoubts_33 : dc cX6_fillDoubts 33 36 (.getfield 25) 3 := o_180 ob_X6_fillDoubts rfl rfl rfl rfl
theorem dX6_fillDoubts_36 : dc cX6_fillDoubts 36 39 (.if_icmp .ge 21) 3 := o_162 ob_X6_fillDoubts rfl rfl rfl rfl
theorem dX6_fillDoubts_39 : dc cX6_fillDoubts 39 40 (.iload_n 3) 1 := o_29 ob_X6_fillDoubts rfl rfl rfl
theorem dX6_fillDoubts_40 : dc cX6_fillDoubts 40 41 (.aload_n 0) 1 := o_42 ob_X6_fillDoubts rfl rfl rfl
theorem dX6_fillDoubts_41 : dc cX6_fillDoubts 41 44 (.getfield 28) 3 := o_180 ob_X6_fillDoubts rfl rfl rfl rfl
theorem dX6_fillDoubts_44 : dc cX6_fillDoubts 44 47 (.if_icmp .ge 13) 3 := o_162 ob_X6_fillDoubts rfl rfl rfl rfl
theorem dX6_fillDoubts_47 : dc cX6_fillDoubts 47 48 (.aload_n 0) 1 := o_42 ob_X6_fillDoubts rfl rfl rfl
theorem dX6_fillDoubts_48 : dc cX6_fillDoubts 48 49 (.iload_n 1) 1 := o_27 ob_X6_fillDoubts rfl rfl rfl
theorem dX6_fillDoubts_49 : dc cX6_fillDoubts 49 50 (.iload_n 2) 1 := o_28 ob_X6_fillDoubts rfl rfl rfl
theorem dX6_fillDoubts_50 : dc cX6_fillDoubts 50 51 (.iload_n 3) 1 := o_29 ob_X6_fillDoubts rfl rfl rfl
theorem dX6_fillDoubts_51 : dc cX6_fillDoubts 51 54 (.invokevirtual 175) 3 := o_182 ob_X6_fillDoubts rfl rfl rfl rfl
theorem dX6_fillDoubts_54 : dc cX6_fillDoubts 54 57 (.goto 14) 3 := o_167 ob_X6_fillDoubts rfl rfl rfl rfl
theorem dX6_fillDoubts_57 : dc cX6_fillDoubts 57 58 (.aload_n 0) 1 := o_42 ob_X6_fillDoubts rfl rfl rfl
theorem dX6_fillDoubts_58 : dc cX6_fillDoubts 58 61 (.getfield 36) 3 := o_180 ob_X6_fillDoubts rfl rfl rfl rfl
theorem dX6_fillDoubts_61 : dc cX6_fillDoubts 61 62 (.iconst 5) 1 := o_8 ob_X6_fillDoubts rfl rfl rfl
theorem dX6_fillDoubts_62 : dc cX6_fillDoubts 62 63 (.iload_n 1) 1 := o_27 ob_X6_fillDoubts rfl rfl rfl
theorem dX6_fillDoubts_63 : dc cX6_fillDoubts 63 64 .imul 1 := o_104 ob_X6_fillDoubts rfl rfl rfl
theorem dX6_fillDoubts_64 : dc cX6_fillDoubts 64 65 (.lconst 1) 1 := o_10 ob_X6_fillDoubts rfl rfl rfl
theorem dX6_fillDoubts_65 : dc cX6_fillDoubts 65 68 (.invokevirtual 179) 3 := o_182 ob_X6_fillDoubts rfl rfl rfl rfl
theorem dX6_fillDoubts_68 : dc cX6_fillDoubts 68 71 (.iinc 1 1) 3 := o_132 ob_X6_fillDoubts rfl rfl rfl rfl rfl
theorem dX6_fillDoubts_71 : dc cX6_fillDoubts 71 74 (.goto (-53)) 3 := o_167 ob_X6_fillDoubts rfl rfl rfl rfl
theorem dX6_fillDoubts_74 : dc cX6_fillDoubts 74 75 .return_ 1 := o_177 ob_X6_fillDoubts rfl rfl rfl
def F_Pair_fillDoubts_j57 (x1 : Int32) (M : Mem) : Option ((Int32 × Mem) ⊕ ((Mem))) :=
  (F_Row_put 49 16 (5 * x1) 1 M).bind fun r3 => some (.inl ((x1 + 1, r3)))
def F_Pair_fillDoubts_b18 (z : Int32 × Mem) : Option ((Int32 × Mem) ⊕ ((Mem))) :=
  if 4 ≤ z.1 then some (.inr z.2) else if (z.2.1 34 4) ≤ (z.1 / 2) then F_Pair_fillDoubts_j57 z.1 z.2 else if (z.2.1 34 5) ≤ (irm z.1 2) then F_Pair_fillDoubts_j57 z.1 z.2 else (F_Pair_fillDoubt z.1 (z.1 / 2) (irm z.1 2) z.2).bind fun r4 => some (.inl ((z.1 + 1, r4)))
def F_Pair_fillDoubts_l18 (x1 : Int32) (M : Mem) : Option (Mem) :=
  (iter (F_Pair_fillDoubts_b18) FUEL (x1, M)).bind fun r => some r
def F_Pair_fillDoubts (M : Mem) : Option (Mem) :=
  (F_Row_setAll 49 16 0 M).bind fun r1 => (F_Row_setAll 51 8 0 r1).bind fun r2 => F_Pair_fillDoubts_l18 0 r2
set_option maxRecDepth 100000 in
set_option maxHeartbeats 4000000 in
theorem K_Pair_fillDoubts (l : Launch) (g : GB) (htr : l.stackTraces = false) (M : Mem) (MZ : Mem) (h : F_Pair_fillDoubts M = some MZ) : CT l g yX6_fillDoubts (.code yX6_fillDoubts cX6_fillDoubts 4 none :: wAll) { frames := 3, cells := 0, slots := 0, locals := 78 } [.ref (g.2.1 34)] M (.inl none) MZ := by
  refine CT.of [(0, .ref (g.2.1 34))] (by decide +kernel) (Nat.le_of_ble_eq_true rfl) rfl htr ?_
  intro p e s m args below meth c K hr ht
  skip
  obtain ⟨PHI, hPHI, h⟩ : ∃ PHI : Mem → Prop, (∀ a, PHI a → a = MZ) ∧ wpO (F_Pair_fillDoubts M) PHI := ⟨fun a => a = MZ, fun _ h => h, _, h, rfl⟩
  have J18 : ∀ (x1 : Int32) (M : Mem), wpO (F_Pair_fillDoubts_l18 x1 M) PHI → GG p l e { frames := 3, cells := 0, slots := 0, locals := 78 } s m args below meth c g 4 (vx_MQ below (Qn g s.heap.size (.inl none) MZ) (QX g s.heap.size (.inl none) MZ) args s 0 0 (AS g s.heap.size)) 0 0 18 [(0, .ref (g.2.1 34)), (1, .int x1)] [] M := by
    intro x1 M h
    unfold F_Pair_fillDoubts_l18 at h
    refine loop_C2 (G := fun (x1 : Int32) (M : Mem) => GG p l e { frames := 3, cells := 0, slots := 0, locals := 78 } s m args below meth c g 4 (vx_MQ below (Qn g s.heap.size (.inl none) MZ) (QX g s.heap.size (.inl none) MZ) args s 0 0 (AS g s.heap.size)) 0 0 18 [(0, .ref (g.2.1 34)), (1, .int x1)] [] M) (body := F_Pair_fillDoubts_b18) ?_ FUEL _ _ (wpO_bind h)
    intro P18 E18 X18
    have J57 : ∀ (x1 : Int32) (M : Mem), wpO (F_Pair_fillDoubts_j57 x1 M) P18 → GG p l e { frames := 3, cells := 0, slots := 0, locals := 78 } s m args below meth c g 4 (vx_MQ below (Qn g s.heap.size (.inl none) MZ) (QX g s.heap.size (.inl none) MZ) args s 0 0 (AS g s.heap.size)) 0 0 57 [(0, .ref (g.2.1 34)), (1, .int x1)] [] M := by
      intro x1 M h
      unfold F_Pair_fillDoubts_j57 at h
      refine G_aload_n rfl 0 rfl K dX6_fillDoubts_57 ?_
      refine G_get (ci := 6) (k := 6) K rfl in_X6 wd_226 rfl dX6_fillDoubts_58 (Nat.le_of_ble_eq_true rfl) (sh_34 _ _) (Nat.le_of_ble_eq_true rfl) rfl ?_
      refine G_iconst (v := 5) rfl K dX6_fillDoubts_61 ?_
      refine G_iload_n rfl 1 rfl K dX6_fillDoubts_62 ?_
      refine G_imul K dX6_fillDoubts_63 ?_
      refine G_lconst (v := 1) rfl K dX6_fillDoubts_64 ?_
      obtain ⟨r3, e3, h⟩ := wpO_bind h
      refine G_callVv (ci := 7) [.int (5 * x1), .long 1] [] K dX6_fillDoubts_65 wv_1215 yd_X7_put (Nat.le_of_ble_eq_true rfl) (sh_48 _ _) rfl (by decide) (by decide) rfl rfl (Nat.le_of_ble_eq_true rfl) (K_Row_put l g htr 48 49 16 isRow_48 (5 * x1) 1 M _ e3) ?_
      refine G_iinc (v := x1 + 1) 1 rfl K dX6_fillDoubts_68 rfl (Nat.le_of_ble_eq_true rfl) rfl ?_
      refine G_goto (tgt := 18) K dX6_fillDoubts_71 (by decide) ?_
      exact G_lv (lv' := [(0, .ref (g.2.1 34)), (1, .int (x1 + 1))]) [1, 0] rfl (E18 (x1 + 1) r3 (wpO_some h))
    intro z h
    unfold F_Pair_fillDoubts_b18 at h
    refine G_iload_n rfl 1 rfl K dX6_fillDoubts_18 ?_
    refine G_iconst (v := 4) rfl K dX6_fillDoubts_19 ?_
    refine G_icmp_ge (tgt := 74) K dX6_fillDoubts_20 (by decide) (fun hc => ?_) (fun hc => ?_)
    · have h := wpO_t h hc
      have h := X18 _ (wpO_some h)
      try dsimp only at h
      cases hPHI _ (wpO_some h)
      exact G_vret K hr dX6_fillDoubts_74 (Nat.le_of_ble_eq_true rfl) (Nat.le_of_ble_eq_true rfl) ⟨rfl, rfl⟩
    · have h := wpO_f h hc
      refine G_iload_n rfl 1 rfl K dX6_fillDoubts_23 ?_
      refine G_iconst (v := 2) rfl K dX6_fillDoubts_24 ?_
      refine G_idiv (by decide) K dX6_fillDoubts_25 ?_
      refine G_istore_n rfl K dX6_fillDoubts_26 (Nat.le_of_ble_eq_true rfl) rfl ?_
      refine G_iload_n rfl 2 rfl K dX6_fillDoubts_27 ?_
      refine G_iconst (v := 2) rfl K dX6_fillDoubts_28 ?_
      refine G_irem (by decide) K dX6_fillDoubts_29 ?_
      refine G_istore_n rfl K dX6_fillDoubts_30 (Nat.le_of_ble_eq_true rfl) rfl ?_
      refine G_iload_n rfl 1 rfl K dX6_fillDoubts_31 ?_
      refine G_aload_n rfl 2 rfl K dX6_fillDoubts_32 ?_
      refine G_get (ci := 6) (k := 4) K rfl in_X6 wd_224 rfl dX6_fillDoubts_33 (Nat.le_of_ble_eq_true rfl) (sh_34 _ _) (Nat.le_of_ble_eq_true rfl) rfl ?_
      refine G_icmp_ge (tgt := 57) K dX6_fillDoubts_36 (by decide) (fun hc => ?_) (fun hc => ?_)
      · have h := wpO_t h hc
        exact G_lv (lv' := [(0, .ref (g.2.1 34)), (1, .int z.1)]) [2, 3] rfl (J57 z.1 z.2 h)
      · have h := wpO_f h hc
        refine G_iload_n rfl 0 rfl K dX6_fillDoubts_39 ?_
        refine G_aload_n rfl 2 rfl K dX6_fillDoubts_40 ?_
        refine G_get (ci := 6) (k := 5) K rfl in_X6 wd_225 rfl dX6_fillDoubts_41 (Nat.le_of_ble_eq_true rfl) (sh_34 _ _) (Nat.le_of_ble_eq_true rfl) rfl ?_
        refine G_icmp_ge (tgt := 57) K dX6_fillDoubts_44 (by decide) (fun hc => ?_) (fun hc => ?_)
        · have h := wpO_t h hc
          exact G_lv (lv' := [(0, .ref (g.2.1 34)), (1, .int z.1)]) [2, 3] rfl (J57 z.1 z.2 h)
        · have h := wpO_f h hc
          refine G_aload_n rfl 2 rfl K dX6_fillDoubts_47 ?_
          refine G_iload_n rfl 3 rfl K dX6_fillDoubts_48 ?_
          refine G_iload_n rfl 1 rfl K dX6_fillDoubts_49 ?_
          refine G_iload_n rfl 0 rfl K dX6_fillDoubts_50 ?_
          obtain ⟨r4, e4, h⟩ := wpO_bind h
          refine G_callVv (ci := 6) [.int z.1, .int (z.1 / 2), .int (irm z.1 2)] [] K dX6_fillDoubts_51 wv_1210 yd_X6_fillDoubt (Nat.le_of_ble_eq_true rfl) (sh_34 _ _) rfl (by decide) (by decide) rfl rfl (Nat.le_of_ble_eq_true rfl) (K_Pair_fillDoubt l g htr z.1 (z.1 / 2) (irm z.1 2) z.2 _ e4) ?_
          refine G_goto (tgt := 68) K dX6_fillDoubts_54 (by decide) ?_
          refine G_iinc (v := z.1 + 1) 3 rfl K dX6_fillDoubts_68 rfl (Nat.le_of_ble_eq_true rfl) rfl ?_
          refine G_goto (tgt := 18) K dX6_fillDoubts_71 (by decide) ?_
          exact G_lv (lv' := [(0, .ref (g.2.1 34)), (1, .int (z.1 + 1))]) [3, 0] rfl (E18 (z.1 + 1) r4 (wpO_some h))
  unfold F_Pair_fillDoubts at h
  refine G_aload_n rfl 0 rfl K dX6_fillDoubts_0 ?_
  refine G_get (ci := 6) (k := 6) K rfl in_X6 wd_226 rfl dX6_fillDoubts_1 (Nat.le_of_ble_eq_true rfl) (sh_34 _ _) (Nat.le_of_ble_eq_true rfl) rfl ?_
  refine G_lconst (v := 0) rfl K dX6_fillDoubts_4 ?_
  obtain ⟨r1, e1, h⟩ := wpO_bind h
  refine G_callVv (ci := 7) [.long 0] [] K dX6_fillDoubts_5 wv_1209 yd_X7_setAll (Nat.le_of_ble_eq_true rfl) (sh_48 _ _) rfl (by decide) (by decide) rfl rfl (Nat.le_of_ble_eq_true rfl) (K_Row_setAll l g htr 48 49 16 isRow_48 0 M _ e1) ?_
  refine G_aload_n rfl 0 rfl K dX6_fillDoubts_8 ?_
  refine G_get (ci := 6) (k := 7) K rfl in_X6 wd_227 rfl dX6_fillDoubts_9 (Nat.le_of_ble_eq_true rfl) (sh_34 _ _) (Nat.le_of_ble_eq_true rfl) rfl ?_
  refine G_lconst (v := 0) rfl K dX6_fillDoubts_12 ?_
  obtain ⟨r2, e2, h⟩ := wpO_bind h
  refine G_callVv (ci := 7) [.long 0] [] K dX6_fillDoubts_13 wv_1209 yd_X7_setAll (Nat.le_of_ble_eq_true rfl) (sh_50 _ _) rfl (by decide) (by decide) rfl rfl (Nat.le_of_ble_eq_true rfl) (K_Row_setAll l g htr 50 51 8 isRow_50 0 r1 _ e2) ?_
  refine G_iconst (v := 0) rfl K dX6_fillDoubts_16 ?_
  refine G_istore_n rfl K dX6_fillDoubts_17 (Nat.le_of_ble_eq_true rfl) rfl ?_
  exact G_lv (lv' := [(0, .ref (g.2.1 34)), (1, .int 0)]) [1, 0] rfl (J18 0 r2 h)
def on_X6_cofactorOf : Nat := 0xad7505160600a7051608009a70051b0537616965698000b6600404152400b42a8000b660051d2400b42a698000b6600504152400b42a8000b660041d2400b42a8000b660061c2400b42a656965698000b6600404152400b42a8000b660061d2400b42a698000b6600604152400b42a8000b660041d2400b42a8000b660051c2400b42a6965698000b6600504152400b42a8000b660061d2400b42a698000b6600604152400b42a8000b660051d2400b42a8000b660041c2400b42a043668050400a7060700a3051b073e68040400a7050700a3041b073d68030400a70407009a1b07
theorem ob_X6_cofactorOf : OKB cX6_cofactorOf on_X6_cofactorOf 226 := ⟨by decide +kernel, by decide +kernel⟩
theorem dX6_cofactorOf_0 : dc cX6_cofactorOf 0 1 (.iconst 4) 1 := o_7 ob_X6_cofactorOf rfl rfl rfl
theorem dX6_cofactorOf_1 : dc cX6_cofactorOf 1 2 (.iload_n 1) 1 := o_27 ob_X6_cofactorOf rfl rfl rfl
theorem dX6_cofactorOf_2 : dc cX6_cofactorOf 2 5 (.ifCond .ne 7) 3 := o_154 ob_X6_cofactorOf rfl rfl rfl rfl
theorem dX6_cofactorOf_5 : dc cX6_cofactorOf 5 6 (.iconst 1) 1 := o_4 ob_X6_cofactorOf rfl rfl rfl
theorem dX6_cofactorOf_6 : dc cX6_cofactorOf 6 9 (.goto 4) 3 := o_167 ob_X6_cofactorOf rfl rfl rfl rfl
theorem dX6_cofactorOf_9 : dc cX6_cofactorOf 9 10 (.iconst 0) 1 := o_3 ob_X6_cofactorOf rfl rfl rfl
theorem dX6_cofactorOf_10 : dc cX6_cofactorOf 10 11 .imul 1 := o_104 ob_X6_cofactorOf rfl rfl rfl
theorem dX6_cofactorOf_11 : dc cX6_cofactorOf 11 12 (.istore_n 2) 1 := o_61 ob_X6_cofactorOf rfl rfl rfl
theorem dX6_cofactorOf_12 : dc cX6_cofactorOf 12 13 (.iconst 4) 1 := o_7 ob_X6_cofactorOf rfl rfl rfl
theorem dX6_cofactorOf_13 : dc cX6_cofactorOf 13 14 (.iload_n 1) 1 := o_27 ob_X6_cofactorOf rfl rfl rfl
theorem dX6_cofactorOf_14 : dc cX6_cofactorOf 14 15 (.iconst 1) 1 := o_4 ob_X6_cofactorOf rfl rfl rfl
theorem dX6_cofactorOf_15 : dc cX6_cofactorOf 15 18 (.if_icmp .gt 7) 3 := o_163 ob_X6_cofactorOf rfl rfl rfl rfl
theorem dX6_cofactorOf_18 : dc cX6_cofactorOf 18 19 (.iconst 2) 1 := o_5 ob_X6_cofactorOf rfl rfl rfl
theorem dX6_cofactorOf_19 : dc cX6_cofactorOf 19 22 (.goto 4) 3 := o_167 ob_X6_cofactorOf rfl rfl rfl rfl
theorem dX6_cofactorOf_22 : dc cX6_cofactorOf 22 23 (.iconst 1) 1 := o_4 ob_X6_cofactorOf rfl rfl rfl
theorem dX6_cofactorOf_23 : dc cX6_cofactorOf 23 24 .imul 1 := o_104 ob_X6_cofactorOf rfl rfl rfl
theorem dX6_cofactorOf_24 : dc cX6_cofactorOf 24 25 (.istore_n 3) 1 := o_62 ob_X6_cofactorOf rfl rfl rfl
theorem dX6_cofactorOf_25 : dc cX6_cofactorOf 25 26 (.iconst 4) 1 := o_7 ob_X6_cofactorOf rfl rfl rfl
theorem dX6_cofactorOf_26 : dc cX6_cofactorOf 26 27 (.iload_n 1) 1 := o_27 ob_X6_cofactorOf rfl rfl rfl
theorem dX6_cofactorOf_27 : dc cX6_cofactorOf 27 28 (.iconst 2) 1 := o_5 ob_X6_cofactorOf rfl rfl rfl
theorem dX6_cofactorOf_28 : dc cX6_cofactorOf 28 31 (.if_icmp .gt 7) 3 := o_163 ob_X6_cofactorOf rfl rfl rfl rfl
theorem dX6_cofactorOf_31 : dc cX6_cofactorOf 31 32 (.iconst 3) 1 := o_6 ob_X6_cofactorOf rfl rfl rfl
theorem dX6_cofactorOf_32 : dc cX6_cofactorOf 32 35 (.goto 4) 3 := o_167 ob_X6_cofactorOf rfl rfl rfl rfl
theorem dX6_cofactorOf_35 : dc cX6_cofactorOf 35 36 (.iconst 2) 1 := o_5 ob_X6_cofactorOf rfl rfl rfl
theorem dX6_cofactorOf_36 : dc cX6_cofactorOf 36 37 .imul 1 := o_104 ob_X6_cofactorOf rfl rfl rfl
theorem dX6_cofactorOf_37 : dc cX6_cofactorOf 37 39 (.istore 4) 2 := o_54 ob_X6_cofactorOf rfl rfl rfl rfl
theorem dX6_cofactorOf_39 : dc cX6_cofactorOf 39 40 (.aload_n 0) 1 := o_42 ob_X6_cofactorOf rfl rfl rfl
theorem dX6_cofactorOf_40 : dc cX6_cofactorOf 40 43 (.getfield 36) 3 := o_180 ob_X6_cofactorOf rfl rfl rfl rfl
theorem dX6_cofactorOf_43 : dc cX6_cofactorOf 43 44 (.iload_n 2) 1 := o_28 ob_X6_cofactorOf rfl rfl rfl
theorem dX6_cofactorOf_44 : dc cX6_cofactorOf 44 45 (.iconst 1) 1 := o_4 ob_X6_cofactorOf rfl rfl rfl
theorem dX6_cofactorOf_45 : dc cX6_cofactorOf 45 46 .iadd 1 := o_96 ob_X6_cofactorOf rfl rfl rfl
theorem dX6_cofactorOf_46 : dc cX6_cofactorOf 46 49 (.invokevirtual 128) 3 := o_182 ob_X6_cofactorOf rfl rfl rfl rfl
theorem dX6_cofactorOf_49 : dc cX6_cofactorOf 49 50 (.aload_n 0) 1 := o_42 ob_X6_cofactorOf rfl rfl rfl
theorem dX6_cofactorOf_50 : dc cX6_cofactorOf 50 53 (.getfield 36) 3 := o_180 ob_X6_cofactorOf rfl rfl rfl rfl
theorem dX6_cofactorOf_53 : dc cX6_cofactorOf 53 54 (.iload_n 3) 1 := o_29 ob_X6_cofactorOf rfl rfl rfl
theorem dX6_cofactorOf_54 : dc cX6_cofactorOf 54 55 (.iconst 2) 1 := o_5 ob_X6_cofactorOf rfl rfl rfl
theorem dX6_cofactorOf_55 : dc cX6_cofactorOf 55 56 .iadd 1 := o_96 ob_X6_cofactorOf rfl rfl rfl
theorem dX6_cofactorOf_56 : dc cX6_cofactorOf 56 59 (.invokevirtual 128) 3 := o_182 ob_X6_cofactorOf rfl rfl rfl rfl
theorem dX6_cofactorOf_59 : dc cX6_cofactorOf 59 60 (.aload_n 0) 1 := o_42 ob_X6_cofactorOf rfl rfl rfl
theorem dX6_cofactorOf_60 : dc cX6_cofactorOf 60 63 (.getfield 36) 3 := o_180 ob_X6_cofactorOf rfl rfl rfl rfl
theorem dX6_cofactorOf_63 : dc cX6_cofactorOf 63 65 (.iload 4) 2 := o_21 ob_X6_cofactorOf rfl rfl rfl rfl
theorem dX6_cofactorOf_65 : dc cX6_cofactorOf 65 66 (.iconst 3) 1 := o_6 ob_X6_cofactorOf rfl rfl rfl
theorem dX6_cofactorOf_66 : dc cX6_cofactorOf 66 67 .iadd 1 := o_96 ob_X6_cofactorOf rfl rfl rfl
theorem dX6_cofactorOf_67 : dc cX6_cofactorOf 67 70 (.invokevirtual 128) 3 := o_182 ob_X6_cofactorOf rfl rfl rfl rfl
theorem dX6_cofactorOf_70 : dc cX6_cofactorOf 70 71 .lmul 1 := o_105 ob_X6_cofactorOf rfl rfl rfl
theorem dX6_cofactorOf_71 : dc cX6_cofactorOf 71 72 (.aload_n 0) 1 := o_42 ob_X6_cofactorOf rfl rfl rfl
theorem dX6_cofactorOf_72 : dc cX6_cofactorOf 72 75 (.getfield 36) 3 := o_180 ob_X6_cofactorOf rfl rfl rfl rfl
theorem dX6_cofactorOf_75 : dc cX6_cofactorOf 75 76 (.iload_n 3) 1 := o_29 ob_X6_cofactorOf rfl rfl rfl
theorem dX6_cofactorOf_76 : dc cX6_cofactorOf 76 77 (.iconst 3) 1 := o_6 ob_X6_cofactorOf rfl rfl rfl
theorem dX6_cofactorOf_77 : dc cX6_cofactorOf 77 78 .iadd 1 := o_96 ob_X6_cofactorOf rfl rfl rfl
theorem dX6_cofactorOf_78 : dc cX6_cofactorOf 78 81 (.invokevirtual 128) 3 := o_182 ob_X6_cofactorOf rfl rfl rfl rfl
theorem dX6_cofactorOf_81 : dc cX6_cofactorOf 81 82 (.aload_n 0) 1 := o_42 ob_X6_cofactorOf rfl rfl rfl
theorem dX6_cofactorOf_82 : dc cX6_cofactorOf 82 85 (.getfield 36) 3 := o_180 ob_X6_cofactorOf rfl rfl rfl rfl
theorem dX6_cofactorOf_85 : dc cX6_cofactorOf 85 87 (.iload 4) 2 := o_21 ob_X6_cofactorOf rfl rfl rfl rfl
theorem dX6_cofactorOf_87 : dc cX6_cofactorOf 87 88 (.iconst 2) 1 := o_5 ob_X6_cofactorOf rfl rfl rfl
theorem dX6_cofactorOf_88 : dc cX6_cofactorOf 88 89 .iadd 1 := o_96 ob_X6_cofactorOf rfl rfl rfl
theorem dX6_cofactorOf_89 : dc cX6_cofactorOf 89 92 (.invokevirtual 128) 3 := o_182 ob_X6_cofactorOf rfl rfl rfl rfl
theorem dX6_cofactorOf_92 : dc cX6_cofactorOf 92 93 .lmul 1 := o_105 ob_X6_cofactorOf rfl rfl rfl
theorem dX6_cofactorOf_93 : dc cX6_cofactorOf 93 94 .lsub 1 := o_101 ob_X6_cofactorOf rfl rfl rfl
theorem dX6_cofactorOf_94 : dc cX6_cofactorOf 94 95 .lmul 1 := o_105 ob_X6_cofactorOf rfl rfl rfl
theorem dX6_cofactorOf_95 : dc cX6_cofactorOf 95 96 (.aload_n 0) 1 := o_42 ob_X6_cofactorOf rfl rfl rfl
theorem dX6_cofactorOf_96 : dc cX6_cofactorOf 96 99 (.getfield 36) 3 := o_180 ob_X6_cofactorOf rfl rfl rfl rfl
theorem dX6_cofactorOf_99 : dc cX6_cofactorOf 99 100 (.iload_n 2) 1 := o_28 ob_X6_cofactorOf rfl rfl rfl
theorem dX6_cofactorOf_100 : dc cX6_cofactorOf 100 101 (.iconst 2) 1 := o_5 ob_X6_cofactorOf rfl rfl rfl
theorem dX6_cofactorOf_101 : dc cX6_cofactorOf 101 102 .iadd 1 := o_96 ob_X6_cofactorOf rfl rfl rfl
theorem dX6_cofactorOf_102 : dc cX6_cofactorOf 102 105 (.invokevirtual 128) 3 := o_182 ob_X6_cofactorOf rfl rfl rfl rfl
theorem dX6_cofactorOf_105 : dc cX6_cofactorOf 105 106 (.aload_n 0) 1 := o_42 ob_X6_cofactorOf rfl rfl rfl
theorem dX6_cofactorOf_106 : dc cX6_cofactorOf 106 109 (.getfield 36) 3 := o_180 ob_X6_cofactorOf rfl rfl rfl rfl
theorem dX6_cofactorOf_109 : dc cX6_cofactorOf 109 110 (.iload_n 3) 1 := o_29 ob_X6_cofactorOf rfl rfl rfl
theorem dX6_cofactorOf_110 : dc cX6_cofactorOf 110 111 (.iconst 1) 1 := o_4 ob_X6_cofactorOf rfl rfl rfl
theorem dX6_cofactorOf_111 : dc cX6_cofactorOf 111 112 .iadd 1 := o_96 ob_X6_cofactorOf rfl rfl rfl
theorem dX6_cofactorOf_112 : dc cX6_cofactorOf 112 115 (.invokevirtual 128) 3 := o_182 ob_X6_cofactorOf rfl rfl rfl rfl
theorem dX6_cofactorOf_115 : dc cX6_cofactorOf 115 116 (.aload_n 0) 1 := o_42 ob_X6_cofactorOf rfl rfl rfl
theorem dX6_cofactorOf_116 : dc cX6_cofactorOf 116 119 (.getfield 36) 3 := o_180 ob_X6_cofactorOf rfl rfl rfl rfl
theorem dX6_cofactorOf_119 : dc cX6_cofactorOf 119 121 (.iload 4) 2 := o_21 ob_X6_cofactorOf rfl rfl rfl rfl
theorem dX6_cofactorOf_121 : dc cX6_cofactorOf 121 122 (.iconst 3) 1 := o_6 ob_X6_cofactorOf rfl rfl rfl
theorem dX6_cofactorOf_122 : dc cX6_cofactorOf 122 123 .iadd 1 := o_96 ob_X6_cofactorOf rfl rfl rfl
theorem dX6_cofactorOf_123 : dc cX6_cofactorOf 123 126 (.invokevirtual 128) 3 := o_182 ob_X6_cofactorOf rfl rfl rfl rfl
theorem dX6_cofactorOf_126 : dc cX6_cofactorOf 126 127 .lmul 1 := o_105 ob_X6_cofactorOf rfl rfl rfl
theorem dX6_cofactorOf_127 : dc cX6_cofactorOf 127 128 (.aload_n 0) 1 := o_42 ob_X6_cofactorOf rfl rfl rfl
theorem dX6_cofactorOf_128 : dc cX6_cofactorOf 128 131 (.getfield 36) 3 := o_180 ob_X6_cofactorOf rfl rfl rfl rfl
theorem dX6_cofactorOf_131 : dc cX6_cofactorOf 131 132 (.iload_n 3) 1 := o_29 ob_X6_cofactorOf rfl rfl rfl
theorem dX6_cofactorOf_132 : dc cX6_cofactorOf 132 133 (.iconst 3) 1 := o_6 ob_X6_cofactorOf rfl rfl rfl
theorem dX6_cofactorOf_133 : dc cX6_cofactorOf 133 134 .iadd 1 := o_96 ob_X6_cofactorOf rfl rfl rfl
theorem dX6_cofactorOf_134 : dc cX6_cofactorOf 134 137 (.invokevirtual 128) 3 := o_182 ob_X6_cofactorOf rfl rfl rfl rfl
theorem dX6_cofactorOf_137 : dc cX6_cofactorOf 137 138 (.aload_n 0) 1 := o_42 ob_X6_cofactorOf rfl rfl rfl
theorem dX6_cofactorOf_138 : dc cX6_cofactorOf 138 141 (.getfield 36) 3 := o_180 ob_X6_cofactorOf rfl rfl rfl rfl
theorem dX6_cofactorOf_141 : dc cX6_cofactorOf 141 143 (.iload 4) 2 := o_21 ob_X6_cofactorOf rfl rfl rfl rfl
theorem dX6_cofactorOf_143 : dc cX6_cofactorOf 143 144 (.iconst 1) 1 := o_4 ob_X6_cofactorOf rfl rfl rfl
theorem dX6_cofactorOf_144 : dc cX6_cofactorOf 144 145 .iadd 1 := o_96 ob_X6_cofactorOf rfl rfl rfl
theorem dX6_cofactorOf_145 : dc cX6_cofactorOf 145 148 (.invokevirtual 128) 3 := o_182 ob_X6_cofactorOf rfl rfl rfl rfl
theorem dX6_cofactorOf_148 : dc cX6_cofactorOf 148 149 .lmul 1 := o_105 ob_X6_cofactorOf rfl rfl rfl
theorem dX6_cofactorOf_149 : dc cX6_cofactorOf 149 150 .lsub 1 := o_101 ob_X6_cofactorOf rfl rfl rfl
theorem dX6_cofactorOf_150 : dc cX6_cofactorOf 150 151 .lmul 1 := o_105 ob_X6_cofactorOf rfl rfl rfl
theorem dX6_cofactorOf_151 : dc cX6_cofactorOf 151 152 .lsub 1 := o_101 ob_X6_cofactorOf rfl rfl rfl
theorem dX6_cofactorOf_152 : dc cX6_cofactorOf 152 153 (.aload_n 0) 1 := o_42 ob_X6_cofactorOf rfl rfl rfl
theorem dX6_cofactorOf_153 : dc cX6_cofactorOf 153 156 (.getfield 36) 3 := o_180 ob_X6_cofactorOf rfl rfl rfl rfl
theorem dX6_cofactorOf_156 : dc cX6_cofactorOf 156 157 (.iload_n 2) 1 := o_28 ob_X6_cofactorOf rfl rfl rfl
theorem dX6_cofactorOf_157 : dc cX6_cofactorOf 157 158 (.iconst 3) 1 := o_6 ob_X6_cofactorOf rfl rfl rfl
theorem dX6_cofactorOf_158 : dc cX6_cofactorOf 158 159 .iadd 1 := o_96 ob_X6_cofactorOf rfl rfl rfl
theorem dX6_cofactorOf_159 : dc cX6_cofactorOf 159 162 (.invokevirtual 128) 3 := o_182 ob_X6_cofactorOf rfl rfl rfl rfl
theorem dX6_cofactorOf_162 : dc cX6_cofactorOf 162 163 (.aload_n 0) 1 := o_42 ob_X6_cofactorOf rfl rfl rfl
theorem dX6_cofactorOf_163 : dc cX6_cofactorOf 163 166 (.getfield 36) 3 := o_180 ob_X6_cofactorOf rfl rfl rfl rfl
theorem dX6_cofactorOf_166 : dc cX6_cofactorOf 166 167 (.iload_n 3) 1 := o_29 ob_X6_cofactorOf rfl rfl rfl
theorem dX6_cofactorOf_167 : dc cX6_cofactorOf 167 168 (.iconst 1) 1 := o_4 ob_X6_cofactorOf rfl rfl rfl
theorem dX6_cofactorOf_168 : dc cX6_cofactorOf 168 169 .iadd 1 := o_96 ob_X6_cofactorOf rfl rfl rfl
theorem dX6_cofactorOf_169 : dc cX6_cofactorOf 169 172 (.invokevirtual 128) 3 := o_182 ob_X6_cofactorOf rfl rfl rfl rfl
theorem dX6_cofactorOf_172 : dc cX6_cofactorOf 172 173 (.aload_n 0) 1 := o_42 ob_X6_cofactorOf rfl rfl rfl
theorem dX6_cofactorOf_173 : dc cX6_cofactorOf 173 176 (.getfield 36) 3 := o_180 ob_X6_cofactorOf rfl rfl rfl rfl
theorem dX6_cofactorOf_176 : dc cX6_cofactorOf 176 178 (.iload 4) 2 := o_21 ob_X6_cofactorOf rfl rfl rfl rfl
theorem dX6_cofactorOf_178 : dc cX6_cofactorOf 178 179 (.iconst 2) 1 := o_5 ob_X6_cofactorOf rfl rfl rfl
theorem dX6_cofactorOf_179 : dc cX6_cofactorOf 179 180 .iadd 1 := o_96 ob_X6_cofactorOf rfl rfl rfl
theorem dX6_cofactorOf_180 : dc cX6_cofactorOf 180 183 (.invokevirtual 128) 3 := o_182 ob_X6_cofactorOf rfl rfl rfl rfl
theorem dX6_cofactorOf_183 : dc cX6_cofactorOf 183 184 .lmul 1 := o_105 ob_X6_cofactorOf rfl rfl rfl
theorem dX6_cofactorOf_184 : dc cX6_cofactorOf 184 185 (.aload_n 0) 1 := o_42 ob_X6_cofactorOf rfl rfl rfl
theorem dX6_cofactorOf_185 : dc cX6_cofactorOf 185 188 (.getfield 36) 3 := o_180 ob_X6_cofactorOf rfl rfl rfl rfl
theorem dX6_cofactorOf_188 : dc cX6_cofactorOf 188 189 (.iload_n 3) 1 := o_29 ob_X6_cofactorOf rfl rfl rfl
theorem dX6_cofactorOf_189 : dc cX6_cofactorOf 189 190 (.iconst 2) 1 := o_5 ob_X6_cofactorOf rfl rfl rfl
theorem dX6_cofactorOf_190 : dc cX6_cofactorOf 190 191 .iadd 1 := o_96 ob_X6_cofactorOf rfl rfl rfl
theorem dX6_cofactorOf_191 : dc cX6_cofactorOf 191 194 (.invokevirtual 128) 3 := o_182 ob_X6_cofactorOf rfl rfl rfl rfl
theorem dX6_cofactorOf_194 : dc cX6_cofactorOf 194 195 (.aload_n 0) 1 := o_42 ob_X6_cofactorOf rfl rfl rfl
theorem dX6_cofactorOf_195 : dc cX6_cofactorOf 195 198 (.getfield 36) 3 := o_180 ob_X6_cofactorOf rfl rfl rfl rfl
theorem dX6_cofactorOf_198 : dc cX6_cofactorOf 198 200 (.iload 4) 2 := o_21 ob_X6_cofactorOf rfl rfl rfl rfl
theorem dX6_cofactorOf_200 : dc cX6_cofactorOf 200 201 (.iconst 1) 1 := o_4 ob_X6_cofactorOf rfl rfl rfl
theorem dX6_cofactorOf_201 : dc cX6_cofactorOf 201 202 .iadd 1 := o_96 ob_X6_cofactorOf rfl rfl rfl
theorem dX6_cofactorOf_202 : dc cX6_cofactorOf 202 205 (.invokevirtual 128) 3 := o_182 ob_X6_cofactorOf rfl rfl rfl rfl
theorem dX6_cofactorOf_205 : dc cX6_cofactorOf 205 206 .lmul 1 := o_105 ob_X6_cofactorOf rfl rfl rfl
theorem dX6_cofactorOf_206 : dc cX6_cofactorOf 206 207 .lsub 1 := o_101 ob_X6_cofactorOf rfl rfl rfl
theorem dX6_cofactorOf_207 : dc cX6_cofactorOf 207 208 .lmul 1 := o_105 ob_X6_cofactorOf rfl rfl rfl
theorem dX6_cofactorOf_208 : dc cX6_cofactorOf 208 209 .ladd 1 := o_97 ob_X6_cofactorOf rfl rfl rfl
theorem dX6_cofactorOf_209 : dc cX6_cofactorOf 209 211 (.lstore 5) 2 := o_55 ob_X6_cofactorOf rfl rfl rfl rfl
theorem dX6_cofactorOf_211 : dc cX6_cofactorOf 211 212 (.iload_n 1) 1 := o_27 ob_X6_cofactorOf rfl rfl rfl
theorem dX6_cofactorOf_212 : dc cX6_cofactorOf 212 213 (.iconst 2) 1 := o_5 ob_X6_cofactorOf rfl rfl rfl
theorem dX6_cofactorOf_213 : dc cX6_cofactorOf 213 214 .irem 1 := o_112 ob_X6_cofactorOf rfl rfl rfl
theorem dX6_cofactorOf_214 : dc cX6_cofactorOf 214 217 (.ifCond .ne 8) 3 := o_154 ob_X6_cofactorOf rfl rfl rfl rfl
theorem dX6_cofactorOf_217 : dc cX6_cofactorOf 217 219 (.lload 5) 2 := o_22 ob_X6_cofactorOf rfl rfl rfl rfl
theorem dX6_cofactorOf_219 : dc cX6_cofactorOf 219 222 (.goto 6) 3 := o_167 ob_X6_cofactorOf rfl rfl rfl rfl
theorem dX6_cofactorOf_222 : dc cX6_cofactorOf 222 224 (.lload 5) 2 := o_22 ob_X6_cofactorOf rfl rfl rfl rfl
theorem dX6_cofactorOf_224 : dc cX6_cofactorOf 224 225 .lneg 1 := o_117 ob_X6_cofactorOf rfl rfl rfl
theorem dX6_cofactorOf_225 : dc cX6_cofactorOf 225 226 .lreturn 1 := o_173 ob_X6_cofactorOf rfl rfl rfl
def F_Pair_cofactorOf_j36 (x1 : Int32) (x2 : Int32) (x3 : Int32) (s0 : Int32) (s1 : Int32) (M : Mem) : Option (Int64) :=
  (F_Row_at 49 16 (x2 + 1) M).bind fun r1 => (F_Row_at 49 16 (x3 + 2) M).bind fun r2 => (F_Row_at 49 16 ((s0 * s1) + 3) M).bind fun r3 => (F_Row_at 49 16 (x3 + 3) M).bind fun r4 => (F_Row_at 49 16 ((s0 * s1) + 2) M).bind fun r5 => (F_Row_at 49 16 (x2 + 2) M).bind fun r6 => (F_Row_at 49 16 (x3 + 1) M).bind fun r7 => (F_Row_at 49 16 ((s0 * s1) + 3) M).bind fun r8 => (F_Row_at 49 16 (x3 + 3) M).bind fun r9 => (F_Row_at 49 16 ((s0 * s1) + 1) M).bind fun r10 => (F_Row_at 49 16 (x2 + 3) M).bind fun r11 => (F_Row_at 49 16 (x3 + 1) M).bind fun r12 => (F_Row_at 49 16 ((s0 * s1) + 2) M).bind fun r13 => (F_Row_at 49 16 (x3 + 2) M).bind fun r14 => (F_Row_at 49 16 ((s0 * s1) + 1) M).bind fun r15 => if (irm x1 2) = 0 then some (((r1 * ((r2 * r3) - (r4 * r5))) - (r6 * ((r7 * r8) - (r9 * r10)))) + (r11 * ((r12 * r13) - (r14 * r15)))) else some (-(((r1 * ((r2 * r3) - (r4 * r5))) - (r6 * ((r7 * r8) - (r9 * r10)))) + (r11 * ((r12 * r13) - (r14 * r15)))))
def F_Pair_cofactorOf_j23 (x1 : Int32) (x2 : Int32) (s0 : Int32) (s1 : Int32) (M : Mem) : Option (Int64) :=
  if 2 < x1 then F_Pair_cofactorOf_j36 x1 x2 (s0 * s1) 4 2 M else F_Pair_cofactorOf_j36 x1 x2 (s0 * s1) 4 3 M
def F_Pair_cofactorOf_j10 (x1 : Int32) (s0 : Int32) (s1 : Bool) (M : Mem) : Option (Int64) :=
  if 1 < x1 then F_Pair_cofactorOf_j23 x1 (s0 * ((b2i s1))) 4 1 M else F_Pair_cofactorOf_j23 x1 (s0 * ((b2i s1))) 4 2 M
def F_Pair_cofactorOf (x1 : Int32) (M : Mem) : Option (Int64) :=
  if x1 = 0 then F_Pair_cofactorOf_j10 x1 4 true M else F_Pair_cofactorOf_j10 x1 4 false M
set_option maxRecDepth 100000 in
set_option maxHeartbeats 4000000 in
theorem K_Pair_cofactorOf (l : Launch) (g : GB) (htr : l.stackTraces = false) (x1 : Int32) (M : Mem) (rr : Int64) (h : F_Pair_cofactorOf x1 M = some rr) : CT l g yX6_cofactorOf (.code yX6_cofactorOf cX6_cofactorOf 7 (some .long) :: wAll) { frames := 1, cells := 0, slots := 0, locals := 21 } [.ref (g.2.1 34), .int x1] M (.inl (some (.long rr))) M := by
  refine CT.of [(0, .ref (g.2.1 34)), (1, .int x1)] (by decide +kernel) (Nat.le_of_ble_eq_true rfl) rfl htr ?_
  intro p e s m args below meth c K hr ht
  skip
  obtain ⟨PHI, hPHI, h⟩ : ∃ PHI : Int64 → Prop, (∀ a, PHI a → a = rr) ∧ wpO (F_Pair_cofactorOf x1 M) PHI := ⟨fun a => a = rr, fun _ h => h, _, h, rfl⟩
  have J36 : ∀ (x1 : Int32) (x2 : Int32) (x3 : Int32) (s0 : Int32) (s1 : Int32), wpO (F_Pair_cofactorOf_j36 x1 x2 x3 s0 s1 M) PHI → GG p l e { frames := 1, cells := 0, slots := 0, locals := 21 } s m args below meth c g 7 (vx_MQ below (Qn g s.heap.size (.inl (some (.long rr))) M) (QX g s.heap.size (.inl (some (.long rr))) M) args s 0 0 (AS g s.heap.size)) 0 0 36 [(0, .ref (g.2.1 34)), (1, .int x1), (2, .int x2), (3, .int x3)] [.int s1, .int s0] M := by
    intro x1 x2 x3 s0 s1 h
    unfold F_Pair_cofactorOf_j36 at h
    refine G_imul K dX6_cofactorOf_36 ?_
    refine G_istore K dX6_cofactorOf_37 (Nat.le_of_ble_eq_true rfl) rfl ?_
    refine G_aload_n rfl 1 rfl K dX6_cofactorOf_39 ?_
    refine G_get (ci := 6) (k := 6) K rfl in_X6 wd_226 rfl dX6_cofactorOf_40 (Nat.le_of_ble_eq_true rfl) (sh_34 _ _) (Nat.le_of_ble_eq_true rfl) rfl ?_
    refine G_iload_n rfl 3 rfl K dX6_cofactorOf_43 ?_
    refine G_iconst (v := 1) rfl K dX6_cofactorOf_44 ?_
    refine G_iadd K dX6_cofactorOf_45 ?_
    obtain ⟨r1, e1, h⟩ := wpO_bind h
    refine G_callVl (ci := 7) [.int (x2 + 1)] [] K dX6_cofactorOf_46 wv_562 yd_X7_at (Nat.le_of_ble_eq_true rfl) (sh_48 _ _) rfl (by decide) (by decide) rfl rfl (Nat.le_of_ble_eq_true rfl) (K_Row_at l g htr 48 49 16 isRow_48 (x2 + 1) M _ e1) ?_
    refine G_aload_n rfl 1 rfl K dX6_cofactorOf_49 ?_
    refine G_get (ci := 6) (k := 6) K rfl in_X6 wd_226 rfl dX6_cofactorOf_50 (Nat.le_of_ble_eq_true rfl) (sh_34 _ _) (Nat.le_of_ble_eq_true rfl) rfl ?_
    refine G_iload_n rfl 4 rfl K dX6_cofactorOf_53 ?_
    refine G_iconst (v := 2) rfl K dX6_cofactorOf_54 ?_
    refine G_iadd K dX6_cofactorOf_55 ?_
    obtain ⟨r2, e2, h⟩ := wpO_bind h
    refine G_callVl (ci := 7) [.int (x3 + 2)] [.long r1] K dX6_cofactorOf_56 wv_562 yd_X7_at (Nat.le_of_ble_eq_true rfl) (sh_48 _ _) rfl (by decide) (by decide) rfl rfl (Nat.le_of_ble_eq_true rfl) (K_Row_at l g htr 48 49 16 isRow_48 (x3 + 2) M _ e2) ?_
    refine G_aload_n rfl 1 rfl K dX6_cofactorOf_59 ?_
    refine G_get (ci := 6) (k := 6) K rfl in_X6 wd_226 rfl dX6_cofactorOf_60 (Nat.le_of_ble_eq_true rfl) (sh_34 _ _) (Nat.le_of_ble_eq_true rfl) rfl ?_
    refine G_iload 0 rfl K dX6_cofactorOf_63 ?_
    refine G_iconst (v := 3) rfl K dX6_cofactorOf_65 ?_
    refine G_iadd K dX6_cofactorOf_66 ?_
    obtain ⟨r3, e3, h⟩ := wpO_bind h
    refine G_callVl (ci := 7) [.int ((s0 * s1) + 3)] [.long r2, .long r1] K dX6_cofactorOf_67 wv_562 yd_X7_at (Nat.le_of_ble_eq_true rfl) (sh_48 _ _) rfl (by decide) (by decide) rfl rfl (Nat.le_of_ble_eq_true rfl) (K_Row_at l g htr 48 49 16 isRow_48 ((s0 * s1) + 3) M _ e3) ?_
    refine G_lmul K dX6_cofactorOf_70 ?_
    refine G_aload_n rfl 1 rfl K dX6_cofactorOf_71 ?_
    refine G_get (ci := 6) (k := 6) K rfl in_X6 wd_226 rfl dX6_cofactorOf_72 (Nat.le_of_ble_eq_true rfl) (sh_34 _ _) (Nat.le_of_ble_eq_true rfl) rfl ?_
    refine G_iload_n rfl 4 rfl K dX6_cofactorOf_75 ?_
    refine G_iconst (v := 3) rfl K dX6_cofactorOf_76 ?_
    refine G_iadd K dX6_cofactorOf_77 ?_
    obtain ⟨r4, e4, h⟩ := wpO_bind h
    refine G_callVl (ci := 7) [.int (x3 + 3)] [.long (r2 * r3), .long r1] K dX6_cofactorOf_78 wv_562 yd_X7_at (Nat.le_of_ble_eq_true rfl) (sh_48 _ _) rfl (by decide) (by decide) rfl rfl (Nat.le_of_ble_eq_true rfl) (K_Row_at l g htr 48 49 16 isRow_48 (x3 + 3) M _ e4) ?_
    refine G_aload_n rfl 1 rfl K dX6_cofactorOf_81 ?_
    refine G_get (ci := 6) (k := 6) K rfl in_X6 wd_226 rfl dX6_cofactorOf_82 (Nat.le_of_ble_eq_true rfl) (sh_34 _ _) (Nat.le_of_ble_eq_true rfl) rfl ?_
    refine G_iload 0 rfl K dX6_cofactorOf_85 ?_
    refine G_iconst (v := 2) rfl K dX6_cofactorOf_87 ?_
    refine G_iadd K dX6_cofactorOf_88 ?_
    obtain ⟨r5, e5, h⟩ := wpO_bind h
    refine G_callVl (ci := 7) [.int ((s0 * s1) + 2)] [.long r4, .long (r2 * r3), .long r1] K dX6_cofactorOf_89 wv_562 yd_X7_at (Nat.le_of_ble_eq_true rfl) (sh_48 _ _) rfl (by decide) (by decide) rfl rfl (Nat.le_of_ble_eq_true rfl) (K_Row_at l g htr 48 49 16 isRow_48 ((s0 * s1) + 2) M _ e5) ?_
    refine G_lmul K dX6_cofactorOf_92 ?_
    refine G_lsub K dX6_cofactorOf_93 ?_
    refine G_lmul K dX6_cofactorOf_94 ?_
    refine G_aload_n rfl 1 rfl K dX6_cofactorOf_95 ?_
    refine G_get (ci := 6) (k := 6) K rfl in_X6 wd_226 rfl dX6_cofactorOf_96 (Nat.le_of_ble_eq_true rfl) (sh_34 _ _) (Nat.le_of_ble_eq_true rfl) rfl ?_
    refine G_iload_n rfl 3 rfl K dX6_cofactorOf_99 ?_
    refine G_iconst (v := 2) rfl K dX6_cofactorOf_100 ?_
    refine G_iadd K dX6_cofactorOf_101 ?_
    obtain ⟨r6, e6, h⟩ := wpO_bind h
    refine G_callVl (ci := 7) [.int (x2 + 2)] [.long (r1 * ((r2 * r3) - (r4 * r5)))] K dX6_cofactorOf_102 wv_562 yd_X7_at (Nat.le_of_ble_eq_true rfl) (sh_48 _ _) rfl (by decide) (by decide) rfl rfl (Nat.le_of_ble_eq_true rfl) (K_Row_at l g htr 48 49 16 isRow_48 (x2 + 2) M _ e6) ?_
    refine G_aload_n rfl 1 rfl K dX6_cofactorOf_105 ?_
    refine G_get (ci := 6) (k := 6) K rfl in_X6 wd_226 rfl dX6_cofactorOf_106 (Nat.le_of_ble_eq_true rfl) (sh_34 _ _) (Nat.le_of_ble_eq_true rfl) rfl ?_
    refine G_iload_n rfl 4 rfl K dX6_cofactorOf_109 ?_
    refine G_iconst (v := 1) rfl K dX6_cofactorOf_110 ?_
    refine G_iadd K dX6_cofactorOf_111 ?_
    obtain ⟨r7, e7, h⟩ := wpO_bind h
    refine G_callVl (ci := 7) [.int (x3 + 1)] [.long r6, .long (r1 * ((r2 * r3) - (r4 * r5)))] K dX6_cofactorOf_112 wv_562 yd_X7_at (Nat.le_of_ble_eq_true rfl) (sh_48 _ _) rfl (by decide) (by decide) rfl rfl (Nat.le_of_ble_eq_true rfl) (K_Row_at l g htr 48 49 16 isRow_48 (x3 + 1) M _ e7) ?_
    refine G_aload_n rfl 1 rfl K dX6_cofactorOf_115 ?_
    refine G_get (ci := 6) (k := 6) K rfl in_X6 wd_226 rfl dX6_cofactorOf_116 (Nat.le_of_ble_eq_true rfl) (sh_34 _ _) (Nat.le_of_ble_eq_true rfl) rfl ?_
    refine G_iload 0 rfl K dX6_cofactorOf_119 ?_
    refine G_iconst (v := 3) rfl K dX6_cofactorOf_121 ?_
    refine G_iadd K dX6_cofactorOf_122 ?_
    obtain ⟨r8, e8, h⟩ := wpO_bind h
    refine G_callVl (ci := 7) [.int ((s0 * s1) + 3)] [.long r7, .long r6, .long (r1 * ((r2 * r3) - (r4 * r5)))] K dX6_cofactorOf_123 wv_562 yd_X7_at (Nat.le_of_ble_eq_true rfl) (sh_48 _ _) rfl (by decide) (by decide) rfl rfl (Nat.le_of_ble_eq_true rfl) (K_Row_at l g htr 48 49 16 isRow_48 ((s0 * s1) + 3) M _ e8) ?_
    refine G_lmul K dX6_cofactorOf_126 ?_
    refine G_aload_n rfl 1 rfl K dX6_cofactorOf_127 ?_
    refine G_get (ci := 6) (k := 6) K rfl in_X6 wd_226 rfl dX6_cofactorOf_128 (Nat.le_of_ble_eq_true rfl) (sh_34 _ _) (Nat.le_of_ble_eq_true rfl) rfl ?_
    refine G_iload_n rfl 4 rfl K dX6_cofactorOf_131 ?_
    refine G_iconst (v := 3) rfl K dX6_cofactorOf_132 ?_
    refine G_iadd K dX6_cofactorOf_133 ?_
    obtain ⟨r9, e9, h⟩ := wpO_bind h
    refine G_callVl (ci := 7) [.int (x3 + 3)] [.long (r7 * r8), .long r6, .long (r1 * ((r2 * r3) - (r4 * r5)))] K dX6_cofactorOf_134 wv_562 yd_X7_at (Nat.le_of_ble_eq_true rfl) (sh_48 _ _) rfl (by decide) (by decide) rfl rfl (Nat.le_of_ble_eq_true rfl) (K_Row_at l g htr 48 49 16 isRow_48 (x3 + 3) M _ e9) ?_
    refine G_aload_n rfl 1 rfl K dX6_cofactorOf_137 ?_
    refine G_get (ci := 6) (k := 6) K rfl in_X6 wd_226 rfl dX6_cofactorOf_138 (Nat.le_of_ble_eq_true rfl) (sh_34 _ _) (Nat.le_of_ble_eq_true rfl) rfl ?_
    refine G_iload 0 rfl K dX6_cofactorOf_141 ?_
    refine G_iconst (v := 1) rfl K dX6_cofactorOf_143 ?_
    refine G_iadd K dX6_cofactorOf_144 ?_
    obtain ⟨r10, e10, h⟩ := wpO_bind h
    refine G_callVl (ci := 7) [.int ((s0 * s1) + 1)] [.long r9, .long (r7 * r8), .long r6, .long (r1 * ((r2 * r3) - (r4 * r5)))] K dX6_cofactorOf_145 wv_562 yd_X7_at (Nat.le_of_ble_eq_true rfl) (sh_48 _ _) rfl (by decide) (by decide) rfl rfl (Nat.le_of_ble_eq_true rfl) (K_Row_at l g htr 48 49 16 isRow_48 ((s0 * s1) + 1) M _ e10) ?_
    refine G_lmul K dX6_cofactorOf_148 ?_
    refine G_lsub K dX6_cofactorOf_149 ?_
    refine G_lmul K dX6_cofactorOf_150 ?_
    refine G_lsub K dX6_cofactorOf_151 ?_
    refine G_aload_n rfl 1 rfl K dX6_cofactorOf_152 ?_
    refine G_get (ci := 6) (k := 6) K rfl in_X6 wd_226 rfl dX6_cofactorOf_153 (Nat.le_of_ble_eq_true rfl) (sh_34 _ _) (Nat.le_of_ble_eq_true rfl) rfl ?_
    refine G_iload_n rfl 3 rfl K dX6_cofactorOf_156 ?_
    refine G_iconst (v := 3) rfl K dX6_cofactorOf_157 ?_
    refine G_iadd K dX6_cofactorOf_158 ?_
    obtain ⟨r11, e11, h⟩ := wpO_bind h
    refine G_callVl (ci := 7) [.int (x2 + 3)] [.long ((r1 * ((r2 * r3) - (r4 * r5))) - (r6 * ((r7 * r8) - (r9 * r10))))] K dX6_cofactorOf_159 wv_562 yd_X7_at (Nat.le_of_ble_eq_true rfl) (sh_48 _ _) rfl (by decide) (by decide) rfl rfl (Nat.le_of_ble_eq_true rfl) (K_Row_at l g htr 48 49 16 isRow_48 (x2 + 3) M _ e11) ?_
    refine G_aload_n rfl 1 rfl K dX6_cofactorOf_162 ?_
    refine G_get (ci := 6) (k := 6) K rfl in_X6 wd_226 rfl dX6_cofactorOf_163 (Nat.le_of_ble_eq_true rfl) (sh_34 _ _) (Nat.le_of_ble_eq_true rfl) rfl ?_
    refine G_iload_n rfl 4 rfl K dX6_cofactorOf_166 ?_
    refine G_iconst (v := 1) rfl K dX6_cofactorOf_167 ?_
    refine G_iadd K dX6_cofactorOf_168 ?_
    obtain ⟨r12, e12, h⟩ := wpO_bind h
    refine G_callVl (ci := 7) [.int (x3 + 1)] [.long r11, .long ((r1 * ((r2 * r3) - (r4 * r5))) - (r6 * ((r7 * r8) - (r9 * r10))))] K dX6_cofactorOf_169 wv_562 yd_X7_at (Nat.le_of_ble_eq_true rfl) (sh_48 _ _) rfl (by decide) (by decide) rfl rfl (Nat.le_of_ble_eq_true rfl) (K_Row_at l g htr 48 49 16 isRow_48 (x3 + 1) M _ e12) ?_
    refine G_aload_n rfl 1 rfl K dX6_cofactorOf_172 ?_
    refine G_get (ci := 6) (k := 6) K rfl in_X6 wd_226 rfl dX6_cofactorOf_173 (Nat.le_of_ble_eq_true rfl) (sh_34 _ _) (Nat.le_of_ble_eq_true rfl) rfl ?_
    refine G_iload 0 rfl K dX6_cofactorOf_176 ?_
    refine G_iconst (v := 2) rfl K dX6_cofactorOf_178 ?_
    refine G_iadd K dX6_cofactorOf_179 ?_
    obtain ⟨r13, e13, h⟩ := wpO_bind h
    refine G_callVl (ci := 7) [.int ((s0 * s1) + 2)] [.long r12, .long r11, .long ((r1 * ((r2 * r3) - (r4 * r5))) - (r6 * ((r7 * r8) - (r9 * r10))))] K dX6_cofactorOf_180 wv_562 yd_X7_at (Nat.le_of_ble_eq_true rfl) (sh_48 _ _) rfl (by decide) (by decide) rfl rfl (Nat.le_of_ble_eq_true rfl) (K_Row_at l g htr 48 49 16 isRow_48 ((s0 * s1) + 2) M _ e13) ?_
    refine G_lmul K dX6_cofactorOf_183 ?_
    refine G_aload_n rfl 1 rfl K dX6_cofactorOf_184 ?_
    refine G_get (ci := 6) (k := 6) K rfl in_X6 wd_226 rfl dX6_cofactorOf_185 (Nat.le_of_ble_eq_true rfl) (sh_34 _ _) (Nat.le_of_ble_eq_true rfl) rfl ?_
    refine G_iload_n rfl 4 rfl K dX6_cofactorOf_188 ?_
    refine G_iconst (v := 2) rfl K dX6_cofactorOf_189 ?_
    refine G_iadd K dX6_cofactorOf_190 ?_
    obtain ⟨r14, e14, h⟩ := wpO_bind h
    refine G_callVl (ci := 7) [.int (x3 + 2)] [.long (r12 * r13), .long r11, .long ((r1 * ((r2 * r3) - (r4 * r5))) - (r6 * ((r7 * r8) - (r9 * r10))))] K dX6_cofactorOf_191 wv_562 yd_X7_at (Nat.le_of_ble_eq_true rfl) (sh_48 _ _) rfl (by decide) (by decide) rfl rfl (Nat.le_of_ble_eq_true rfl) (K_Row_at l g htr 48 49 16 isRow_48 (x3 + 2) M _ e14) ?_
    refine G_aload_n rfl 1 rfl K dX6_cofactorOf_194 ?_
    refine G_get (ci := 6) (k := 6) K rfl in_X6 wd_226 rfl dX6_cofactorOf_195 (Nat.le_of_ble_eq_true rfl) (sh_34 _ _) (Nat.le_of_ble_eq_true rfl) rfl ?_
    refine G_iload 0 rfl K dX6_cofactorOf_198 ?_
    refine G_iconst (v := 1) rfl K dX6_cofactorOf_200 ?_
    refine G_iadd K dX6_cofactorOf_201 ?_
    obtain ⟨r15, e15, h⟩ := wpO_bind h
    refine G_callVl (ci := 7) [.int ((s0 * s1) + 1)] [.long r14, .long (r12 * r13), .long r11, .long ((r1 * ((r2 * r3) - (r4 * r5))) - (r6 * ((r7 * r8) - (r9 * r10))))] K dX6_cofactorOf_202 wv_562 yd_X7_at (Nat.le_of_ble_eq_true rfl) (sh_48 _ _) rfl (by decide) (by decide) rfl rfl (Nat.le_of_ble_eq_true rfl) (K_Row_at l g htr 48 49 16 isRow_48 ((s0 * s1) + 1) M _ e15) ?_
    refine G_lmul K dX6_cofactorOf_205 ?_
    refine G_lsub K dX6_cofactorOf_206 ?_
    refine G_lmul K dX6_cofactorOf_207 ?_
    refine G_ladd K dX6_cofactorOf_208 ?_
    refine G_lstore K dX6_cofactorOf_209 (Nat.le_of_ble_eq_true rfl) rfl ?_
    refine G_iload_n rfl 3 rfl K dX6_cofactorOf_211 ?_
    refine G_iconst (v := 2) rfl K dX6_cofactorOf_212 ?_
    refine G_irem (by decide) K dX6_cofactorOf_213 ?_
    refine G_if_ne (tgt := 222) K dX6_cofactorOf_214 (by decide) (fun hc => ?_) (fun hc => ?_)
    · have h := wpO_f h hc
      refine G_lload 0 rfl K dX6_cofactorOf_222 ?_
      refine G_lneg K dX6_cofactorOf_224 ?_
      cases hPHI _ (wpO_some h)
      exact G_lret K hr dX6_cofactorOf_225 (Nat.le_of_ble_eq_true rfl) (Nat.le_of_ble_eq_true rfl) ⟨rfl, rfl⟩
    · have h := wpO_t h hc
      refine G_lload 0 rfl K dX6_cofactorOf_217 ?_
      refine G_goto (tgt := 225) K dX6_cofactorOf_219 (by decide) ?_
      cases hPHI _ (wpO_some h)
      exact G_lret K hr dX6_cofactorOf_225 (Nat.le_of_ble_eq_true rfl) (Nat.le_of_ble_eq_true rfl) ⟨rfl, rfl⟩
  have J23 : ∀ (x1 : Int32) (x2 : Int32) (s0 : Int32) (s1 : Int32), wpO (F_Pair_cofactorOf_j23 x1 x2 s0 s1 M) PHI → GG p l e { frames := 1, cells := 0, slots := 0, locals := 21 } s m args below meth c g 7 (vx_MQ below (Qn g s.heap.size (.inl (some (.long rr))) M) (QX g s.heap.size (.inl (some (.long rr))) M) args s 0 0 (AS g s.heap.size)) 0 0 23 [(0, .ref (g.2.1 34)), (1, .int x1), (2, .int x2)] [.int s1, .int s0] M := by
    intro x1 x2 s0 s1 h
    unfold F_Pair_cofactorOf_j23 at h
    refine G_imul K dX6_cofactorOf_23 ?_
    refine G_istore_n rfl K dX6_cofactorOf_24 (Nat.le_of_ble_eq_true rfl) rfl ?_
    refine G_iconst (v := 4) rfl K dX6_cofactorOf_25 ?_
    refine G_iload_n rfl 2 rfl K dX6_cofactorOf_26 ?_
    refine G_iconst (v := 2) rfl K dX6_cofactorOf_27 ?_
    refine G_icmp_gt (tgt := 35) K dX6_cofactorOf_28 (by decide) (fun hc => ?_) (fun hc => ?_)
    · have h := wpO_t h hc
      refine G_iconst (v := 2) rfl K dX6_cofactorOf_35 ?_
      exact G_lv (lv' := [(0, .ref (g.2.1 34)), (1, .int x1), (2, .int x2), (3, .int (s0 * s1))]) [1, 2, 3, 0] rfl (J36 x1 x2 (s0 * s1) 4 2 h)
    · have h := wpO_f h hc
      refine G_iconst (v := 3) rfl K dX6_cofactorOf_31 ?_
      refine G_goto (tgt := 36) K dX6_cofactorOf_32 (by decide) ?_
      exact G_lv (lv' := [(0, .ref (g.2.1 34)), (1, .int x1), (2, .int x2), (3, .int (s0 * s1))]) [1, 2, 3, 0] rfl (J36 x1 x2 (s0 * s1) 4 3 h)
  have J10 : ∀ (x1 : Int32) (s0 : Int32) (s1 : Bool), wpO (F_Pair_cofactorOf_j10 x1 s0 s1 M) PHI → GG p l e { frames := 1, cells := 0, slots := 0, locals := 21 } s m args below meth c g 7 (vx_MQ below (Qn g s.heap.size (.inl (some (.long rr))) M) (QX g s.heap.size (.inl (some (.long rr))) M) args s 0 0 (AS g s.heap.size)) 0 0 10 [(0, .ref (g.2.1 34)), (1, .int x1)] [.int ((b2i s1)), .int s0] M := by
    intro x1 s0 s1 h
    unfold F_Pair_cofactorOf_j10 at h
    refine G_imul K dX6_cofactorOf_10 ?_
    refine G_istore_n rfl K dX6_cofactorOf_11 (Nat.le_of_ble_eq_true rfl) rfl ?_
    refine G_iconst (v := 4) rfl K dX6_cofactorOf_12 ?_
    refine G_iload_n rfl 2 rfl K dX6_cofactorOf_13 ?_
    refine G_iconst (v := 1) rfl K dX6_cofactorOf_14 ?_
    refine G_icmp_gt (tgt := 22) K dX6_cofactorOf_15 (by decide) (fun hc => ?_) (fun hc => ?_)
    · have h := wpO_t h hc
      refine G_iconst (v := 1) rfl K dX6_cofactorOf_22 ?_
      exact G_lv (lv' := [(0, .ref (g.2.1 34)), (1, .int x1), (2, .int (s0 * ((b2i s1))))]) [1, 2, 0] rfl (J23 x1 (s0 * ((b2i s1))) 4 1 h)
    · have h := wpO_f h hc
      refine G_iconst (v := 2) rfl K dX6_cofactorOf_18 ?_
      refine G_goto (tgt := 23) K dX6_cofactorOf_19 (by decide) ?_
      exact G_lv (lv' := [(0, .ref (g.2.1 34)), (1, .int x1), (2, .int (s0 * ((b2i s1))))]) [1, 2, 0] rfl (J23 x1 (s0 * ((b2i s1))) 4 2 h)
  unfold F_Pair_cofactorOf at h
  refine G_iconst (v := 4) rfl K dX6_cofactorOf_0 ?_
  refine G_iload_n rfl 1 rfl K dX6_cofactorOf_1 ?_
  refine G_if_ne (tgt := 9) K dX6_cofactorOf_2 (by decide) (fun hc => ?_) (fun hc => ?_)
  · have h := wpO_f h hc
    refine G_iconst (v := 0) rfl K dX6_cofactorOf_9 ?_
    exact J10 x1 4 false h
  · have h := wpO_t h hc
    refine G_iconst (v := 1) rfl K dX6_cofactorOf_5 ?_
    refine G_goto (tgt := 10) K dX6_cofactorOf_6 (by decide) ?_
    exact J10 x1 4 true h
theorem yd_X6_cofactorOf : ydN yX6_cofactorOf 1 := ⟨by decide, by decide, by decide +kernel⟩
theorem yd_X6_fillDoubts : ydN yX6_fillDoubts 0 := ⟨by decide, by decide, by decide +kernel⟩
theorem wv_1205 : wdV "KeptWell$Pair" 155 yX6_fillDoubts cX6_fillDoubts 4 none := ⟨wd_1205, wd_1207, ws_X6_fillDoubts, wd_6, wd_1208⟩
theorem wv_1224 : wdV "KeptWell$Pair" 161 yX5_be cX5_be 7 none := ⟨wd_1224, wd_970, wd_971, wd_13, wd_972⟩
theorem wv_1220 : wdV "KeptWell$Pair" 158 yX6_cofactorOf cX6_cofactorOf 7 (some .long) := ⟨wd_1220, wd_1222, ws_X6_cofactorOf, wd_6, wd_1223⟩
def on_X6_tellDoubted : Nat := 0xb1a100b6690616a800b42d6569a800b42d0416690616a400b42d2d5400b62d1b030c00b42a0637a800b42d0437a400b42d3300991ca100b6061604162dc7ffa70108840637616909168000b6680815072400b42a06160437616909168000b6601b680815052800b42a041609379e00b608152a3900a20708150836030637090437099b00b62a
theorem ob_X6_tellDoubted : OKB cX6_tellDoubted on_X6_tellDoubted 134 := ⟨by decide +kernel, by decide +kernel⟩
theorem dX6_tellDoubted_0 : dc cX6_tellDoubted 0 1 (.aload_n 0) 1 := o_42 ob_X6_tellDoubted rfl rfl rfl
theorem dX6_tellDoubted_1 : dc cX6_tellDoubted 1 4 (.invokevirtual 155) 3 := o_182 ob_X6_tellDoubted rfl rfl rfl rfl
theorem dX6_tellDoubted_4 : dc cX6_tellDoubted 4 5 (.lconst 0) 1 := o_9 ob_X6_tellDoubted rfl rfl rfl
theorem dX6_tellDoubted_5 : dc cX6_tellDoubted 5 7 (.lstore 4) 2 := o_55 ob_X6_tellDoubted rfl rfl rfl rfl
theorem dX6_tellDoubted_7 : dc cX6_tellDoubted 7 8 (.lconst 0) 1 := o_9 ob_X6_tellDoubted rfl rfl rfl
theorem dX6_tellDoubted_8 : dc cX6_tellDoubted 8 10 (.lstore 6) 2 := o_55 ob_X6_tellDoubted rfl rfl rfl rfl
theorem dX6_tellDoubted_10 : dc cX6_tellDoubted 10 11 (.iconst 0) 1 := o_3 ob_X6_tellDoubted rfl rfl rfl
theorem dX6_tellDoubted_11 : dc cX6_tellDoubted 11 13 (.istore 8) 2 := o_54 ob_X6_tellDoubted rfl rfl rfl rfl
theorem dX6_tellDoubted_13 : dc cX6_tellDoubted 13 15 (.iload 8) 2 := o_21 ob_X6_tellDoubted rfl rfl rfl rfl
theorem dX6_tellDoubted_15 : dc cX6_tellDoubted 15 16 (.iconst 4) 1 := o_7 ob_X6_tellDoubted rfl rfl rfl
theorem dX6_tellDoubted_16 : dc cX6_tellDoubted 16 19 (.if_icmp .ge 57) 3 := o_162 ob_X6_tellDoubted rfl rfl rfl rfl
theorem dX6_tellDoubted_19 : dc cX6_tellDoubted 19 20 (.aload_n 0) 1 := o_42 ob_X6_tellDoubted rfl rfl rfl
theorem dX6_tellDoubted_20 : dc cX6_tellDoubted 20 22 (.iload 8) 2 := o_21 ob_X6_tellDoubted rfl rfl rfl rfl
theorem dX6_tellDoubted_22 : dc cX6_tellDoubted 22 25 (.invokevirtual 158) 3 := o_182 ob_X6_tellDoubted rfl rfl rfl rfl
theorem dX6_tellDoubted_25 : dc cX6_tellDoubted 25 27 (.lstore 9) 2 := o_55 ob_X6_tellDoubted rfl rfl rfl rfl
theorem dX6_tellDoubted_27 : dc cX6_tellDoubted 27 29 (.lload 4) 2 := o_22 ob_X6_tellDoubted rfl rfl rfl rfl
theorem dX6_tellDoubted_29 : dc cX6_tellDoubted 29 30 (.aload_n 0) 1 := o_42 ob_X6_tellDoubted rfl rfl rfl
theorem dX6_tellDoubted_30 : dc cX6_tellDoubted 30 33 (.getfield 40) 3 := o_180 ob_X6_tellDoubted rfl rfl rfl rfl
theorem dX6_tellDoubted_33 : dc cX6_tellDoubted 33 34 (.iconst 2) 1 := o_5 ob_X6_tellDoubted rfl rfl rfl
theorem dX6_tellDoubted_34 : dc cX6_tellDoubted 34 36 (.iload 8) 2 := o_21 ob_X6_tellDoubted rfl rfl rfl rfl
theorem dX6_tellDoubted_36 : dc cX6_tellDoubted 36 37 .imul 1 := o_104 ob_X6_tellDoubted rfl rfl rfl
theorem dX6_tellDoubted_37 : dc cX6_tellDoubted 37 38 (.iload_n 1) 1 := o_27 ob_X6_tellDoubted rfl rfl rfl
theorem dX6_tellDoubted_38 : dc cX6_tellDoubted 38 39 .iadd 1 := o_96 ob_X6_tellDoubted rfl rfl rfl
theorem dX6_tellDoubted_39 : dc cX6_tellDoubted 39 42 (.invokevirtual 128) 3 := o_182 ob_X6_tellDoubted rfl rfl rfl rfl
theorem dX6_tellDoubted_42 : dc cX6_tellDoubted 42 44 (.lload 9) 2 := o_22 ob_X6_tellDoubted rfl rfl rfl rfl
theorem dX6_tellDoubted_44 : dc cX6_tellDoubted 44 45 .lmul 1 := o_105 ob_X6_tellDoubted rfl rfl rfl
theorem dX6_tellDoubted_45 : dc cX6_tellDoubted 45 46 .ladd 1 := o_97 ob_X6_tellDoubted rfl rfl rfl
theorem dX6_tellDoubted_46 : dc cX6_tellDoubted 46 48 (.lstore 4) 2 := o_55 ob_X6_tellDoubted rfl rfl rfl rfl
theorem dX6_tellDoubted_48 : dc cX6_tellDoubted 48 50 (.lload 6) 2 := o_22 ob_X6_tellDoubted rfl rfl rfl rfl
theorem dX6_tellDoubted_50 : dc cX6_tellDoubted 50 51 (.aload_n 0) 1 := o_42 ob_X6_tellDoubted rfl rfl rfl
theorem dX6_tellDoubted_51 : dc cX6_tellDoubted 51 54 (.getfield 36) 3 := o_180 ob_X6_tellDoubted rfl rfl rfl rfl
theorem dX6_tellDoubted_54 : dc cX6_tellDoubted 54 55 (.iconst 4) 1 := o_7 ob_X6_tellDoubted rfl rfl rfl
theorem dX6_tellDoubted_55 : dc cX6_tellDoubted 55 57 (.iload 8) 2 := o_21 ob_X6_tellDoubted rfl rfl rfl rfl
theorem dX6_tellDoubted_57 : dc cX6_tellDoubted 57 58 .imul 1 := o_104 ob_X6_tellDoubted rfl rfl rfl
theorem dX6_tellDoubted_58 : dc cX6_tellDoubted 58 61 (.invokevirtual 128) 3 := o_182 ob_X6_tellDoubted rfl rfl rfl rfl
theorem dX6_tellDoubted_61 : dc cX6_tellDoubted 61 63 (.lload 9) 2 := o_22 ob_X6_tellDoubted rfl rfl rfl rfl
theorem dX6_tellDoubted_63 : dc cX6_tellDoubted 63 64 .lmul 1 := o_105 ob_X6_tellDoubted rfl rfl rfl
theorem dX6_tellDoubted_64 : dc cX6_tellDoubted 64 65 .ladd 1 := o_97 ob_X6_tellDoubted rfl rfl rfl
theorem dX6_tellDoubted_65 : dc cX6_tellDoubted 65 67 (.lstore 6) 2 := o_55 ob_X6_tellDoubted rfl rfl rfl rfl
theorem dX6_tellDoubted_67 : dc cX6_tellDoubted 67 70 (.iinc 8 1) 3 := o_132 ob_X6_tellDoubted rfl rfl rfl rfl rfl
theorem dX6_tellDoubted_70 : dc cX6_tellDoubted 70 73 (.goto (-57)) 3 := o_167 ob_X6_tellDoubted rfl rfl rfl rfl
theorem dX6_tellDoubted_73 : dc cX6_tellDoubted 73 74 (.aload_n 3) 1 := o_45 ob_X6_tellDoubted rfl rfl rfl
theorem dX6_tellDoubted_74 : dc cX6_tellDoubted 74 76 (.lload 4) 2 := o_22 ob_X6_tellDoubted rfl rfl rfl rfl
theorem dX6_tellDoubted_76 : dc cX6_tellDoubted 76 78 (.lload 6) 2 := o_22 ob_X6_tellDoubted rfl rfl rfl rfl
theorem dX6_tellDoubted_78 : dc cX6_tellDoubted 78 81 (.invokevirtual 161) 3 := o_182 ob_X6_tellDoubted rfl rfl rfl rfl
theorem dX6_tellDoubted_81 : dc cX6_tellDoubted 81 82 (.iload_n 2) 1 := o_28 ob_X6_tellDoubted rfl rfl rfl
theorem dX6_tellDoubted_82 : dc cX6_tellDoubted 82 85 (.ifCond .eq 51) 3 := o_153 ob_X6_tellDoubted rfl rfl rfl rfl
theorem dX6_tellDoubted_85 : dc cX6_tellDoubted 85 86 (.aload_n 3) 1 := o_45 ob_X6_tellDoubted rfl rfl rfl
theorem dX6_tellDoubted_86 : dc cX6_tellDoubted 86 89 (.getfield 164) 3 := o_180 ob_X6_tellDoubted rfl rfl rfl rfl
theorem dX6_tellDoubted_89 : dc cX6_tellDoubted 89 91 (.lstore 4) 2 := o_55 ob_X6_tellDoubted rfl rfl rfl rfl
theorem dX6_tellDoubted_91 : dc cX6_tellDoubted 91 92 (.aload_n 3) 1 := o_45 ob_X6_tellDoubted rfl rfl rfl
theorem dX6_tellDoubted_92 : dc cX6_tellDoubted 92 95 (.getfield 168) 3 := o_180 ob_X6_tellDoubted rfl rfl rfl rfl
theorem dX6_tellDoubted_95 : dc cX6_tellDoubted 95 97 (.lstore 6) 2 := o_55 ob_X6_tellDoubted rfl rfl rfl rfl
theorem dX6_tellDoubted_97 : dc cX6_tellDoubted 97 98 (.aload_n 0) 1 := o_42 ob_X6_tellDoubted rfl rfl rfl
theorem dX6_tellDoubted_98 : dc cX6_tellDoubted 98 101 (.getfield 12) 3 := o_180 ob_X6_tellDoubted rfl rfl rfl rfl
theorem dX6_tellDoubted_101 : dc cX6_tellDoubted 101 102 (.iconst 0) 1 := o_3 ob_X6_tellDoubted rfl rfl rfl
theorem dX6_tellDoubted_102 : dc cX6_tellDoubted 102 103 (.iload_n 1) 1 := o_27 ob_X6_tellDoubted rfl rfl rfl
theorem dX6_tellDoubted_103 : dc cX6_tellDoubted 103 104 (.aload_n 3) 1 := o_45 ob_X6_tellDoubted rfl rfl rfl
theorem dX6_tellDoubted_104 : dc cX6_tellDoubted 104 107 (.invokevirtual 84) 3 := o_182 ob_X6_tellDoubted rfl rfl rfl rfl
theorem dX6_tellDoubted_107 : dc cX6_tellDoubted 107 108 (.aload_n 3) 1 := o_45 ob_X6_tellDoubted rfl rfl rfl
theorem dX6_tellDoubted_108 : dc cX6_tellDoubted 108 109 (.aload_n 3) 1 := o_45 ob_X6_tellDoubted rfl rfl rfl
theorem dX6_tellDoubted_109 : dc cX6_tellDoubted 109 112 (.getfield 164) 3 := o_180 ob_X6_tellDoubted rfl rfl rfl rfl
theorem dX6_tellDoubted_112 : dc cX6_tellDoubted 112 114 (.lload 6) 2 := o_22 ob_X6_tellDoubted rfl rfl rfl rfl
theorem dX6_tellDoubted_114 : dc cX6_tellDoubted 114 115 .lmul 1 := o_105 ob_X6_tellDoubted rfl rfl rfl
theorem dX6_tellDoubted_115 : dc cX6_tellDoubted 115 117 (.lload 4) 2 := o_22 ob_X6_tellDoubted rfl rfl rfl rfl
theorem dX6_tellDoubted_117 : dc cX6_tellDoubted 117 118 (.aload_n 3) 1 := o_45 ob_X6_tellDoubted rfl rfl rfl
theorem dX6_tellDoubted_118 : dc cX6_tellDoubted 118 121 (.getfield 168) 3 := o_180 ob_X6_tellDoubted rfl rfl rfl rfl
theorem dX6_tellDoubted_121 : dc cX6_tellDoubted 121 122 .lmul 1 := o_105 ob_X6_tellDoubted rfl rfl rfl
theorem dX6_tellDoubted_122 : dc cX6_tellDoubted 122 123 .lsub 1 := o_101 ob_X6_tellDoubted rfl rfl rfl
theorem dX6_tellDoubted_123 : dc cX6_tellDoubted 123 124 (.aload_n 3) 1 := o_45 ob_X6_tellDoubted rfl rfl rfl
theorem dX6_tellDoubted_124 : dc cX6_tellDoubted 124 127 (.getfield 168) 3 := o_180 ob_X6_tellDoubted rfl rfl rfl rfl
theorem dX6_tellDoubted_127 : dc cX6_tellDoubted 127 129 (.lload 6) 2 := o_22 ob_X6_tellDoubted rfl rfl rfl rfl
theorem dX6_tellDoubted_129 : dc cX6_tellDoubted 129 130 .lmul 1 := o_105 ob_X6_tellDoubted rfl rfl rfl
theorem dX6_tellDoubted_130 : dc cX6_tellDoubted 130 133 (.invokevirtual 161) 3 := o_182 ob_X6_tellDoubted rfl rfl rfl rfl
theorem dX6_tellDoubted_133 : dc cX6_tellDoubted 133 134 .return_ 1 := o_177 ob_X6_tellDoubted rfl rfl rfl
def F_Pair_tellDoubted_j73 (o3 : Nat) (x1 : Int32) (x2 : Int32) (x4 : Int64) (x6 : Int64) (M : Mem) : Option (Mem) :=
  (F_Fraction_be o3 x4 x6 M).bind fun r2 => if x2 = 0 then some r2 else (F_Chain_tellWorth 35 o3 0 x1 r2).bind fun r3 => (F_Fraction_be o3 (((r3.2 o3 0) * (r2.2 o3 1)) - ((r2.2 o3 0) * (r3.2 o3 1))) ((r3.2 o3 1) * (r2.2 o3 1)) r3).bind fun r4 => some r4
def F_Pair_tellDoubted_b13 (o3 : Nat) (x1 : Int32) (x2 : Int32) (M : Mem) (z : Int64 × Int64 × Int32) : Option ((Int64 × Int64 × Int32) ⊕ ((Int64 × Int64))) :=
  if 4 ≤ z.2.2 then some (.inr ((z.1, z.2.1))) else (F_Pair_cofactorOf z.2.2 M).bind fun r5 => (F_Row_at 51 8 ((2 * z.2.2) + x1) M).bind fun r6 => (F_Row_at 49 16 (4 * z.2.2) M).bind fun r7 => some (.inl ((z.1 + (r6 * r5), z.2.1 + (r7 * r5), z.2.2 + 1)))
def F_Pair_tellDoubted_l13 (o3 : Nat) (x1 : Int32) (x2 : Int32) (x4 : Int64) (x6 : Int64) (x8 : Int32) (M : Mem) : Option (Mem) :=
  (iter (F_Pair_tellDoubted_b13 o3 x1 x2 M) FUEL (x4, x6, x8)).bind fun r => F_Pair_tellDoubted_j73 o3 x1 x2 r.1 r.2 M
def F_Pair_tellDoubted (o3 : Nat) (x1 : Int32) (x2 : Int32) (M : Mem) : Option (Mem) :=
  (F_Pair_fillDoubts M).bind fun r1 => F_Pair_tellDoubted_l13 o3 x1 x2 0 0 0 r1
set_option maxRecDepth 100000 in
set_option maxHeartbeats 4000000 in
theorem K_Pair_tellDoubted (l : Launch) (g : GB) (htr : l.stackTraces = false) (o3 : Nat) (ho3 : isFrac o3) (x1 : Int32) (x2 : Int32) (M : Mem) (MZ : Mem) (h : F_Pair_tellDoubted o3 x1 x2 M = some MZ) : CT l g yX6_tellDoubted (.code yX6_tellDoubted cX6_tellDoubted 11 none :: wAll) { frames := 4, cells := 0, slots := 0, locals := 101 } [.ref (g.2.1 34), .int x1, .int x2, .ref (g.2.1 o3)] M (.inl none) MZ := by
  refine CT.of [(0, .ref (g.2.1 34)), (1, .int x1), (2, .int x2), (3, .ref (g.2.1 o3))] (by decide +kernel) (Nat.le_of_ble_eq_true rfl) rfl htr ?_
  intro p e s m args below meth c K hr ht
  skip
  obtain ⟨PHI, hPHI, h⟩ : ∃ PHI : Mem → Prop, (∀ a, PHI a → a = MZ) ∧ wpO (F_Pair_tellDoubted o3 x1 x2 M) PHI := ⟨fun a => a = MZ, fun _ h => h, _, h, rfl⟩
  have J73 : ∀ (x1 : Int32) (x2 : Int32) (x4 : Int64) (x6 : Int64) (M : Mem), wpO (F_Pair_tellDoubted_j73 o3 x1 x2 x4 x6 M) PHI → GG p l e { frames := 4, cells := 0, slots := 0, locals := 101 } s m args below meth c g 11 (vx_MQ below (Qn g s.heap.size (.inl none) MZ) (QX g s.heap.size (.inl none) MZ) args s 0 0 (AS g s.heap.size)) 0 0 73 [(0, .ref (g.2.1 34)), (1, .int x1), (2, .int x2), (3, .ref (g.2.1 o3)), (4, .long x4), (6, .long x6)] [] M := by
    intro x1 x2 x4 x6 M h
    unfold F_Pair_tellDoubted_j73 at h
    refine G_aload_n rfl 3 rfl K dX6_tellDoubted_73 ?_
    refine G_lload 4 rfl K dX6_tellDoubted_74 ?_
    refine G_lload 5 rfl K dX6_tellDoubted_76 ?_
    obtain ⟨r2, e2, h⟩ := wpO_bind h
    refine G_callVv (ci := 5) [.long x4, .long x6] [] K dX6_tellDoubted_78 wv_1224 yd_X5_be ho3.1 (ho3.2 _ _) rfl (by decide) (by decide) rfl rfl (Nat.le_of_ble_eq_true rfl) (K_Fraction_be l g htr o3 ho3 x4 x6 M _ e2) ?_
    refine G_iload_n rfl 2 rfl K dX6_tellDoubted_81 ?_
    refine G_if_eq (tgt := 133) K dX6_tellDoubted_82 (by decide) (fun hc => ?_) (fun hc => ?_)
    · have h := wpO_t h hc
      cases hPHI _ (wpO_some h)
      exact G_vret K hr dX6_tellDoubted_133 (Nat.le_of_ble_eq_true rfl) (Nat.le_of_ble_eq_true rfl) ⟨rfl, rfl⟩
    · have h := wpO_f h hc
      refine G_aload_n rfl 3 rfl K dX6_tellDoubted_85 ?_
      refine G_get (ci := 5) (k := 0) K rfl in_X5 wd_382 rfl dX6_tellDoubted_86 ho3.1 (ho3.2 _ _) (Nat.le_of_ble_eq_true rfl) rfl ?_
      refine G_lstore K dX6_tellDoubted_89 (Nat.le_of_ble_eq_true rfl) rfl ?_
      refine G_aload_n rfl 4 rfl K dX6_tellDoubted_91 ?_
      refine G_get (ci := 5) (k := 1) K rfl in_X5 wd_386 rfl dX6_tellDoubted_92 ho3.1 (ho3.2 _ _) (Nat.le_of_ble_eq_true rfl) rfl ?_
      refine G_lstore K dX6_tellDoubted_95 (Nat.le_of_ble_eq_true rfl) rfl ?_
      refine G_aload_n rfl 2 rfl K dX6_tellDoubted_97 ?_
      refine G_get (ci := 6) (k := 1) K rfl in_X6 wd_221 rfl dX6_tellDoubted_98 (Nat.le_of_ble_eq_true rfl) (sh_34 _ _) (Nat.le_of_ble_eq_true rfl) rfl ?_
      refine G_iconst (v := 0) rfl K dX6_tellDoubted_101 ?_
      refine G_iload_n rfl 3 rfl K dX6_tellDoubted_102 ?_
      refine G_aload_n rfl 5 rfl K dX6_tellDoubted_103 ?_
      obtain ⟨r3, e3, h⟩ := wpO_bind h
      refine G_callVv (ci := 2) [.int 0, .int x1, .ref (g.2.1 o3)] [] K dX6_tellDoubted_104 wv_965 yd_X2_tellWorth (Nat.le_of_ble_eq_true rfl) (sh_35 _ _) rfl (by decide) (by decide) rfl rfl (Nat.le_of_ble_eq_true rfl) (K_Chain_tellWorth l g htr 35 o3 isChain_35 ho3 0 x1 r2 _ e3) ?_
      refine G_aload_n rfl 5 rfl K dX6_tellDoubted_107 ?_
      refine G_aload_n rfl 5 rfl K dX6_tellDoubted_108 ?_
      refine G_get (ci := 5) (k := 0) K rfl in_X5 wd_382 rfl dX6_tellDoubted_109 ho3.1 (ho3.2 _ _) (Nat.le_of_ble_eq_true rfl) rfl ?_
      refine G_lload 0 rfl K dX6_tellDoubted_112 ?_
      refine G_lmul K dX6_tellDoubted_114 ?_
      refine G_lload 1 rfl K dX6_tellDoubted_115 ?_
      refine G_aload_n rfl 5 rfl K dX6_tellDoubted_117 ?_
      refine G_get (ci := 5) (k := 1) K rfl in_X5 wd_386 rfl dX6_tellDoubted_118 ho3.1 (ho3.2 _ _) (Nat.le_of_ble_eq_true rfl) rfl ?_
      refine G_lmul K dX6_tellDoubted_121 ?_
      refine G_lsub K dX6_tellDoubted_122 ?_
      refine G_aload_n rfl 5 rfl K dX6_tellDoubted_123 ?_
      refine G_get (ci := 5) (k := 1) K rfl in_X5 wd_386 rfl dX6_tellDoubted_124 ho3.1 (ho3.2 _ _) (Nat.le_of_ble_eq_true rfl) rfl ?_
      refine G_lload 0 rfl K dX6_tellDoubted_127 ?_
      refine G_lmul K dX6_tellDoubted_129 ?_
      obtain ⟨r4, e4, h⟩ := wpO_bind h
      refine G_callVv (ci := 5) [.long (((r3.2 o3 0) * (r2.2 o3 1)) - ((r2.2 o3 0) * (r3.2 o3 1))), .long ((r3.2 o3 1) * (r2.2 o3 1))] [] K dX6_tellDoubted_130 wv_1224 yd_X5_be ho3.1 (ho3.2 _ _) rfl (by decide) (by decide) rfl rfl (Nat.le_of_ble_eq_true rfl) (K_Fraction_be l g htr o3 ho3 (((r3.2 o3 0) * (r2.2 o3 1)) - ((r2.2 o3 0) * (r3.2 o3 1))) ((r3.2 o3 1) * (r2.2 o3 1)) r3 _ e4) ?_
      cases hPHI _ (wpO_some h)
      exact G_vret K hr dX6_tellDoubted_133 (Nat.le_of_ble_eq_true rfl) (Nat.le_of_ble_eq_true rfl) ⟨rfl, rfl⟩
  have J13 : ∀ (x1 : Int32) (x2 : Int32) (x4 : Int64) (x6 : Int64) (x8 : Int32) (M : Mem), wpO (F_Pair_tellDoubted_l13 o3 x1 x2 x4 x6 x8 M) PHI → GG p l e { frames := 4, cells := 0, slots := 0, locals := 101 } s m args below meth c g 11 (vx_MQ below (Qn g s.heap.size (.inl none) MZ) (QX g s.heap.size (.inl none) MZ) args s 0 0 (AS g s.heap.size)) 0 0 13 [(0, .ref (g.2.1 34)), (1, .int x1), (2, .int x2), (3, .ref (g.2.1 o3)), (4, .long x4), (6, .long x6), (8, .int x8)] [] M := by
    intro x1 x2 x4 x6 x8 M h
    unfold F_Pair_tellDoubted_l13 at h
    refine loop_C3 (G := fun (x4 : Int64) (x6 : Int64) (x8 : Int32) => GG p l e { frames := 4, cells := 0, slots := 0, locals := 101 } s m args below meth c g 11 (vx_MQ below (Qn g s.heap.size (.inl none) MZ) (QX g s.heap.size (.inl none) MZ) args s 0 0 (AS g s.heap.size)) 0 0 13 [(0, .ref (g.2.1 34)), (1, .int x1), (2, .int x2), (3, .ref (g.2.1 o3)), (4, .long x4), (6, .long x6), (8, .int x8)] [] M) (body := F_Pair_tellDoubted_b13 o3 x1 x2 M) ?_ FUEL _ _ _ (wpO_bind h)
    intro P13 E13 X13
    intro z h
    unfold F_Pair_tellDoubted_b13 at h
    refine G_iload 6 rfl K dX6_tellDoubted_13 ?_
    refine G_iconst (v := 4) rfl K dX6_tellDoubted_15 ?_
    refine G_icmp_ge (tgt := 73) K dX6_tellDoubted_16 (by decide) (fun hc => ?_) (fun hc => ?_)
    · have h := wpO_t h hc
      have h := X13 _ (wpO_some h)
      try dsimp only at h
      exact G_lv (lv' := [(0, .ref (g.2.1 34)), (1, .int x1), (2, .int x2), (3, .ref (g.2.1 o3)), (4, .long z.1), (6, .long z.2.1)]) [0, 1, 2, 3, 4, 5] rfl (J73 x1 x2 z.1 z.2.1 M h)
    · have h := wpO_f h hc
      refine G_aload_n rfl 0 rfl K dX6_tellDoubted_19 ?_
      refine G_iload 6 rfl K dX6_tellDoubted_20 ?_
      obtain ⟨r5, e5, h⟩ := wpO_bind h
      refine G_callVl (ci := 6) [.int z.2.2] [] K dX6_tellDoubted_22 wv_1220 yd_X6_cofactorOf (Nat.le_of_ble_eq_true rfl) (sh_34 _ _) rfl (by decide) (by decide) rfl rfl (Nat.le_of_ble_eq_true rfl) (K_Pair_cofactorOf l g htr z.2.2 M _ e5) ?_
      refine G_lstore K dX6_tellDoubted_25 (Nat.le_of_ble_eq_true rfl) rfl ?_
      refine G_lload 5 rfl K dX6_tellDoubted_27 ?_
      refine G_aload_n rfl 1 rfl K dX6_tellDoubted_29 ?_
      refine G_get (ci := 6) (k := 7) K rfl in_X6 wd_227 rfl dX6_tellDoubted_30 (Nat.le_of_ble_eq_true rfl) (sh_34 _ _) (Nat.le_of_ble_eq_true rfl) rfl ?_
      refine G_iconst (v := 2) rfl K dX6_tellDoubted_33 ?_
      refine G_iload 7 rfl K dX6_tellDoubted_34 ?_
      refine G_imul K dX6_tellDoubted_36 ?_
      refine G_iload_n rfl 2 rfl K dX6_tellDoubted_37 ?_
      refine G_iadd K dX6_tellDoubted_38 ?_
      obtain ⟨r6, e6, h⟩ := wpO_bind h
      refine G_callVl (ci := 7) [.int ((2 * z.2.2) + x1)] [.long z.1] K dX6_tellDoubted_39 wv_562 yd_X7_at (Nat.le_of_ble_eq_true rfl) (sh_50 _ _) rfl (by decide) (by decide) rfl rfl (Nat.le_of_ble_eq_true rfl) (K_Row_at l g htr 50 51 8 isRow_50 ((2 * z.2.2) + x1) M _ e6) ?_
      refine G_lload 0 rfl K dX6_tellDoubted_42 ?_
      refine G_lmul K dX6_tellDoubted_44 ?_
      refine G_ladd K dX6_tellDoubted_45 ?_
      refine G_lstore K dX6_tellDoubted_46 (Nat.le_of_ble_eq_true rfl) rfl ?_
      refine G_lload 6 rfl K dX6_tellDoubted_48 ?_
      refine G_aload_n rfl 2 rfl K dX6_tellDoubted_50 ?_
      refine G_get (ci := 6) (k := 6) K rfl in_X6 wd_226 rfl dX6_tellDoubted_51 (Nat.le_of_ble_eq_true rfl) (sh_34 _ _) (Nat.le_of_ble_eq_true rfl) rfl ?_
      refine G_iconst (v := 4) rfl K dX6_tellDoubted_54 ?_
      refine G_iload 7 rfl K dX6_tellDoubted_55 ?_
      refine G_imul K dX6_tellDoubted_57 ?_
      obtain ⟨r7, e7, h⟩ := wpO_bind h
      refine G_callVl (ci := 7) [.int (4 * z.2.2)] [.long z.2.1] K dX6_tellDoubted_58 wv_562 yd_X7_at (Nat.le_of_ble_eq_true rfl) (sh_48 _ _) rfl (by decide) (by decide) rfl rfl (Nat.le_of_ble_eq_true rfl) (K_Row_at l g htr 48 49 16 isRow_48 (4 * z.2.2) M _ e7) ?_
      refine G_lload 1 rfl K dX6_tellDoubted_61 ?_
      refine G_lmul K dX6_tellDoubted_63 ?_
      refine G_ladd K dX6_tellDoubted_64 ?_
      refine G_lstore K dX6_tellDoubted_65 (Nat.le_of_ble_eq_true rfl) rfl ?_
      refine G_iinc (v := z.2.2 + 1) 7 rfl K dX6_tellDoubted_67 rfl (Nat.le_of_ble_eq_true rfl) rfl ?_
      refine G_goto (tgt := 13) K dX6_tellDoubted_70 (by decide) ?_
      exact G_lv (lv' := [(0, .ref (g.2.1 34)), (1, .int x1), (2, .int x2), (3, .ref (g.2.1 o3)), (4, .long (z.1 + (r6 * r5))), (6, .long (z.2.1 + (r7 * r5))), (8, .int (z.2.2 + 1))]) [4, 5, 6, 7, 2, 1, 0] rfl (E13 (z.1 + (r6 * r5)) (z.2.1 + (r7 * r5)) (z.2.2 + 1) (wpO_some h))
  unfold F_Pair_tellDoubted at h
  refine G_aload_n rfl 0 rfl K dX6_tellDoubted_0 ?_
  obtain ⟨r1, e1, h⟩ := wpO_bind h
  refine G_callVv (ci := 6) [] [] K dX6_tellDoubted_1 wv_1205 yd_X6_fillDoubts (Nat.le_of_ble_eq_true rfl) (sh_34 _ _) rfl (by decide) (by decide) rfl rfl (Nat.le_of_ble_eq_true rfl) (K_Pair_fillDoubts l g htr  M _ e1) ?_
  refine G_lconst (v := 0) rfl K dX6_tellDoubted_4 ?_
  refine G_lstore K dX6_tellDoubted_5 (Nat.le_of_ble_eq_true rfl) rfl ?_
  refine G_lconst (v := 0) rfl K dX6_tellDoubted_7 ?_
  refine G_lstore K dX6_tellDoubted_8 (Nat.le_of_ble_eq_true rfl) rfl ?_
  refine G_iconst (v := 0) rfl K dX6_tellDoubted_10 ?_
  refine G_istore K dX6_tellDoubted_11 (Nat.le_of_ble_eq_true rfl) rfl ?_
  exact G_lv (lv' := [(0, .ref (g.2.1 34)), (1, .int x1), (2, .int x2), (3, .ref (g.2.1 o3)), (4, .long 0), (6, .long 0), (8, .int 0)]) [3, 4, 5, 6, 2, 1, 0] rfl (J13 x1 x2 0 0 0 r1 h)
