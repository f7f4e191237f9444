theorem yd_X7_setAll : ydN yX7_setAll 1 := ⟨by decide, by decide, by decide +kernel⟩
theorem wv_501 : wdV "KeptWell$Chain" 46 yX7_setAll cX7_setAll 4 none := ⟨wd_501, wd_502, wd_503, wd_3, wd_504⟩
def on_X2_clear : Nat := 0xb12e00b62c00141000b42a
theorem ob_X2_clear : OKB cX2_clear on_X2_clear 11 := ⟨by decide +kernel, by decide +kernel⟩
theorem dX2_clear_0 : dc cX2_clear 0 1 (.aload_n 0) 1 := o_42 ob_X2_clear rfl rfl rfl
theorem dX2_clear_1 : dc cX2_clear 1 4 (.getfield 16) 3 := o_180 ob_X2_clear rfl rfl rfl rfl
theorem dX2_clear_4 : dc cX2_clear 4 7 (.ldc2_w 44) 3 := o_20 ob_X2_clear rfl rfl rfl rfl
theorem dX2_clear_7 : dc cX2_clear 7 10 (.invokevirtual 46) 3 := o_182 ob_X2_clear rfl rfl rfl rfl
theorem dX2_clear_10 : dc cX2_clear 10 11 .return_ 1 := o_177 ob_X2_clear rfl rfl rfl
def F_Chain_clear (b : Nat) (M : Mem) : Option (Mem) :=
  (F_Row_setAll ((b + 2)) 9 ((-1)) M).bind fun r1 => some r1
set_option maxRecDepth 100000 in
set_option maxHeartbeats 4000000 in
theorem K_Chain_clear (l : Launch) (g : GB) (htr : l.stackTraces = false) (b : Nat) (hb : isChain b) (M : Mem) (MZ : Mem) (h : F_Chain_clear b M = some MZ) : CT l g yX2_clear (.code yX2_clear cX2_clear 1 none :: wAll) { frames := 1, cells := 0, slots := 0, locals := 23 } [.ref (g.2.1 b)] M (.inl none) MZ := by
  refine CT.of [(0, .ref (g.2.1 b))] (by decide +kernel) (Nat.le_of_ble_eq_true rfl) rfl htr ?_
  intro p e s m args below meth c K hr ht
  skip
  obtain ⟨PHI, hPHI, h⟩ : ∃ PHI : Mem → Prop, (∀ a, PHI a → a = MZ) ∧ wpO (F_Chain_clear b M) PHI := ⟨fun a => a = MZ, fun _ h => h, _, h, rfl⟩
  unfold F_Chain_clear at h
  refine G_aload_n rfl 0 rfl K dX2_clear_0 ?_
  refine G_get (ci := 2) (k := 0) K rfl in_X2 wd_190 rfl dX2_clear_1 hb.1 (hb.2.1 _ _) (Nat.le_of_ble_eq_true rfl) rfl ?_
  refine G_ldc2 (v := (-1)) K dX2_clear_4 wd_500 ?_
  obtain ⟨r1, e1, h⟩ := wpO_bind h
  refine G_callVv (ci := 7) [.long ((-1))] [] K dX2_clear_7 wv_501 yd_X7_setAll hb.2.2.1.1 (hb.2.2.1.2.2.1 _ _) rfl (by decide) (by decide) rfl rfl (Nat.le_of_ble_eq_true rfl) (K_Row_setAll l g htr ((b + 1)) ((b + 2)) 9 hb.2.2.1 ((-1)) M _ e1) ?_
  cases hPHI _ (wpO_some h)
  exact G_vret K hr dX2_clear_10 (Nat.le_of_ble_eq_true rfl) (Nat.le_of_ble_eq_true rfl) ⟨rfl, rfl⟩
theorem wv_522 : wdV "KeptWell$Chain" 50 yX7_put cX7_put 4 none := ⟨wd_522, wd_452, wd_453, wd_3, wd_454⟩
def on_X2_put : Nat := 0xb13200b68504156004681b051400b42a3200b6851d681b051400b42a3200b6851c1b1000b42a
theorem ob_X2_put : OKB cX2_put on_X2_put 38 := ⟨by decide +kernel, by decide +kernel⟩
theorem dX2_put_0 : dc cX2_put 0 1 (.aload_n 0) 1 := o_42 ob_X2_put rfl rfl rfl
theorem dX2_put_1 : dc cX2_put 1 4 (.getfield 16) 3 := o_180 ob_X2_put rfl rfl rfl rfl
theorem dX2_put_4 : dc cX2_put 4 5 (.iload_n 1) 1 := o_27 ob_X2_put rfl rfl rfl
theorem dX2_put_5 : dc cX2_put 5 6 (.iload_n 2) 1 := o_28 ob_X2_put rfl rfl rfl
theorem dX2_put_6 : dc cX2_put 6 7 .i2l 1 := o_133 ob_X2_put rfl rfl rfl
theorem dX2_put_7 : dc cX2_put 7 10 (.invokevirtual 50) 3 := o_182 ob_X2_put rfl rfl rfl rfl
theorem dX2_put_10 : dc cX2_put 10 11 (.aload_n 0) 1 := o_42 ob_X2_put rfl rfl rfl
theorem dX2_put_11 : dc cX2_put 11 14 (.getfield 20) 3 := o_180 ob_X2_put rfl rfl rfl rfl
theorem dX2_put_14 : dc cX2_put 14 15 (.iconst 2) 1 := o_5 ob_X2_put rfl rfl rfl
theorem dX2_put_15 : dc cX2_put 15 16 (.iload_n 1) 1 := o_27 ob_X2_put rfl rfl rfl
theorem dX2_put_16 : dc cX2_put 16 17 .imul 1 := o_104 ob_X2_put rfl rfl rfl
theorem dX2_put_17 : dc cX2_put 17 18 (.iload_n 3) 1 := o_29 ob_X2_put rfl rfl rfl
theorem dX2_put_18 : dc cX2_put 18 19 .i2l 1 := o_133 ob_X2_put rfl rfl rfl
theorem dX2_put_19 : dc cX2_put 19 22 (.invokevirtual 50) 3 := o_182 ob_X2_put rfl rfl rfl rfl
theorem dX2_put_22 : dc cX2_put 22 23 (.aload_n 0) 1 := o_42 ob_X2_put rfl rfl rfl
theorem dX2_put_23 : dc cX2_put 23 26 (.getfield 20) 3 := o_180 ob_X2_put rfl rfl rfl rfl
theorem dX2_put_26 : dc cX2_put 26 27 (.iconst 2) 1 := o_5 ob_X2_put rfl rfl rfl
theorem dX2_put_27 : dc cX2_put 27 28 (.iload_n 1) 1 := o_27 ob_X2_put rfl rfl rfl
theorem dX2_put_28 : dc cX2_put 28 29 .imul 1 := o_104 ob_X2_put rfl rfl rfl
theorem dX2_put_29 : dc cX2_put 29 30 (.iconst 1) 1 := o_4 ob_X2_put rfl rfl rfl
theorem dX2_put_30 : dc cX2_put 30 31 .iadd 1 := o_96 ob_X2_put rfl rfl rfl
theorem dX2_put_31 : dc cX2_put 31 33 (.iload 4) 2 := o_21 ob_X2_put rfl rfl rfl rfl
theorem dX2_put_33 : dc cX2_put 33 34 .i2l 1 := o_133 ob_X2_put rfl rfl rfl
theorem dX2_put_34 : dc cX2_put 34 37 (.invokevirtual 50) 3 := o_182 ob_X2_put rfl rfl rfl rfl
theorem dX2_put_37 : dc cX2_put 37 38 .return_ 1 := o_177 ob_X2_put rfl rfl rfl
def F_Chain_put (b : Nat) (x1 : Int32) (x2 : Int32) (x3 : Int32) (x4 : Int32) (M : Mem) : Option (Mem) :=
  (F_Row_put ((b + 2)) 9 x1 x2.toInt64 M).bind fun r1 => (F_Row_put ((b + 4)) 18 (2 * x1) x3.toInt64 r1).bind fun r2 => (F_Row_put ((b + 4)) 18 ((2 * x1) + 1) x4.toInt64 r2).bind fun r3 => some r3
set_option maxRecDepth 100000 in
set_option maxHeartbeats 4000000 in
theorem K_Chain_put (l : Launch) (g : GB) (htr : l.stackTraces = false) (b : Nat) (hb : isChain b) (x1 : Int32) (x2 : Int32) (x3 : Int32) (x4 : Int32) (M : Mem) (MZ : Mem) (h : F_Chain_put b x1 x2 x3 x4 M = some MZ) : CT l g yX2_put (.code yX2_put cX2_put 5 none :: wAll) { frames := 1, cells := 0, slots := 0, locals := 23 } [.ref (g.2.1 b), .int x1, .int x2, .int x3, .int x4] M (.inl none) MZ := by
  refine CT.of [(0, .ref (g.2.1 b)), (1, .int x1), (2, .int x2), (3, .int x3), (4, .int x4)] (by decide +kernel) (Nat.le_of_ble_eq_true rfl) rfl htr ?_
  intro p e s m args below meth c K hr ht
  skip
  obtain ⟨PHI, hPHI, h⟩ : ∃ PHI : Mem → Prop, (∀ a, PHI a → a = MZ) ∧ wpO (F_Chain_put b x1 x2 x3 x4 M) PHI := ⟨fun a => a = MZ, fun _ h => h, _, h, rfl⟩
  unfold F_Chain_put at h
  refine G_aload_n rfl 0 rfl K dX2_put_0 ?_
  refine G_get (ci := 2) (k := 0) K rfl in_X2 wd_190 rfl dX2_put_1 hb.1 (hb.2.1 _ _) (Nat.le_of_ble_eq_true rfl) rfl ?_
  refine G_iload_n rfl 1 rfl K dX2_put_4 ?_
  refine G_iload_n rfl 2 rfl K dX2_put_5 ?_
  refine G_i2l K dX2_put_6 ?_
  obtain ⟨r1, e1, h⟩ := wpO_bind h
  refine G_callVv (ci := 7) [.int x1, .long x2.toInt64] [] K dX2_put_7 wv_522 yd_X7_put hb.2.2.1.1 (hb.2.2.1.2.2.1 _ _) rfl (by decide) (by decide) rfl rfl (Nat.le_of_ble_eq_true rfl) (K_Row_put l g htr ((b + 1)) ((b + 2)) 9 hb.2.2.1 x1 x2.toInt64 M _ e1) ?_
  refine G_aload_n rfl 0 rfl K dX2_put_10 ?_
  refine G_get (ci := 2) (k := 1) K rfl in_X2 wd_192 rfl dX2_put_11 hb.1 (hb.2.1 _ _) (Nat.le_of_ble_eq_true rfl) rfl ?_
  refine G_iconst (v := 2) rfl K dX2_put_14 ?_
  refine G_iload_n rfl 1 rfl K dX2_put_15 ?_
  refine G_imul K dX2_put_16 ?_
  refine G_iload_n rfl 3 rfl K dX2_put_17 ?_
  refine G_i2l K dX2_put_18 ?_
  obtain ⟨r2, e2, h⟩ := wpO_bind h
  refine G_callVv (ci := 7) [.int (2 * x1), .long x3.toInt64] [] K dX2_put_19 wv_522 yd_X7_put hb.2.2.2.1.1 (hb.2.2.2.1.2.2.1 _ _) rfl (by decide) (by decide) rfl rfl (Nat.le_of_ble_eq_true rfl) (K_Row_put l g htr ((b + 3)) ((b + 4)) 18 hb.2.2.2.1 (2 * x1) x3.toInt64 r1 _ e2) ?_
  refine G_aload_n rfl 0 rfl K dX2_put_22 ?_
  refine G_get (ci := 2) (k := 1) K rfl in_X2 wd_192 rfl dX2_put_23 hb.1 (hb.2.1 _ _) (Nat.le_of_ble_eq_true rfl) rfl ?_
  refine G_iconst (v := 2) rfl K dX2_put_26 ?_
  refine G_iload_n rfl 1 rfl K dX2_put_27 ?_
  refine G_imul K dX2_put_28 ?_
  refine G_iconst (v := 1) rfl K dX2_put_29 ?_
  refine G_iadd K dX2_put_30 ?_
  refine G_iload 4 rfl K dX2_put_31 ?_
  refine G_i2l K dX2_put_33 ?_
  obtain ⟨r3, e3, h⟩ := wpO_bind h
  refine G_callVv (ci := 7) [.int ((2 * x1) + 1), .long x4.toInt64] [] K dX2_put_34 wv_522 yd_X7_put hb.2.2.2.1.1 (hb.2.2.2.1.2.2.1 _ _) rfl (by decide) (by decide) rfl rfl (Nat.le_of_ble_eq_true rfl) (K_Row_put l g htr ((b + 3)) ((b + 4)) 18 hb.2.2.2.1 ((2 * x1) + 1) x4.toInt64 r2 _ e3) ?_
  cases hPHI _ (wpO_some h)
  exact G_vret K hr dX2_put_37 (Nat.le_of_ble_eq_true rfl) (Nat.le_of_ble_eq_true rfl) ⟨rfl, rfl⟩
theorem wv_535 : wdV "KeptWell$Chain" 61 yX7_small cX7_small 2 (some .int) := ⟨wd_535, wd_480, wd_481, wd_3, wd_482⟩
theorem wv_527 : wdV "KeptWell$Chain" 54 yX7_at cX7_at 2 (some .long) := ⟨wd_527, wd_528, wd_529, wd_3, wd_530⟩
def on_X2_closeRing : Nat := 0xb19fffa7ff0e840c376d2900b42a10160a00a70907009a94092900b42a3200b60a163d00b60e151d00b42a1a00b42a3200b610160f151700b42a103761690c162300b42a690a163600b60f151400b42a0f36601d683d00b60e151d00b42a056100a11b0e150e3664041c0c3704160a376506160816c4ffa7010a840837692900b42a08160637692300b42a0616043761693600b6601d683d00b60a151d00b42a051400b42a0616692900b42a04163c00a21c0a150a361b08370a06370a043709
theorem ob_X2_closeRing : OKB cX2_closeRing on_X2_closeRing 192 := ⟨by decide +kernel, by decide +kernel⟩
theorem dX2_closeRing_0 : dc cX2_closeRing 0 1 (.lconst 0) 1 := o_9 ob_X2_closeRing rfl rfl rfl
theorem dX2_closeRing_1 : dc cX2_closeRing 1 3 (.lstore 4) 2 := o_55 ob_X2_closeRing rfl rfl rfl rfl
theorem dX2_closeRing_3 : dc cX2_closeRing 3 4 (.lconst 1) 1 := o_10 ob_X2_closeRing rfl rfl rfl
theorem dX2_closeRing_4 : dc cX2_closeRing 4 6 (.lstore 6) 2 := o_55 ob_X2_closeRing rfl rfl rfl rfl
theorem dX2_closeRing_6 : dc cX2_closeRing 6 7 (.lconst 1) 1 := o_10 ob_X2_closeRing rfl rfl rfl
theorem dX2_closeRing_7 : dc cX2_closeRing 7 9 (.lstore 8) 2 := o_55 ob_X2_closeRing rfl rfl rfl rfl
theorem dX2_closeRing_9 : dc cX2_closeRing 9 10 (.iload_n 1) 1 := o_27 ob_X2_closeRing rfl rfl rfl
theorem dX2_closeRing_10 : dc cX2_closeRing 10 12 (.istore 10) 2 := o_54 ob_X2_closeRing rfl rfl rfl rfl
theorem dX2_closeRing_12 : dc cX2_closeRing 12 14 (.iload 10) 2 := o_21 ob_X2_closeRing rfl rfl rfl rfl
theorem dX2_closeRing_14 : dc cX2_closeRing 14 15 (.iload_n 2) 1 := o_28 ob_X2_closeRing rfl rfl rfl
theorem dX2_closeRing_15 : dc cX2_closeRing 15 18 (.if_icmp .ge 60) 3 := o_162 ob_X2_closeRing rfl rfl rfl rfl
theorem dX2_closeRing_18 : dc cX2_closeRing 18 20 (.lload 4) 2 := o_22 ob_X2_closeRing rfl rfl rfl rfl
theorem dX2_closeRing_20 : dc cX2_closeRing 20 21 (.aload_n 0) 1 := o_42 ob_X2_closeRing rfl rfl rfl
theorem dX2_closeRing_21 : dc cX2_closeRing 21 24 (.getfield 41) 3 := o_180 ob_X2_closeRing rfl rfl rfl rfl
theorem dX2_closeRing_24 : dc cX2_closeRing 24 25 .lmul 1 := o_105 ob_X2_closeRing rfl rfl rfl
theorem dX2_closeRing_25 : dc cX2_closeRing 25 27 (.lload 6) 2 := o_22 ob_X2_closeRing rfl rfl rfl rfl
theorem dX2_closeRing_27 : dc cX2_closeRing 27 28 (.aload_n 0) 1 := o_42 ob_X2_closeRing rfl rfl rfl
theorem dX2_closeRing_28 : dc cX2_closeRing 28 31 (.getfield 20) 3 := o_180 ob_X2_closeRing rfl rfl rfl rfl
theorem dX2_closeRing_31 : dc cX2_closeRing 31 32 (.iconst 2) 1 := o_5 ob_X2_closeRing rfl rfl rfl
theorem dX2_closeRing_32 : dc cX2_closeRing 32 33 (.aload_n 0) 1 := o_42 ob_X2_closeRing rfl rfl rfl
theorem dX2_closeRing_33 : dc cX2_closeRing 33 36 (.getfield 29) 3 := o_180 ob_X2_closeRing rfl rfl rfl rfl
theorem dX2_closeRing_36 : dc cX2_closeRing 36 38 (.iload 10) 2 := o_21 ob_X2_closeRing rfl rfl rfl rfl
theorem dX2_closeRing_38 : dc cX2_closeRing 38 41 (.invokevirtual 61) 3 := o_182 ob_X2_closeRing rfl rfl rfl rfl
theorem dX2_closeRing_41 : dc cX2_closeRing 41 42 .imul 1 := o_104 ob_X2_closeRing rfl rfl rfl
theorem dX2_closeRing_42 : dc cX2_closeRing 42 43 (.iload_n 3) 1 := o_29 ob_X2_closeRing rfl rfl rfl
theorem dX2_closeRing_43 : dc cX2_closeRing 43 44 .iadd 1 := o_96 ob_X2_closeRing rfl rfl rfl
theorem dX2_closeRing_44 : dc cX2_closeRing 44 47 (.invokevirtual 54) 3 := o_182 ob_X2_closeRing rfl rfl rfl rfl
theorem dX2_closeRing_47 : dc cX2_closeRing 47 48 .lmul 1 := o_105 ob_X2_closeRing rfl rfl rfl
theorem dX2_closeRing_48 : dc cX2_closeRing 48 49 .ladd 1 := o_97 ob_X2_closeRing rfl rfl rfl
theorem dX2_closeRing_49 : dc cX2_closeRing 49 51 (.lstore 4) 2 := o_55 ob_X2_closeRing rfl rfl rfl rfl
theorem dX2_closeRing_51 : dc cX2_closeRing 51 53 (.lload 6) 2 := o_22 ob_X2_closeRing rfl rfl rfl rfl
theorem dX2_closeRing_53 : dc cX2_closeRing 53 54 (.aload_n 0) 1 := o_42 ob_X2_closeRing rfl rfl rfl
theorem dX2_closeRing_54 : dc cX2_closeRing 54 57 (.getfield 35) 3 := o_180 ob_X2_closeRing rfl rfl rfl rfl
theorem dX2_closeRing_57 : dc cX2_closeRing 57 58 .lmul 1 := o_105 ob_X2_closeRing rfl rfl rfl
theorem dX2_closeRing_58 : dc cX2_closeRing 58 60 (.lstore 6) 2 := o_55 ob_X2_closeRing rfl rfl rfl rfl
theorem dX2_closeRing_60 : dc cX2_closeRing 60 62 (.lload 8) 2 := o_22 ob_X2_closeRing rfl rfl rfl rfl
theorem dX2_closeRing_62 : dc cX2_closeRing 62 63 (.aload_n 0) 1 := o_42 ob_X2_closeRing rfl rfl rfl
theorem dX2_closeRing_63 : dc cX2_closeRing 63 66 (.getfield 41) 3 := o_180 ob_X2_closeRing rfl rfl rfl rfl
theorem dX2_closeRing_66 : dc cX2_closeRing 66 67 .lmul 1 := o_105 ob_X2_closeRing rfl rfl rfl
theorem dX2_closeRing_67 : dc cX2_closeRing 67 69 (.lstore 8) 2 := o_55 ob_X2_closeRing rfl rfl rfl rfl
theorem dX2_closeRing_69 : dc cX2_closeRing 69 72 (.iinc 10 1) 3 := o_132 ob_X2_closeRing rfl rfl rfl rfl rfl
theorem dX2_closeRing_72 : dc cX2_closeRing 72 75 (.goto (-60)) 3 := o_167 ob_X2_closeRing rfl rfl rfl rfl
theorem dX2_closeRing_75 : dc cX2_closeRing 75 77 (.lload 8) 2 := o_22 ob_X2_closeRing rfl rfl rfl rfl
theorem dX2_closeRing_77 : dc cX2_closeRing 77 79 (.lload 6) 2 := o_22 ob_X2_closeRing rfl rfl rfl rfl
theorem dX2_closeRing_79 : dc cX2_closeRing 79 80 .lsub 1 := o_101 ob_X2_closeRing rfl rfl rfl
theorem dX2_closeRing_80 : dc cX2_closeRing 80 82 (.lstore 10) 2 := o_55 ob_X2_closeRing rfl rfl rfl rfl
theorem dX2_closeRing_82 : dc cX2_closeRing 82 84 (.lload 4) 2 := o_22 ob_X2_closeRing rfl rfl rfl rfl
theorem dX2_closeRing_84 : dc cX2_closeRing 84 86 (.lstore 12) 2 := o_55 ob_X2_closeRing rfl rfl rfl rfl
theorem dX2_closeRing_86 : dc cX2_closeRing 86 87 (.iload_n 2) 1 := o_28 ob_X2_closeRing rfl rfl rfl
theorem dX2_closeRing_87 : dc cX2_closeRing 87 88 (.iconst 1) 1 := o_4 ob_X2_closeRing rfl rfl rfl
theorem dX2_closeRing_88 : dc cX2_closeRing 88 89 .isub 1 := o_100 ob_X2_closeRing rfl rfl rfl
theorem dX2_closeRing_89 : dc cX2_closeRing 89 91 (.istore 14) 2 := o_54 ob_X2_closeRing rfl rfl rfl rfl
theorem dX2_closeRing_91 : dc cX2_closeRing 91 93 (.iload 14) 2 := o_21 ob_X2_closeRing rfl rfl rfl rfl
theorem dX2_closeRing_93 : dc cX2_closeRing 93 94 (.iload_n 1) 1 := o_27 ob_X2_closeRing rfl rfl rfl
theorem dX2_closeRing_94 : dc cX2_closeRing 94 97 (.if_icmp .lt 97) 3 := o_161 ob_X2_closeRing rfl rfl rfl rfl
theorem dX2_closeRing_97 : dc cX2_closeRing 97 98 (.iconst 2) 1 := o_5 ob_X2_closeRing rfl rfl rfl
theorem dX2_closeRing_98 : dc cX2_closeRing 98 99 (.aload_n 0) 1 := o_42 ob_X2_closeRing rfl rfl rfl
theorem dX2_closeRing_99 : dc cX2_closeRing 99 102 (.getfield 29) 3 := o_180 ob_X2_closeRing rfl rfl rfl rfl
theorem dX2_closeRing_102 : dc cX2_closeRing 102 104 (.iload 14) 2 := o_21 ob_X2_closeRing rfl rfl rfl rfl
theorem dX2_closeRing_104 : dc cX2_closeRing 104 107 (.invokevirtual 61) 3 := o_182 ob_X2_closeRing rfl rfl rfl rfl
theorem dX2_closeRing_107 : dc cX2_closeRing 107 108 .imul 1 := o_104 ob_X2_closeRing rfl rfl rfl
theorem dX2_closeRing_108 : dc cX2_closeRing 108 109 (.iload_n 3) 1 := o_29 ob_X2_closeRing rfl rfl rfl
theorem dX2_closeRing_109 : dc cX2_closeRing 109 110 .iadd 1 := o_96 ob_X2_closeRing rfl rfl rfl
theorem dX2_closeRing_110 : dc cX2_closeRing 110 112 (.istore 15) 2 := o_54 ob_X2_closeRing rfl rfl rfl rfl
theorem dX2_closeRing_112 : dc cX2_closeRing 112 113 (.aload_n 0) 1 := o_42 ob_X2_closeRing rfl rfl rfl
theorem dX2_closeRing_113 : dc cX2_closeRing 113 116 (.getfield 20) 3 := o_180 ob_X2_closeRing rfl rfl rfl rfl
theorem dX2_closeRing_116 : dc cX2_closeRing 116 118 (.iload 15) 2 := o_21 ob_X2_closeRing rfl rfl rfl rfl
theorem dX2_closeRing_118 : dc cX2_closeRing 118 121 (.invokevirtual 54) 3 := o_182 ob_X2_closeRing rfl rfl rfl rfl
theorem dX2_closeRing_121 : dc cX2_closeRing 121 123 (.lload 10) 2 := o_22 ob_X2_closeRing rfl rfl rfl rfl
theorem dX2_closeRing_123 : dc cX2_closeRing 123 124 .lmul 1 := o_105 ob_X2_closeRing rfl rfl rfl
theorem dX2_closeRing_124 : dc cX2_closeRing 124 125 (.aload_n 0) 1 := o_42 ob_X2_closeRing rfl rfl rfl
theorem dX2_closeRing_125 : dc cX2_closeRing 125 128 (.getfield 35) 3 := o_180 ob_X2_closeRing rfl rfl rfl rfl
theorem dX2_closeRing_128 : dc cX2_closeRing 128 130 (.lload 12) 2 := o_22 ob_X2_closeRing rfl rfl rfl rfl
theorem dX2_closeRing_130 : dc cX2_closeRing 130 131 .lmul 1 := o_105 ob_X2_closeRing rfl rfl rfl
theorem dX2_closeRing_131 : dc cX2_closeRing 131 132 .ladd 1 := o_97 ob_X2_closeRing rfl rfl rfl
theorem dX2_closeRing_132 : dc cX2_closeRing 132 134 (.lstore 16) 2 := o_55 ob_X2_closeRing rfl rfl rfl rfl
theorem dX2_closeRing_134 : dc cX2_closeRing 134 135 (.aload_n 0) 1 := o_42 ob_X2_closeRing rfl rfl rfl
theorem dX2_closeRing_135 : dc cX2_closeRing 135 138 (.getfield 23) 3 := o_180 ob_X2_closeRing rfl rfl rfl rfl
theorem dX2_closeRing_138 : dc cX2_closeRing 138 140 (.iload 15) 2 := o_21 ob_X2_closeRing rfl rfl rfl rfl
theorem dX2_closeRing_140 : dc cX2_closeRing 140 142 (.lload 16) 2 := o_22 ob_X2_closeRing rfl rfl rfl rfl
theorem dX2_closeRing_142 : dc cX2_closeRing 142 145 (.invokevirtual 50) 3 := o_182 ob_X2_closeRing rfl rfl rfl rfl
theorem dX2_closeRing_145 : dc cX2_closeRing 145 146 (.aload_n 0) 1 := o_42 ob_X2_closeRing rfl rfl rfl
theorem dX2_closeRing_146 : dc cX2_closeRing 146 149 (.getfield 26) 3 := o_180 ob_X2_closeRing rfl rfl rfl rfl
theorem dX2_closeRing_149 : dc cX2_closeRing 149 150 (.aload_n 0) 1 := o_42 ob_X2_closeRing rfl rfl rfl
theorem dX2_closeRing_150 : dc cX2_closeRing 150 153 (.getfield 29) 3 := o_180 ob_X2_closeRing rfl rfl rfl rfl
theorem dX2_closeRing_153 : dc cX2_closeRing 153 155 (.iload 14) 2 := o_21 ob_X2_closeRing rfl rfl rfl rfl
theorem dX2_closeRing_155 : dc cX2_closeRing 155 158 (.invokevirtual 61) 3 := o_182 ob_X2_closeRing rfl rfl rfl rfl
theorem dX2_closeRing_158 : dc cX2_closeRing 158 160 (.lload 10) 2 := o_22 ob_X2_closeRing rfl rfl rfl rfl
theorem dX2_closeRing_160 : dc cX2_closeRing 160 163 (.invokevirtual 50) 3 := o_182 ob_X2_closeRing rfl rfl rfl rfl
theorem dX2_closeRing_163 : dc cX2_closeRing 163 164 (.aload_n 0) 1 := o_42 ob_X2_closeRing rfl rfl rfl
theorem dX2_closeRing_164 : dc cX2_closeRing 164 167 (.getfield 41) 3 := o_180 ob_X2_closeRing rfl rfl rfl rfl
theorem dX2_closeRing_167 : dc cX2_closeRing 167 168 (.lconst 0) 1 := o_9 ob_X2_closeRing rfl rfl rfl
theorem dX2_closeRing_168 : dc cX2_closeRing 168 169 .lcmp 1 := o_148 ob_X2_closeRing rfl rfl rfl
theorem dX2_closeRing_169 : dc cX2_closeRing 169 172 (.ifCond .ne 7) 3 := o_154 ob_X2_closeRing rfl rfl rfl rfl
theorem dX2_closeRing_172 : dc cX2_closeRing 172 173 (.lconst 0) 1 := o_9 ob_X2_closeRing rfl rfl rfl
theorem dX2_closeRing_173 : dc cX2_closeRing 173 176 (.goto 10) 3 := o_167 ob_X2_closeRing rfl rfl rfl rfl
theorem dX2_closeRing_176 : dc cX2_closeRing 176 178 (.lload 16) 2 := o_22 ob_X2_closeRing rfl rfl rfl rfl
theorem dX2_closeRing_178 : dc cX2_closeRing 178 179 (.aload_n 0) 1 := o_42 ob_X2_closeRing rfl rfl rfl
theorem dX2_closeRing_179 : dc cX2_closeRing 179 182 (.getfield 41) 3 := o_180 ob_X2_closeRing rfl rfl rfl rfl
theorem dX2_closeRing_182 : dc cX2_closeRing 182 183 .ldiv 1 := o_109 ob_X2_closeRing rfl rfl rfl
theorem dX2_closeRing_183 : dc cX2_closeRing 183 185 (.lstore 12) 2 := o_55 ob_X2_closeRing rfl rfl rfl rfl
theorem dX2_closeRing_185 : dc cX2_closeRing 185 188 (.iinc 14 (-1)) 3 := o_132 ob_X2_closeRing rfl rfl rfl rfl rfl
theorem dX2_closeRing_188 : dc cX2_closeRing 188 191 (.goto (-97)) 3 := o_167 ob_X2_closeRing rfl rfl rfl rfl
theorem dX2_closeRing_191 : dc cX2_closeRing 191 192 .return_ 1 := o_177 ob_X2_closeRing rfl rfl rfl
def F_Chain_closeRing_b91 (b : Nat) (x1 : Int32) (x3 : Int32) (x10 : Int64) (z : Int64 × Int32 × Mem) : Option ((Int64 × Int32 × Mem) ⊕ ((Mem))) :=
  if z.2.1 < x1 then some (.inr z.2.2) else (F_Row_small ((b + 10)) 9 z.2.1 z.2.2).bind fun r1 => (F_Row_at ((b + 4)) 18 ((2 * r1) + x3) z.2.2).bind fun r2 => (F_Row_put ((b + 6)) 18 ((2 * r1) + x3) ((r2 * x10) + ((z.2.2.2 b 6) * z.1)) z.2.2).bind fun r3 => (F_Row_small ((b + 10)) 9 z.2.1 r3).bind fun r4 => (F_Row_put ((b + 8)) 9 r4 x10 r3).bind fun r5 => if (r5.2 b 7) = 0 then some (.inl ((0, z.2.1 + (-1), r5))) else if ¬ (r5.2 b 7) = 0 then some (.inl ((((r2 * x10) + ((z.2.2.2 b 6) * z.1)) / (r5.2 b 7), z.2.1 + (-1), r5))) else none
def F_Chain_closeRing_l91 (b : Nat) (x1 : Int32) (x3 : Int32) (x10 : Int64) (x12 : Int64) (x14 : Int32) (M : Mem) : Option (Mem) :=
  (iter (F_Chain_closeRing_b91 b x1 x3 x10) FUEL (x12, x14, M)).bind fun r => some r
def F_Chain_closeRing_j75 (b : Nat) (x1 : Int32) (x2 : Int32) (x3 : Int32) (x4 : Int64) (x6 : Int64) (x8 : Int64) (M : Mem) : Option (Mem) :=
  F_Chain_closeRing_l91 b x1 x3 (x8 - x6) x4 (x2 - 1) M
def F_Chain_closeRing_b12 (b : Nat) (x1 : Int32) (x2 : Int32) (x3 : Int32) (M : Mem) (z : Int64 × Int64 × Int64 × Int32) : Option ((Int64 × Int64 × Int64 × Int32) ⊕ ((Int64 × Int64 × Int64))) :=
  if x2 ≤ z.2.2.2 then some (.inr ((z.1, z.2.1, z.2.2.1))) else (F_Row_small ((b + 10)) 9 z.2.2.2 M).bind fun r6 => (F_Row_at ((b + 4)) 18 ((2 * r6) + x3) M).bind fun r7 => some (.inl (((z.1 * (M.2 b 7)) + (z.2.1 * r7), z.2.1 * (M.2 b 6), z.2.2.1 * (M.2 b 7), z.2.2.2 + 1)))
def F_Chain_closeRing_l12 (b : Nat) (x1 : Int32) (x2 : Int32) (x3 : Int32) (x4 : Int64) (x6 : Int64) (x8 : Int64) (x10 : Int32) (M : Mem) : Option (Mem) :=
  (iter (F_Chain_closeRing_b12 b x1 x2 x3 M) FUEL (x4, x6, x8, x10)).bind fun r => F_Chain_closeRing_j75 b x1 x2 x3 r.1 r.2.1 r.2.2 M
def F_Chain_closeRing (b : Nat) (x1 : Int32) (x2 : Int32) (x3 : Int32) (M : Mem) : Option (Mem) :=
  F_Chain_closeRing_l12 b x1 x2 x3 0 1 1 x1 M
set_option maxRecDepth 100000 in
set_option maxHeartbeats 4000000 in
theorem K_Chain_closeRing (l : Launch) (g : GB) (htr : l.stackTraces = false) (b : Nat) (hb : isChain b) (x1 : Int32) (x2 : Int32) (x3 : Int32) (M : Mem) (MZ : Mem) (h : F_Chain_closeRing b x1 x2 x3 M = some MZ) : CT l g yX2_closeRing (.code yX2_closeRing cX2_closeRing 18 none :: wAll) { frames := 1, cells := 0, slots := 0, locals := 23 } [.ref (g.2.1 b), .int x1, .int x2, .int x3] M (.inl none) MZ := by
  refine CT.of [(0, .ref (g.2.1 b)), (1, .int x1), (2, .int x2), (3, .int x3)] (by decide +kernel) (Nat.le_of_ble_eq_true rfl) rfl htr ?_
  intro p e s m args below meth c K hr ht
  skip
  obtain ⟨PHI, hPHI, h⟩ : ∃ PHI : Mem → Prop, (∀ a, PHI a → a = MZ) ∧ wpO (F_Chain_closeRing b x1 x2 x3 M) PHI := ⟨fun a => a = MZ, fun _ h => h, _, h, rfl⟩
  have J91 : ∀ (x1 : Int32) (x3 : Int32) (x10 : Int64) (x12 : Int64) (x14 : Int32) (M : Mem), wpO (F_Chain_closeRing_l91 b x1 x3 x10 x12 x14 M) PHI → GG p l e { frames := 1, cells := 0, slots := 0, locals := 23 } s m args below meth c g 18 (vx_MQ below (Qn g s.heap.size (.inl none) MZ) (QX g s.heap.size (.inl none) MZ) args s 0 0 (AS g s.heap.size)) 0 0 91 [(0, .ref (g.2.1 b)), (1, .int x1), (3, .int x3), (10, .long x10), (12, .long x12), (14, .int x14)] [] M := by
    intro x1 x3 x10 x12 x14 M h
    unfold F_Chain_closeRing_l91 at h
    refine loop_C3 (G := fun (x12 : Int64) (x14 : Int32) (M : Mem) => GG p l e { frames := 1, cells := 0, slots := 0, locals := 23 } s m args below meth c g 18 (vx_MQ below (Qn g s.heap.size (.inl none) MZ) (QX g s.heap.size (.inl none) MZ) args s 0 0 (AS g s.heap.size)) 0 0 91 [(0, .ref (g.2.1 b)), (1, .int x1), (3, .int x3), (10, .long x10), (12, .long x12), (14, .int x14)] [] M) (body := F_Chain_closeRing_b91 b x1 x3 x10) ?_ FUEL _ _ _ (wpO_bind h)
    intro P91 E91 X91
    intro z h
    unfold F_Chain_closeRing_b91 at h
    refine G_iload 5 rfl K dX2_closeRing_91 ?_
    refine G_iload_n rfl 1 rfl K dX2_closeRing_93 ?_
    refine G_icmp_lt (tgt := 191) K dX2_closeRing_94 (by decide) (fun hc => ?_) (fun hc => ?_)
    · have h := wpO_t h hc
      have h := X91 _ (wpO_some h)
      try dsimp only at h
      cases hPHI _ (wpO_some h)
      exact G_vret K hr dX2_closeRing_191 (Nat.le_of_ble_eq_true rfl) (Nat.le_of_ble_eq_true rfl) ⟨rfl, rfl⟩
    · have h := wpO_f h hc
      refine G_iconst (v := 2) rfl K dX2_closeRing_97 ?_
      refine G_aload_n rfl 0 rfl K dX2_closeRing_98 ?_
      refine G_get (ci := 2) (k := 4) K rfl in_X2 wd_197 rfl dX2_closeRing_99 hb.1 (hb.2.1 _ _) (Nat.le_of_ble_eq_true rfl) rfl ?_
      refine G_iload 5 rfl K dX2_closeRing_102 ?_
      obtain ⟨r1, e1, h⟩ := wpO_bind h
      refine G_callVi (ci := 7) [.int z.2.1] [.int 2] K dX2_closeRing_104 wv_535 yd_X7_small hb.2.2.2.2.2.2.1.1 (hb.2.2.2.2.2.2.1.2.2.1 _ _) rfl (by decide) (by decide) rfl rfl (Nat.le_of_ble_eq_true rfl) (K_Row_small l g htr ((b + 9)) ((b + 10)) 9 hb.2.2.2.2.2.2.1 z.2.1 z.2.2 _ e1) ?_
      refine G_imul K dX2_closeRing_107 ?_
      refine G_iload_n rfl 2 rfl K dX2_closeRing_108 ?_
      refine G_iadd K dX2_closeRing_109 ?_
      refine G_istore K dX2_closeRing_110 (Nat.le_of_ble_eq_true rfl) rfl ?_
      refine G_aload_n rfl 1 rfl K dX2_closeRing_112 ?_
      refine G_get (ci := 2) (k := 1) K rfl in_X2 wd_192 rfl dX2_closeRing_113 hb.1 (hb.2.1 _ _) (Nat.le_of_ble_eq_true rfl) rfl ?_
      refine G_iload 0 rfl K dX2_closeRing_116 ?_
      obtain ⟨r2, e2, h⟩ := wpO_bind h
      refine G_callVl (ci := 7) [.int ((2 * r1) + x3)] [] K dX2_closeRing_118 wv_527 yd_X7_at hb.2.2.2.1.1 (hb.2.2.2.1.2.2.1 _ _) rfl (by decide) (by decide) rfl rfl (Nat.le_of_ble_eq_true rfl) (K_Row_at l g htr ((b + 3)) ((b + 4)) 18 hb.2.2.2.1 ((2 * r1) + x3) z.2.2 _ e2) ?_
      refine G_lload 4 rfl K dX2_closeRing_121 ?_
      refine G_lmul K dX2_closeRing_123 ?_
      refine G_aload_n rfl 1 rfl K dX2_closeRing_124 ?_
      refine G_get (ci := 2) (k := 6) K rfl in_X2 wd_199 rfl dX2_closeRing_125 hb.1 (hb.2.1 _ _) (Nat.le_of_ble_eq_true rfl) rfl ?_
      refine G_lload 5 rfl K dX2_closeRing_128 ?_
      refine G_lmul K dX2_closeRing_130 ?_
      refine G_ladd K dX2_closeRing_131 ?_
      refine G_lstore K dX2_closeRing_132 (Nat.le_of_ble_eq_true rfl) rfl ?_
      refine G_aload_n rfl 2 rfl K dX2_closeRing_134 ?_
      refine G_get (ci := 2) (k := 2) K rfl in_X2 wd_193 rfl dX2_closeRing_135 hb.1 (hb.2.1 _ _) (Nat.le_of_ble_eq_true rfl) rfl ?_
      refine G_iload 1 rfl K dX2_closeRing_138 ?_
      refine G_lload 0 rfl K dX2_closeRing_140 ?_
      obtain ⟨r3, e3, h⟩ := wpO_bind h
      refine G_callVv (ci := 7) [.int ((2 * r1) + x3), .long ((r2 * x10) + ((z.2.2.2 b 6) * z.1))] [] K dX2_closeRing_142 wv_522 yd_X7_put hb.2.2.2.2.1.1 (hb.2.2.2.2.1.2.2.1 _ _) rfl (by decide) (by decide) rfl rfl (Nat.le_of_ble_eq_true rfl) (K_Row_put l g htr ((b + 5)) ((b + 6)) 18 hb.2.2.2.2.1 ((2 * r1) + x3) ((r2 * x10) + ((z.2.2.2 b 6) * z.1)) z.2.2 _ e3) ?_
      refine G_aload_n rfl 2 rfl K dX2_closeRing_145 ?_
      refine G_get (ci := 2) (k := 3) K rfl in_X2 wd_195 rfl dX2_closeRing_146 hb.1 (hb.2.1 _ _) (Nat.le_of_ble_eq_true rfl) rfl ?_
      refine G_aload_n rfl 2 rfl K dX2_closeRing_149 ?_
      refine G_get (ci := 2) (k := 4) K rfl in_X2 wd_197 rfl dX2_closeRing_150 hb.1 (hb.2.1 _ _) (Nat.le_of_ble_eq_true rfl) rfl ?_
      refine G_iload 7 rfl K dX2_closeRing_153 ?_
      obtain ⟨r4, e4, h⟩ := wpO_bind h
      refine G_callVi (ci := 7) [.int z.2.1] [.ref (g.2.1 ((b + 7)))] K dX2_closeRing_155 wv_535 yd_X7_small hb.2.2.2.2.2.2.1.1 (hb.2.2.2.2.2.2.1.2.2.1 _ _) rfl (by decide) (by decide) rfl rfl (Nat.le_of_ble_eq_true rfl) (K_Row_small l g htr ((b + 9)) ((b + 10)) 9 hb.2.2.2.2.2.2.1 z.2.1 r3 _ e4) ?_
      refine G_lload 5 rfl K dX2_closeRing_158 ?_
      obtain ⟨r5, e5, h⟩ := wpO_bind h
      refine G_callVv (ci := 7) [.int r4, .long x10] [] K dX2_closeRing_160 wv_522 yd_X7_put hb.2.2.2.2.2.1.1 (hb.2.2.2.2.2.1.2.2.1 _ _) rfl (by decide) (by decide) rfl rfl (Nat.le_of_ble_eq_true rfl) (K_Row_put l g htr ((b + 7)) ((b + 8)) 9 hb.2.2.2.2.2.1 r4 x10 r3 _ e5) ?_
      refine G_aload_n rfl 2 rfl K dX2_closeRing_163 ?_
      refine G_get (ci := 2) (k := 7) K rfl in_X2 wd_200 rfl dX2_closeRing_164 hb.1 (hb.2.1 _ _) (Nat.le_of_ble_eq_true rfl) rfl ?_
      refine G_lconst (v := 0) rfl K dX2_closeRing_167 ?_
      refine G_lcmp_ne (tgt := 176) K dX2_closeRing_168 dX2_closeRing_169 (by decide) (fun hc => ?_) (fun hc => ?_)
      · have h := wpO_f h hc
        refine G_lload 0 rfl K dX2_closeRing_176 ?_
        refine G_aload_n rfl 2 rfl K dX2_closeRing_178 ?_
        refine G_get (ci := 2) (k := 7) K rfl in_X2 wd_200 rfl dX2_closeRing_179 hb.1 (hb.2.1 _ _) (Nat.le_of_ble_eq_true rfl) rfl ?_
        obtain ⟨hc, h⟩ := wpO_g h
        refine G_ldiv hc K dX2_closeRing_182 ?_
        refine G_lstore K dX2_closeRing_183 (Nat.le_of_ble_eq_true rfl) rfl ?_
        refine G_iinc (v := z.2.1 + (-1)) 7 rfl K dX2_closeRing_185 rfl (Nat.le_of_ble_eq_true rfl) rfl ?_
        refine G_goto (tgt := 91) K dX2_closeRing_188 (by decide) ?_
        exact G_lv (lv' := [(0, .ref (g.2.1 b)), (1, .int x1), (3, .int x3), (10, .long x10), (12, .long (((r2 * x10) + ((z.2.2.2 b 6) * z.1)) / (r5.2 b 7))), (14, .int (z.2.1 + (-1)))]) [4, 5, 6, 7, 1, 0] rfl (E91 (((r2 * x10) + ((z.2.2.2 b 6) * z.1)) / (r5.2 b 7)) (z.2.1 + (-1)) r5 (wpO_some h))
      · have h := wpO_t h hc
        refine G_lconst (v := 0) rfl K dX2_closeRing_172 ?_
        refine G_goto (tgt := 183) K dX2_closeRing_173 (by decide) ?_
        refine G_lstore K dX2_closeRing_183 (Nat.le_of_ble_eq_true rfl) rfl ?_
        refine G_iinc (v := z.2.1 + (-1)) 7 rfl K dX2_closeRing_185 rfl (Nat.le_of_ble_eq_true rfl) rfl ?_
        refine G_goto (tgt := 91) K dX2_closeRing_188 (by decide) ?_
        exact G_lv (lv' := [(0, .ref (g.2.1 b)), (1, .int x1), (3, .int x3), (10, .long x10), (12, .long 0), (14, .int (z.2.1 + (-1)))]) [4, 5, 6, 7, 1, 0] rfl (E91 0 (z.2.1 + (-1)) r5 (wpO_some h))
  have J75 : ∀ (x1 : Int32) (x2 : Int32) (x3 : Int32) (x4 : Int64) (x6 : Int64) (x8 : Int64) (M : Mem), wpO (F_Chain_closeRing_j75 b x1 x2 x3 x4 x6 x8 M) PHI → GG p l e { frames := 1, cells := 0, slots := 0, locals := 23 } s m args below meth c g 18 (vx_MQ below (Qn g s.heap.size (.inl none) MZ) (QX g s.heap.size (.inl none) MZ) args s 0 0 (AS g s.heap.size)) 0 0 75 [(0, .ref (g.2.1 b)), (1, .int x1), (2, .int x2), (3, .int x3), (4, .long x4), (6, .long x6), (8, .long x8)] [] M := by
    intro x1 x2 x3 x4 x6 x8 M h
    unfold F_Chain_closeRing_j75 at h
    refine G_lload 6 rfl K dX2_closeRing_75 ?_
    refine G_lload 5 rfl K dX2_closeRing_77 ?_
    refine G_lsub K dX2_closeRing_79 ?_
    refine G_lstore K dX2_closeRing_80 (Nat.le_of_ble_eq_true rfl) rfl ?_
    refine G_lload 5 rfl K dX2_closeRing_82 ?_
    refine G_lstore K dX2_closeRing_84 (Nat.le_of_ble_eq_true rfl) rfl ?_
    refine G_iload_n rfl 4 rfl K dX2_closeRing_86 ?_
    refine G_iconst (v := 1) rfl K dX2_closeRing_87 ?_
    refine G_isub K dX2_closeRing_88 ?_
    refine G_istore K dX2_closeRing_89 (Nat.le_of_ble_eq_true rfl) rfl ?_
    exact G_lv (lv' := [(0, .ref (g.2.1 b)), (1, .int x1), (3, .int x3), (10, .long (x8 - x6)), (12, .long x4), (14, .int (x2 - 1))]) [3, 4, 6, 2, 1, 0] rfl (J91 x1 x3 (x8 - x6) x4 (x2 - 1) M h)
  have J12 : ∀ (x1 : Int32) (x2 : Int32) (x3 : Int32) (x4 : Int64) (x6 : Int64) (x8 : Int64) (x10 : Int32) (M : Mem), wpO (F_Chain_closeRing_l12 b x1 x2 x3 x4 x6 x8 x10 M) PHI → GG p l e { frames := 1, cells := 0, slots := 0, locals := 23 } s m args below meth c g 18 (vx_MQ below (Qn g s.heap.size (.inl none) MZ) (QX g s.heap.size (.inl none) MZ) args s 0 0 (AS g s.heap.size)) 0 0 12 [(0, .ref (g.2.1 b)), (1, .int x1), (2, .int x2), (3, .int x3), (4, .long x4), (6, .long x6), (8, .long x8), (10, .int x10)] [] M := by
    intro x1 x2 x3 x4 x6 x8 x10 M h
    unfold F_Chain_closeRing_l12 at h
    refine loop_C4 (G := fun (x4 : Int64) (x6 : Int64) (x8 : Int64) (x10 : Int32) => GG p l e { frames := 1, cells := 0, slots := 0, locals := 23 } s m args below meth c g 18 (vx_MQ below (Qn g s.heap.size (.inl none) MZ) (QX g s.heap.size (.inl none) MZ) args s 0 0 (AS g s.heap.size)) 0 0 12 [(0, .ref (g.2.1 b)), (1, .int x1), (2, .int x2), (3, .int x3), (4, .long x4), (6, .long x6), (8, .long x8), (10, .int x10)] [] M) (body := F_Chain_closeRing_b12 b x1 x2 x3 M) ?_ FUEL _ _ _ _ (wpO_bind h)
    intro P12 E12 X12
    intro z h
    unfold F_Chain_closeRing_b12 at h
    refine G_iload 7 rfl K dX2_closeRing_12 ?_
    refine G_iload_n rfl 2 rfl K dX2_closeRing_14 ?_
    refine G_icmp_ge (tgt := 75) K dX2_closeRing_15 (by decide) (fun hc => ?_) (fun hc => ?_)
    · have h := wpO_t h hc
      have h := X12 _ (wpO_some h)
      try dsimp only at h
      exact G_lv (lv' := [(0, .ref (g.2.1 b)), (1, .int x1), (2, .int x2), (3, .int x3), (4, .long z.1), (6, .long z.2.1), (8, .long z.2.2.1)]) [0, 1, 2, 3, 4, 5, 6] rfl (J75 x1 x2 x3 z.1 z.2.1 z.2.2.1 M h)
    · have h := wpO_f h hc
      refine G_lload 4 rfl K dX2_closeRing_18 ?_
      refine G_aload_n rfl 0 rfl K dX2_closeRing_20 ?_
      refine G_get (ci := 2) (k := 7) K rfl in_X2 wd_200 rfl dX2_closeRing_21 hb.1 (hb.2.1 _ _) (Nat.le_of_ble_eq_true rfl) rfl ?_
      refine G_lmul K dX2_closeRing_24 ?_
      refine G_lload 5 rfl K dX2_closeRing_25 ?_
      refine G_aload_n rfl 0 rfl K dX2_closeRing_27 ?_
      refine G_get (ci := 2) (k := 1) K rfl in_X2 wd_192 rfl dX2_closeRing_28 hb.1 (hb.2.1 _ _) (Nat.le_of_ble_eq_true rfl) rfl ?_
      refine G_iconst (v := 2) rfl K dX2_closeRing_31 ?_
      refine G_aload_n rfl 0 rfl K dX2_closeRing_32 ?_
      refine G_get (ci := 2) (k := 4) K rfl in_X2 wd_197 rfl dX2_closeRing_33 hb.1 (hb.2.1 _ _) (Nat.le_of_ble_eq_true rfl) rfl ?_
      refine G_iload 7 rfl K dX2_closeRing_36 ?_
      obtain ⟨r6, e6, h⟩ := wpO_bind h
      refine G_callVi (ci := 7) [.int z.2.2.2] [.int 2, .ref (g.2.1 ((b + 3))), .long z.2.1, .long (z.1 * (M.2 b 7))] K dX2_closeRing_38 wv_535 yd_X7_small hb.2.2.2.2.2.2.1.1 (hb.2.2.2.2.2.2.1.2.2.1 _ _) rfl (by decide) (by decide) rfl rfl (Nat.le_of_ble_eq_true rfl) (K_Row_small l g htr ((b + 9)) ((b + 10)) 9 hb.2.2.2.2.2.2.1 z.2.2.2 M _ e6) ?_
      refine G_imul K dX2_closeRing_41 ?_
      refine G_iload_n rfl 3 rfl K dX2_closeRing_42 ?_
      refine G_iadd K dX2_closeRing_43 ?_
      obtain ⟨r7, e7, h⟩ := wpO_bind h
      refine G_callVl (ci := 7) [.int ((2 * r6) + x3)] [.long z.2.1, .long (z.1 * (M.2 b 7))] K dX2_closeRing_44 wv_527 yd_X7_at hb.2.2.2.1.1 (hb.2.2.2.1.2.2.1 _ _) rfl (by decide) (by decide) rfl rfl (Nat.le_of_ble_eq_true rfl) (K_Row_at l g htr ((b + 3)) ((b + 4)) 18 hb.2.2.2.1 ((2 * r6) + x3) M _ e7) ?_
      refine G_lmul K dX2_closeRing_47 ?_
      refine G_ladd K dX2_closeRing_48 ?_
      refine G_lstore K dX2_closeRing_49 (Nat.le_of_ble_eq_true rfl) rfl ?_
      refine G_lload 5 rfl K dX2_closeRing_51 ?_
      refine G_aload_n rfl 1 rfl K dX2_closeRing_53 ?_
      refine G_get (ci := 2) (k := 6) K rfl in_X2 wd_199 rfl dX2_closeRing_54 hb.1 (hb.2.1 _ _) (Nat.le_of_ble_eq_true rfl) rfl ?_
      refine G_lmul K dX2_closeRing_57 ?_
      refine G_lstore K dX2_closeRing_58 (Nat.le_of_ble_eq_true rfl) rfl ?_
      refine G_lload 6 rfl K dX2_closeRing_60 ?_
      refine G_aload_n rfl 2 rfl K dX2_closeRing_62 ?_
      refine G_get (ci := 2) (k := 7) K rfl in_X2 wd_200 rfl dX2_closeRing_63 hb.1 (hb.2.1 _ _) (Nat.le_of_ble_eq_true rfl) rfl ?_
      refine G_lmul K dX2_closeRing_66 ?_
      refine G_lstore K dX2_closeRing_67 (Nat.le_of_ble_eq_true rfl) rfl ?_
      refine G_iinc (v := z.2.2.2 + 1) 7 rfl K dX2_closeRing_69 rfl (Nat.le_of_ble_eq_true rfl) rfl ?_
      refine G_goto (tgt := 12) K dX2_closeRing_72 (by decide) ?_
      exact G_lv (lv' := [(0, .ref (g.2.1 b)), (1, .int x1), (2, .int x2), (3, .int x3), (4, .long ((z.1 * (M.2 b 7)) + (z.2.1 * r7))), (6, .long (z.2.1 * (M.2 b 6))), (8, .long (z.2.2.1 * (M.2 b 7))), (10, .int (z.2.2.2 + 1))]) [4, 5, 6, 7, 3, 2, 1, 0] rfl (E12 ((z.1 * (M.2 b 7)) + (z.2.1 * r7)) (z.2.1 * (M.2 b 6)) (z.2.2.1 * (M.2 b 7)) (z.2.2.2 + 1) (wpO_some h))
  unfold F_Chain_closeRing at h
  refine G_lconst (v := 0) rfl K dX2_closeRing_0 ?_
  refine G_lstore K dX2_closeRing_1 (Nat.le_of_ble_eq_true rfl) rfl ?_
  refine G_lconst (v := 1) rfl K dX2_closeRing_3 ?_
  refine G_lstore K dX2_closeRing_4 (Nat.le_of_ble_eq_true rfl) rfl ?_
  refine G_lconst (v := 1) rfl K dX2_closeRing_6 ?_
  refine G_lstore K dX2_closeRing_7 (Nat.le_of_ble_eq_true rfl) rfl ?_
  refine G_iload_n rfl 4 rfl K dX2_closeRing_9 ?_
  refine G_istore K dX2_closeRing_10 (Nat.le_of_ble_eq_true rfl) rfl ?_
  exact G_lv (lv' := [(0, .ref (g.2.1 b)), (1, .int x1), (2, .int x2), (3, .int x3), (4, .long 0), (6, .long 1), (8, .long 1), (10, .int x1)]) [4, 5, 6, 7, 3, 2, 1, 0] rfl (J12 x1 x2 x3 0 1 1 x1 M h)
def on_X2_walkBack : Nat := 0xb1c8ffa70105843200b661693600b6600515681c051700b42a2300b42a69213600b606151400b42a06151700b42a0636600515681b053800a20505150536033200b6211b1a00b42a42693600b61c1a00b42a2900b42a3d3d00b61b1000b42a
theorem ob_X2_walkBack : OKB cX2_walkBack on_X2_walkBack 95 := ⟨by decide +kernel, by decide +kernel⟩
theorem dX2_walkBack_0 : dc cX2_walkBack 0 1 (.aload_n 0) 1 := o_42 ob_X2_walkBack rfl rfl rfl
theorem dX2_walkBack_1 : dc cX2_walkBack 1 4 (.getfield 16) 3 := o_180 ob_X2_walkBack rfl rfl rfl rfl
theorem dX2_walkBack_4 : dc cX2_walkBack 4 5 (.iload_n 1) 1 := o_27 ob_X2_walkBack rfl rfl rfl
theorem dX2_walkBack_5 : dc cX2_walkBack 5 8 (.invokevirtual 61) 3 := o_182 ob_X2_walkBack rfl rfl rfl rfl
theorem dX2_walkBack_8 : dc cX2_walkBack 8 9 (.istore_n 2) 1 := o_61 ob_X2_walkBack rfl rfl rfl
theorem dX2_walkBack_9 : dc cX2_walkBack 9 10 (.aload_n 0) 1 := o_42 ob_X2_walkBack rfl rfl rfl
theorem dX2_walkBack_10 : dc cX2_walkBack 10 13 (.getfield 41) 3 := o_180 ob_X2_walkBack rfl rfl rfl rfl
theorem dX2_walkBack_13 : dc cX2_walkBack 13 14 (.aload_n 0) 1 := o_42 ob_X2_walkBack rfl rfl rfl
theorem dX2_walkBack_14 : dc cX2_walkBack 14 17 (.getfield 26) 3 := o_180 ob_X2_walkBack rfl rfl rfl rfl
theorem dX2_walkBack_17 : dc cX2_walkBack 17 18 (.iload_n 2) 1 := o_28 ob_X2_walkBack rfl rfl rfl
theorem dX2_walkBack_18 : dc cX2_walkBack 18 21 (.invokevirtual 54) 3 := o_182 ob_X2_walkBack rfl rfl rfl rfl
theorem dX2_walkBack_21 : dc cX2_walkBack 21 22 .lmul 1 := o_105 ob_X2_walkBack rfl rfl rfl
theorem dX2_walkBack_22 : dc cX2_walkBack 22 23 (.lstore_n 3) 1 := o_66 ob_X2_walkBack rfl rfl rfl
theorem dX2_walkBack_23 : dc cX2_walkBack 23 24 (.aload_n 0) 1 := o_42 ob_X2_walkBack rfl rfl rfl
theorem dX2_walkBack_24 : dc cX2_walkBack 24 27 (.getfield 26) 3 := o_180 ob_X2_walkBack rfl rfl rfl rfl
theorem dX2_walkBack_27 : dc cX2_walkBack 27 28 (.iload_n 1) 1 := o_27 ob_X2_walkBack rfl rfl rfl
theorem dX2_walkBack_28 : dc cX2_walkBack 28 29 (.lload_n 3) 1 := o_33 ob_X2_walkBack rfl rfl rfl
theorem dX2_walkBack_29 : dc cX2_walkBack 29 32 (.invokevirtual 50) 3 := o_182 ob_X2_walkBack rfl rfl rfl rfl
theorem dX2_walkBack_32 : dc cX2_walkBack 32 33 (.iconst 0) 1 := o_3 ob_X2_walkBack rfl rfl rfl
theorem dX2_walkBack_33 : dc cX2_walkBack 33 35 (.istore 5) 2 := o_54 ob_X2_walkBack rfl rfl rfl rfl
theorem dX2_walkBack_35 : dc cX2_walkBack 35 37 (.iload 5) 2 := o_21 ob_X2_walkBack rfl rfl rfl rfl
theorem dX2_walkBack_37 : dc cX2_walkBack 37 38 (.iconst 2) 1 := o_5 ob_X2_walkBack rfl rfl rfl
theorem dX2_walkBack_38 : dc cX2_walkBack 38 41 (.if_icmp .ge 56) 3 := o_162 ob_X2_walkBack rfl rfl rfl rfl
theorem dX2_walkBack_41 : dc cX2_walkBack 41 42 (.iconst 2) 1 := o_5 ob_X2_walkBack rfl rfl rfl
theorem dX2_walkBack_42 : dc cX2_walkBack 42 43 (.iload_n 1) 1 := o_27 ob_X2_walkBack rfl rfl rfl
theorem dX2_walkBack_43 : dc cX2_walkBack 43 44 .imul 1 := o_104 ob_X2_walkBack rfl rfl rfl
theorem dX2_walkBack_44 : dc cX2_walkBack 44 46 (.iload 5) 2 := o_21 ob_X2_walkBack rfl rfl rfl rfl
theorem dX2_walkBack_46 : dc cX2_walkBack 46 47 .iadd 1 := o_96 ob_X2_walkBack rfl rfl rfl
theorem dX2_walkBack_47 : dc cX2_walkBack 47 49 (.istore 6) 2 := o_54 ob_X2_walkBack rfl rfl rfl rfl
theorem dX2_walkBack_49 : dc cX2_walkBack 49 50 (.aload_n 0) 1 := o_42 ob_X2_walkBack rfl rfl rfl
theorem dX2_walkBack_50 : dc cX2_walkBack 50 53 (.getfield 23) 3 := o_180 ob_X2_walkBack rfl rfl rfl rfl
theorem dX2_walkBack_53 : dc cX2_walkBack 53 55 (.iload 6) 2 := o_21 ob_X2_walkBack rfl rfl rfl rfl
theorem dX2_walkBack_55 : dc cX2_walkBack 55 56 (.aload_n 0) 1 := o_42 ob_X2_walkBack rfl rfl rfl
theorem dX2_walkBack_56 : dc cX2_walkBack 56 59 (.getfield 20) 3 := o_180 ob_X2_walkBack rfl rfl rfl rfl
theorem dX2_walkBack_59 : dc cX2_walkBack 59 61 (.iload 6) 2 := o_21 ob_X2_walkBack rfl rfl rfl rfl
theorem dX2_walkBack_61 : dc cX2_walkBack 61 64 (.invokevirtual 54) 3 := o_182 ob_X2_walkBack rfl rfl rfl rfl
theorem dX2_walkBack_64 : dc cX2_walkBack 64 65 (.lload_n 3) 1 := o_33 ob_X2_walkBack rfl rfl rfl
theorem dX2_walkBack_65 : dc cX2_walkBack 65 66 .lmul 1 := o_105 ob_X2_walkBack rfl rfl rfl
theorem dX2_walkBack_66 : dc cX2_walkBack 66 67 (.aload_n 0) 1 := o_42 ob_X2_walkBack rfl rfl rfl
theorem dX2_walkBack_67 : dc cX2_walkBack 67 70 (.getfield 35) 3 := o_180 ob_X2_walkBack rfl rfl rfl rfl
theorem dX2_walkBack_70 : dc cX2_walkBack 70 71 (.aload_n 0) 1 := o_42 ob_X2_walkBack rfl rfl rfl
theorem dX2_walkBack_71 : dc cX2_walkBack 71 74 (.getfield 23) 3 := o_180 ob_X2_walkBack rfl rfl rfl rfl
theorem dX2_walkBack_74 : dc cX2_walkBack 74 75 (.iconst 2) 1 := o_5 ob_X2_walkBack rfl rfl rfl
theorem dX2_walkBack_75 : dc cX2_walkBack 75 76 (.iload_n 2) 1 := o_28 ob_X2_walkBack rfl rfl rfl
theorem dX2_walkBack_76 : dc cX2_walkBack 76 77 .imul 1 := o_104 ob_X2_walkBack rfl rfl rfl
theorem dX2_walkBack_77 : dc cX2_walkBack 77 79 (.iload 5) 2 := o_21 ob_X2_walkBack rfl rfl rfl rfl
theorem dX2_walkBack_79 : dc cX2_walkBack 79 80 .iadd 1 := o_96 ob_X2_walkBack rfl rfl rfl
theorem dX2_walkBack_80 : dc cX2_walkBack 80 83 (.invokevirtual 54) 3 := o_182 ob_X2_walkBack rfl rfl rfl rfl
theorem dX2_walkBack_83 : dc cX2_walkBack 83 84 .lmul 1 := o_105 ob_X2_walkBack rfl rfl rfl
theorem dX2_walkBack_84 : dc cX2_walkBack 84 85 .ladd 1 := o_97 ob_X2_walkBack rfl rfl rfl
theorem dX2_walkBack_85 : dc cX2_walkBack 85 88 (.invokevirtual 50) 3 := o_182 ob_X2_walkBack rfl rfl rfl rfl
theorem dX2_walkBack_88 : dc cX2_walkBack 88 91 (.iinc 5 1) 3 := o_132 ob_X2_walkBack rfl rfl rfl rfl rfl
theorem dX2_walkBack_91 : dc cX2_walkBack 91 94 (.goto (-56)) 3 := o_167 ob_X2_walkBack rfl rfl rfl rfl
theorem dX2_walkBack_94 : dc cX2_walkBack 94 95 .return_ 1 := o_177 ob_X2_walkBack rfl rfl rfl
def F_Chain_walkBack_b35 (b : Nat) (x1 : Int32) (x2 : Int32) (x3 : Int64) (z : Int32 × Mem) : Option ((Int32 × Mem) ⊕ ((Mem))) :=
  if 2 ≤ z.1 then some (.inr z.2) else (F_Row_at ((b + 4)) 18 ((2 * x1) + z.1) z.2).bind fun r4 => (F_Row_at ((b + 6)) 18 ((2 * x2) + z.1) z.2).bind fun r5 => (F_Row_put ((b + 6)) 18 ((2 * x1) + z.1) ((r4 * x3) + ((z.2.2 b 6) * r5)) z.2).bind fun r6 => some (.inl ((z.1 + 1, r6)))
def F_Chain_walkBack_l35 (b : Nat) (x1 : Int32) (x2 : Int32) (x3 : Int64) (x5 : Int32) (M : Mem) : Option (Mem) :=
  (iter (F_Chain_walkBack_b35 b x1 x2 x3) FUEL (x5, M)).bind fun r => some r
def F_Chain_walkBack (b : Nat) (x1 : Int32) (M : Mem) : Option (Mem) :=
  (F_Row_small ((b + 2)) 9 x1 M).bind fun r1 => (F_Row_at ((b + 8)) 9 r1 M).bind fun r2 => (F_Row_put ((b + 8)) 9 x1 ((M.2 b 7) * r2) M).bind fun r3 => F_Chain_walkBack_l35 b x1 r1 ((M.2 b 7) * r2) 0 r3
set_option maxRecDepth 100000 in
set_option maxHeartbeats 4000000 in
theorem K_Chain_walkBack (l : Launch) (g : GB) (htr : l.stackTraces = false) (b : Nat) (hb : isChain b) (x1 : Int32) (M : Mem) (MZ : Mem) (h : F_Chain_walkBack b x1 M = some MZ) : CT l g yX2_walkBack (.code yX2_walkBack cX2_walkBack 7 none :: wAll) { frames := 1, cells := 0, slots := 0, locals := 23 } [.ref (g.2.1 b), .int x1] M (.inl none) MZ := by
  refine CT.of [(0, .ref (g.2.1 b)), (1, .int x1)] (by decide +kernel) (Nat.le_of_ble_eq_true rfl) rfl htr ?_
  intro p e s m args below meth c K hr ht
  skip
  obtain ⟨PHI, hPHI, h⟩ : ∃ PHI : Mem → Prop, (∀ a, PHI a → a = MZ) ∧ wpO (F_Chain_walkBack b x1 M) PHI := ⟨fun a => a = MZ, fun _ h => h, _, h, rfl⟩
  have J35 : ∀ (x1 : Int32) (x2 : Int32) (x3 : Int64) (x5 : Int32) (M : Mem), wpO (F_Chain_walkBack_l35 b x1 x2 x3 x5 M) PHI → GG p l e { frames := 1, cells := 0, slots := 0, locals := 23 } s m args below meth c g 7 (vx_MQ below (Qn g s.heap.size (.inl none) MZ) (QX g s.heap.size (.inl none) MZ) args s 0 0 (AS g s.heap.size)) 0 0 35 [(0, .ref (g.2.1 b)), (1, .int x1), (2, .int x2), (3, .long x3), (5, .int x5)] [] M := by
    intro x1 x2 x3 x5 M h
    unfold F_Chain_walkBack_l35 at h
    refine loop_C2 (G := fun (x5 : Int32) (M : Mem) => GG p l e { frames := 1, cells := 0, slots := 0, locals := 23 } s m args below meth c g 7 (vx_MQ below (Qn g s.heap.size (.inl none) MZ) (QX g s.heap.size (.inl none) MZ) args s 0 0 (AS g s.heap.size)) 0 0 35 [(0, .ref (g.2.1 b)), (1, .int x1), (2, .int x2), (3, .long x3), (5, .int x5)] [] M) (body := F_Chain_walkBack_b35 b x1 x2 x3) ?_ FUEL _ _ (wpO_bind h)
    intro P35 E35 X35
    intro z h
    unfold F_Chain_walkBack_b35 at h
    refine G_iload 4 rfl K dX2_walkBack_35 ?_
    refine G_iconst (v := 2) rfl K dX2_walkBack_37 ?_
    refine G_icmp_ge (tgt := 94) K dX2_walkBack_38 (by decide) (fun hc => ?_) (fun hc => ?_)
    · have h := wpO_t h hc
      have h := X35 _ (wpO_some h)
      try dsimp only at h
      cases hPHI _ (wpO_some h)
      exact G_vret K hr dX2_walkBack_94 (Nat.le_of_ble_eq_true rfl) (Nat.le_of_ble_eq_true rfl) ⟨rfl, rfl⟩
    · have h := wpO_f h hc
      refine G_iconst (v := 2) rfl K dX2_walkBack_41 ?_
      refine G_iload_n rfl 1 rfl K dX2_walkBack_42 ?_
      refine G_imul K dX2_walkBack_43 ?_
      refine G_iload 4 rfl K dX2_walkBack_44 ?_
      refine G_iadd K dX2_walkBack_46 ?_
      refine G_istore K dX2_walkBack_47 (Nat.le_of_ble_eq_true rfl) rfl ?_
      refine G_aload_n rfl 1 rfl K dX2_walkBack_49 ?_
      refine G_get (ci := 2) (k := 2) K rfl in_X2 wd_193 rfl dX2_walkBack_50 hb.1 (hb.2.1 _ _) (Nat.le_of_ble_eq_true rfl) rfl ?_
      refine G_iload 0 rfl K dX2_walkBack_53 ?_
      refine G_aload_n rfl 1 rfl K dX2_walkBack_55 ?_
      refine G_get (ci := 2) (k := 1) K rfl in_X2 wd_192 rfl dX2_walkBack_56 hb.1 (hb.2.1 _ _) (Nat.le_of_ble_eq_true rfl) rfl ?_
      refine G_iload 0 rfl K dX2_walkBack_59 ?_
      obtain ⟨r4, e4, h⟩ := wpO_bind h
      refine G_callVl (ci := 7) [.int ((2 * x1) + z.1)] [.int ((2 * x1) + z.1), .ref (g.2.1 ((b + 5)))] K dX2_walkBack_61 wv_527 yd_X7_at hb.2.2.2.1.1 (hb.2.2.2.1.2.2.1 _ _) rfl (by decide) (by decide) rfl rfl (Nat.le_of_ble_eq_true rfl) (K_Row_at l g htr ((b + 3)) ((b + 4)) 18 hb.2.2.2.1 ((2 * x1) + z.1) z.2 _ e4) ?_
      refine G_lload_n rfl 4 rfl K dX2_walkBack_64 ?_
      refine G_lmul K dX2_walkBack_65 ?_
      refine G_aload_n rfl 1 rfl K dX2_walkBack_66 ?_
      refine G_get (ci := 2) (k := 6) K rfl in_X2 wd_199 rfl dX2_walkBack_67 hb.1 (hb.2.1 _ _) (Nat.le_of_ble_eq_true rfl) rfl ?_
      refine G_aload_n rfl 1 rfl K dX2_walkBack_70 ?_
      refine G_get (ci := 2) (k := 2) K rfl in_X2 wd_193 rfl dX2_walkBack_71 hb.1 (hb.2.1 _ _) (Nat.le_of_ble_eq_true rfl) rfl ?_
      refine G_iconst (v := 2) rfl K dX2_walkBack_74 ?_
      refine G_iload_n rfl 3 rfl K dX2_walkBack_75 ?_
      refine G_imul K dX2_walkBack_76 ?_
      refine G_iload 5 rfl K dX2_walkBack_77 ?_
      refine G_iadd K dX2_walkBack_79 ?_
      obtain ⟨r5, e5, h⟩ := wpO_bind h
      refine G_callVl (ci := 7) [.int ((2 * x2) + z.1)] [.long (z.2.2 b 6), .long (r4 * x3), .int ((2 * x1) + z.1), .ref (g.2.1 ((b + 5)))] K dX2_walkBack_80 wv_527 yd_X7_at hb.2.2.2.2.1.1 (hb.2.2.2.2.1.2.2.1 _ _) rfl (by decide) (by decide) rfl rfl (Nat.le_of_ble_eq_true rfl) (K_Row_at l g htr ((b + 5)) ((b + 6)) 18 hb.2.2.2.2.1 ((2 * x2) + z.1) z.2 _ e5) ?_
      refine G_lmul K dX2_walkBack_83 ?_
      refine G_ladd K dX2_walkBack_84 ?_
      obtain ⟨r6, e6, h⟩ := wpO_bind h
      refine G_callVv (ci := 7) [.int ((2 * x1) + z.1), .long ((r4 * x3) + ((z.2.2 b 6) * r5))] [] K dX2_walkBack_85 wv_522 yd_X7_put hb.2.2.2.2.1.1 (hb.2.2.2.2.1.2.2.1 _ _) rfl (by decide) (by decide) rfl rfl (Nat.le_of_ble_eq_true rfl) (K_Row_put l g htr ((b + 5)) ((b + 6)) 18 hb.2.2.2.2.1 ((2 * x1) + z.1) ((r4 * x3) + ((z.2.2 b 6) * r5)) z.2 _ e6) ?_
      refine G_iinc (v := z.1 + 1) 5 rfl K dX2_walkBack_88 rfl (Nat.le_of_ble_eq_true rfl) rfl ?_
      refine G_goto (tgt := 35) K dX2_walkBack_91 (by decide) ?_
      exact G_lv (lv' := [(0, .ref (g.2.1 b)), (1, .int x1), (2, .int x2), (3, .long x3), (5, .int (z.1 + 1))]) [2, 3, 4, 5, 0] rfl (E35 (z.1 + 1) r6 (wpO_some h))
  unfold F_Chain_walkBack at h
  refine G_aload_n rfl 0 rfl K dX2_walkBack_0 ?_
  refine G_get (ci := 2) (k := 0) K rfl in_X2 wd_190 rfl dX2_walkBack_1 hb.1 (hb.2.1 _ _) (Nat.le_of_ble_eq_true rfl) rfl ?_
  refine G_iload_n rfl 1 rfl K dX2_walkBack_4 ?_
  obtain ⟨r1, e1, h⟩ := wpO_bind h
  refine G_callVi (ci := 7) [.int x1] [] K dX2_walkBack_5 wv_535 yd_X7_small hb.2.2.1.1 (hb.2.2.1.2.2.1 _ _) rfl (by decide) (by decide) rfl rfl (Nat.le_of_ble_eq_true rfl) (K_Row_small l g htr ((b + 1)) ((b + 2)) 9 hb.2.2.1 x1 M _ e1) ?_
  refine G_istore_n rfl K dX2_walkBack_8 (Nat.le_of_ble_eq_true rfl) rfl ?_
  refine G_aload_n rfl 1 rfl K dX2_walkBack_9 ?_
  refine G_get (ci := 2) (k := 7) K rfl in_X2 wd_200 rfl dX2_walkBack_10 hb.1 (hb.2.1 _ _) (Nat.le_of_ble_eq_true rfl) rfl ?_
  refine G_aload_n rfl 1 rfl K dX2_walkBack_13 ?_
  refine G_get (ci := 2) (k := 3) K rfl in_X2 wd_195 rfl dX2_walkBack_14 hb.1 (hb.2.1 _ _) (Nat.le_of_ble_eq_true rfl) rfl ?_
  refine G_iload_n rfl 0 rfl K dX2_walkBack_17 ?_
  obtain ⟨r2, e2, h⟩ := wpO_bind h
  refine G_callVl (ci := 7) [.int r1] [.long (M.2 b 7)] K dX2_walkBack_18 wv_527 yd_X7_at hb.2.2.2.2.2.1.1 (hb.2.2.2.2.2.1.2.2.1 _ _) rfl (by decide) (by decide) rfl rfl (Nat.le_of_ble_eq_true rfl) (K_Row_at l g htr ((b + 7)) ((b + 8)) 9 hb.2.2.2.2.2.1 r1 M _ e2) ?_
  refine G_lmul K dX2_walkBack_21 ?_
  refine G_lstore_n rfl K dX2_walkBack_22 (Nat.le_of_ble_eq_true rfl) rfl ?_
  refine G_aload_n rfl 2 rfl K dX2_walkBack_23 ?_
  refine G_get (ci := 2) (k := 3) K rfl in_X2 wd_195 rfl dX2_walkBack_24 hb.1 (hb.2.1 _ _) (Nat.le_of_ble_eq_true rfl) rfl ?_
  refine G_iload_n rfl 3 rfl K dX2_walkBack_27 ?_
  refine G_lload_n rfl 0 rfl K dX2_walkBack_28 ?_
  obtain ⟨r3, e3, h⟩ := wpO_bind h
  refine G_callVv (ci := 7) [.int x1, .long ((M.2 b 7) * r2)] [] K dX2_walkBack_29 wv_522 yd_X7_put hb.2.2.2.2.2.1.1 (hb.2.2.2.2.2.1.2.2.1 _ _) rfl (by decide) (by decide) rfl rfl (Nat.le_of_ble_eq_true rfl) (K_Row_put l g htr ((b + 7)) ((b + 8)) 9 hb.2.2.2.2.2.1 x1 ((M.2 b 7) * r2) M _ e3) ?_
  refine G_iconst (v := 0) rfl K dX2_walkBack_32 ?_
  refine G_istore K dX2_walkBack_33 (Nat.le_of_ble_eq_true rfl) rfl ?_
  exact G_lv (lv' := [(0, .ref (g.2.1 b)), (1, .int x1), (2, .int r1), (3, .long ((M.2 b 7) * r2)), (5, .int 0)]) [3, 4, 2, 1, 0] rfl (J35 x1 r1 ((M.2 b 7) * r2) 0 r3 h)
theorem yd_X2_walkBack : ydN yX2_walkBack 1 := ⟨by decide, by decide, by decide +kernel⟩
theorem yd_X2_closeRing : ydN yX2_closeRing 3 := ⟨by decide, by decide, by decide +kernel⟩
theorem wv_540 : wdV "KeptWell$Chain" 69 yX2_walkBack cX2_walkBack 7 none := ⟨wd_540, wd_542, ws_X2_walkBack, wd_7, wd_543⟩
theorem wv_536 : wdV "KeptWell$Chain" 65 yX2_closeRing cX2_closeRing 18 none := ⟨wd_536, wd_538, ws_X2_closeRing, wd_7, wd_539⟩
def on_X2_settle : Nat := 0xb1ebffa7ff05844500b63d00b605151d00b42a2a16009b05150536640404154100b6041c04152a4100b6031c04152a04363d00b61d2000b42a1d009a94093600b61d1a00b42a04361cbeffa73e3d00b61d1000b42a0102843200b6851c1d2000b42a3200b6851d1c1d00b42a26009a942c00143600b61d2000b42a35009a94093600b61d1a00b42a4200a209101c3e1b3d032e00b62c00142000b42a
theorem ob_X2_settle : OKB cX2_settle on_X2_settle 156 := ⟨by decide +kernel, by decide +kernel⟩
theorem dX2_settle_0 : dc cX2_settle 0 1 (.aload_n 0) 1 := o_42 ob_X2_settle rfl rfl rfl
theorem dX2_settle_1 : dc cX2_settle 1 4 (.getfield 32) 3 := o_180 ob_X2_settle rfl rfl rfl rfl
theorem dX2_settle_4 : dc cX2_settle 4 7 (.ldc2_w 44) 3 := o_20 ob_X2_settle rfl rfl rfl rfl
theorem dX2_settle_7 : dc cX2_settle 7 10 (.invokevirtual 46) 3 := o_182 ob_X2_settle rfl rfl rfl rfl
theorem dX2_settle_10 : dc cX2_settle 10 11 (.iconst 0) 1 := o_3 ob_X2_settle rfl rfl rfl
theorem dX2_settle_11 : dc cX2_settle 11 12 (.istore_n 2) 1 := o_61 ob_X2_settle rfl rfl rfl
theorem dX2_settle_12 : dc cX2_settle 12 13 (.iload_n 1) 1 := o_27 ob_X2_settle rfl rfl rfl
theorem dX2_settle_13 : dc cX2_settle 13 14 (.istore_n 3) 1 := o_62 ob_X2_settle rfl rfl rfl
theorem dX2_settle_14 : dc cX2_settle 14 15 (.iload_n 2) 1 := o_28 ob_X2_settle rfl rfl rfl
theorem dX2_settle_15 : dc cX2_settle 15 17 (.bipush 9) 2 := o_16 ob_X2_settle rfl rfl rfl rfl
theorem dX2_settle_17 : dc cX2_settle 17 20 (.if_icmp .ge 66) 3 := o_162 ob_X2_settle rfl rfl rfl rfl
theorem dX2_settle_20 : dc cX2_settle 20 21 (.aload_n 0) 1 := o_42 ob_X2_settle rfl rfl rfl
theorem dX2_settle_21 : dc cX2_settle 21 24 (.getfield 26) 3 := o_180 ob_X2_settle rfl rfl rfl rfl
theorem dX2_settle_24 : dc cX2_settle 24 25 (.iload_n 3) 1 := o_29 ob_X2_settle rfl rfl rfl
theorem dX2_settle_25 : dc cX2_settle 25 28 (.invokevirtual 54) 3 := o_182 ob_X2_settle rfl rfl rfl rfl
theorem dX2_settle_28 : dc cX2_settle 28 29 (.lconst 0) 1 := o_9 ob_X2_settle rfl rfl rfl
theorem dX2_settle_29 : dc cX2_settle 29 30 .lcmp 1 := o_148 ob_X2_settle rfl rfl rfl
theorem dX2_settle_30 : dc cX2_settle 30 33 (.ifCond .ne 53) 3 := o_154 ob_X2_settle rfl rfl rfl rfl
theorem dX2_settle_33 : dc cX2_settle 33 34 (.aload_n 0) 1 := o_42 ob_X2_settle rfl rfl rfl
theorem dX2_settle_34 : dc cX2_settle 34 37 (.getfield 32) 3 := o_180 ob_X2_settle rfl rfl rfl rfl
theorem dX2_settle_37 : dc cX2_settle 37 38 (.iload_n 3) 1 := o_29 ob_X2_settle rfl rfl rfl
theorem dX2_settle_38 : dc cX2_settle 38 41 (.invokevirtual 54) 3 := o_182 ob_X2_settle rfl rfl rfl rfl
theorem dX2_settle_41 : dc cX2_settle 41 44 (.ldc2_w 44) 3 := o_20 ob_X2_settle rfl rfl rfl rfl
theorem dX2_settle_44 : dc cX2_settle 44 45 .lcmp 1 := o_148 ob_X2_settle rfl rfl rfl
theorem dX2_settle_45 : dc cX2_settle 45 48 (.ifCond .ne 38) 3 := o_154 ob_X2_settle rfl rfl rfl rfl
theorem dX2_settle_48 : dc cX2_settle 48 49 (.aload_n 0) 1 := o_42 ob_X2_settle rfl rfl rfl
theorem dX2_settle_49 : dc cX2_settle 49 52 (.getfield 29) 3 := o_180 ob_X2_settle rfl rfl rfl rfl
theorem dX2_settle_52 : dc cX2_settle 52 53 (.iload_n 2) 1 := o_28 ob_X2_settle rfl rfl rfl
theorem dX2_settle_53 : dc cX2_settle 53 54 (.iload_n 3) 1 := o_29 ob_X2_settle rfl rfl rfl
theorem dX2_settle_54 : dc cX2_settle 54 55 .i2l 1 := o_133 ob_X2_settle rfl rfl rfl
theorem dX2_settle_55 : dc cX2_settle 55 58 (.invokevirtual 50) 3 := o_182 ob_X2_settle rfl rfl rfl rfl
theorem dX2_settle_58 : dc cX2_settle 58 59 (.aload_n 0) 1 := o_42 ob_X2_settle rfl rfl rfl
theorem dX2_settle_59 : dc cX2_settle 59 62 (.getfield 32) 3 := o_180 ob_X2_settle rfl rfl rfl rfl
theorem dX2_settle_62 : dc cX2_settle 62 63 (.iload_n 3) 1 := o_29 ob_X2_settle rfl rfl rfl
theorem dX2_settle_63 : dc cX2_settle 63 64 (.iload_n 2) 1 := o_28 ob_X2_settle rfl rfl rfl
theorem dX2_settle_64 : dc cX2_settle 64 65 .i2l 1 := o_133 ob_X2_settle rfl rfl rfl
theorem dX2_settle_65 : dc cX2_settle 65 68 (.invokevirtual 50) 3 := o_182 ob_X2_settle rfl rfl rfl rfl
theorem dX2_settle_68 : dc cX2_settle 68 71 (.iinc 2 1) 3 := o_132 ob_X2_settle rfl rfl rfl rfl rfl
theorem dX2_settle_71 : dc cX2_settle 71 72 (.aload_n 0) 1 := o_42 ob_X2_settle rfl rfl rfl
theorem dX2_settle_72 : dc cX2_settle 72 75 (.getfield 16) 3 := o_180 ob_X2_settle rfl rfl rfl rfl
theorem dX2_settle_75 : dc cX2_settle 75 76 (.iload_n 3) 1 := o_29 ob_X2_settle rfl rfl rfl
theorem dX2_settle_76 : dc cX2_settle 76 79 (.invokevirtual 61) 3 := o_182 ob_X2_settle rfl rfl rfl rfl
theorem dX2_settle_79 : dc cX2_settle 79 80 (.istore_n 3) 1 := o_62 ob_X2_settle rfl rfl rfl
theorem dX2_settle_80 : dc cX2_settle 80 83 (.goto (-66)) 3 := o_167 ob_X2_settle rfl rfl rfl rfl
theorem dX2_settle_83 : dc cX2_settle 83 84 (.iload_n 2) 1 := o_28 ob_X2_settle rfl rfl rfl
theorem dX2_settle_84 : dc cX2_settle 84 86 (.istore 4) 2 := o_54 ob_X2_settle rfl rfl rfl rfl
theorem dX2_settle_86 : dc cX2_settle 86 87 (.aload_n 0) 1 := o_42 ob_X2_settle rfl rfl rfl
theorem dX2_settle_87 : dc cX2_settle 87 90 (.getfield 26) 3 := o_180 ob_X2_settle rfl rfl rfl rfl
theorem dX2_settle_90 : dc cX2_settle 90 91 (.iload_n 3) 1 := o_29 ob_X2_settle rfl rfl rfl
theorem dX2_settle_91 : dc cX2_settle 91 94 (.invokevirtual 54) 3 := o_182 ob_X2_settle rfl rfl rfl rfl
theorem dX2_settle_94 : dc cX2_settle 94 95 (.lconst 0) 1 := o_9 ob_X2_settle rfl rfl rfl
theorem dX2_settle_95 : dc cX2_settle 95 96 .lcmp 1 := o_148 ob_X2_settle rfl rfl rfl
theorem dX2_settle_96 : dc cX2_settle 96 99 (.ifCond .ne 29) 3 := o_154 ob_X2_settle rfl rfl rfl rfl
theorem dX2_settle_99 : dc cX2_settle 99 100 (.aload_n 0) 1 := o_42 ob_X2_settle rfl rfl rfl
theorem dX2_settle_100 : dc cX2_settle 100 103 (.getfield 32) 3 := o_180 ob_X2_settle rfl rfl rfl rfl
theorem dX2_settle_103 : dc cX2_settle 103 104 (.iload_n 3) 1 := o_29 ob_X2_settle rfl rfl rfl
theorem dX2_settle_104 : dc cX2_settle 104 107 (.invokevirtual 61) 3 := o_182 ob_X2_settle rfl rfl rfl rfl
theorem dX2_settle_107 : dc cX2_settle 107 109 (.istore 4) 2 := o_54 ob_X2_settle rfl rfl rfl rfl
theorem dX2_settle_109 : dc cX2_settle 109 110 (.aload_n 0) 1 := o_42 ob_X2_settle rfl rfl rfl
theorem dX2_settle_110 : dc cX2_settle 110 112 (.iload 4) 2 := o_21 ob_X2_settle rfl rfl rfl rfl
theorem dX2_settle_112 : dc cX2_settle 112 113 (.iload_n 2) 1 := o_28 ob_X2_settle rfl rfl rfl
theorem dX2_settle_113 : dc cX2_settle 113 114 (.iconst 0) 1 := o_3 ob_X2_settle rfl rfl rfl
theorem dX2_settle_114 : dc cX2_settle 114 117 (.invokevirtual 65) 3 := o_182 ob_X2_settle rfl rfl rfl rfl
theorem dX2_settle_117 : dc cX2_settle 117 118 (.aload_n 0) 1 := o_42 ob_X2_settle rfl rfl rfl
theorem dX2_settle_118 : dc cX2_settle 118 120 (.iload 4) 2 := o_21 ob_X2_settle rfl rfl rfl rfl
theorem dX2_settle_120 : dc cX2_settle 120 121 (.iload_n 2) 1 := o_28 ob_X2_settle rfl rfl rfl
theorem dX2_settle_121 : dc cX2_settle 121 122 (.iconst 1) 1 := o_4 ob_X2_settle rfl rfl rfl
theorem dX2_settle_122 : dc cX2_settle 122 125 (.invokevirtual 65) 3 := o_182 ob_X2_settle rfl rfl rfl rfl
theorem dX2_settle_125 : dc cX2_settle 125 127 (.iload 4) 2 := o_21 ob_X2_settle rfl rfl rfl rfl
theorem dX2_settle_127 : dc cX2_settle 127 128 (.iconst 1) 1 := o_4 ob_X2_settle rfl rfl rfl
theorem dX2_settle_128 : dc cX2_settle 128 129 .isub 1 := o_100 ob_X2_settle rfl rfl rfl
theorem dX2_settle_129 : dc cX2_settle 129 131 (.istore 5) 2 := o_54 ob_X2_settle rfl rfl rfl rfl
theorem dX2_settle_131 : dc cX2_settle 131 133 (.iload 5) 2 := o_21 ob_X2_settle rfl rfl rfl rfl
theorem dX2_settle_133 : dc cX2_settle 133 136 (.ifCond .lt 22) 3 := o_155 ob_X2_settle rfl rfl rfl rfl
theorem dX2_settle_136 : dc cX2_settle 136 137 (.aload_n 0) 1 := o_42 ob_X2_settle rfl rfl rfl
theorem dX2_settle_137 : dc cX2_settle 137 138 (.aload_n 0) 1 := o_42 ob_X2_settle rfl rfl rfl
theorem dX2_settle_138 : dc cX2_settle 138 141 (.getfield 29) 3 := o_180 ob_X2_settle rfl rfl rfl rfl
theorem dX2_settle_141 : dc cX2_settle 141 143 (.iload 5) 2 := o_21 ob_X2_settle rfl rfl rfl rfl
theorem dX2_settle_143 : dc cX2_settle 143 146 (.invokevirtual 61) 3 := o_182 ob_X2_settle rfl rfl rfl rfl
theorem dX2_settle_146 : dc cX2_settle 146 149 (.invokevirtual 69) 3 := o_182 ob_X2_settle rfl rfl rfl rfl
theorem dX2_settle_149 : dc cX2_settle 149 152 (.iinc 5 (-1)) 3 := o_132 ob_X2_settle rfl rfl rfl rfl rfl
theorem dX2_settle_152 : dc cX2_settle 152 155 (.goto (-21)) 3 := o_167 ob_X2_settle rfl rfl rfl rfl
theorem dX2_settle_155 : dc cX2_settle 155 156 .return_ 1 := o_177 ob_X2_settle rfl rfl rfl
def F_Chain_settle_b131 (b : Nat) (z : Int32 × Mem) : Option ((Int32 × Mem) ⊕ ((Mem))) :=
  if z.1 < 0 then some (.inr z.2) else (F_Row_small ((b + 10)) 9 z.1 z.2).bind fun r3 => (F_Chain_walkBack b r3 z.2).bind fun r4 => some (.inl ((z.1 + (-1), r4)))
def F_Chain_settle_l131 (b : Nat) (x5 : Int32) (M : Mem) : Option (Mem) :=
  (iter (F_Chain_settle_b131 b) FUEL (x5, M)).bind fun r => some r
def F_Chain_settle_j83 (b : Nat) (x2 : Int32) (x3 : Int32) (M : Mem) : Option (Mem) :=
  (F_Row_at ((b + 8)) 9 x3 M).bind fun r2 => if r2 = 0 then (F_Row_small ((b + 12)) 9 x3 M).bind fun r5 => (F_Chain_closeRing b r5 x2 0 M).bind fun r6 => (F_Chain_closeRing b r5 x2 1 r6).bind fun r7 => F_Chain_settle_l131 b (r5 - 1) r7 else F_Chain_settle_l131 b (x2 - 1) M
def F_Chain_settle_b14 (b : Nat) (z : Int32 × Int32 × Mem) : Option ((Int32 × Int32 × Mem) ⊕ ((Int32 × Int32 × Mem))) :=
  if 9 ≤ z.1 then some (.inr ((z.1, z.2.1, z.2.2))) else (F_Row_at ((b + 8)) 9 z.2.1 z.2.2).bind fun r8 => if r8 = 0 then (F_Row_at ((b + 12)) 9 z.2.1 z.2.2).bind fun r9 => if r9 = ((-1)) then (F_Row_put ((b + 10)) 9 z.1 z.2.1.toInt64 z.2.2).bind fun r10 => (F_Row_put ((b + 12)) 9 z.2.1 z.1.toInt64 r10).bind fun r11 => (F_Row_small ((b + 2)) 9 z.2.1 r11).bind fun r12 => some (.inl ((z.1 + 1, r12, r11))) else some (.inr ((z.1, z.2.1, z.2.2))) else some (.inr ((z.1, z.2.1, z.2.2)))
def F_Chain_settle_l14 (b : Nat) (x2 : Int32) (x3 : Int32) (M : Mem) : Option (Mem) :=
  (iter (F_Chain_settle_b14 b) FUEL (x2, x3, M)).bind fun r => F_Chain_settle_j83 b r.1 r.2.1 r.2.2
def F_Chain_settle (b : Nat) (x1 : Int32) (M : Mem) : Option (Mem) :=
  (F_Row_setAll ((b + 12)) 9 ((-1)) M).bind fun r1 => F_Chain_settle_l14 b 0 x1 r1
set_option maxRecDepth 100000 in
set_option maxHeartbeats 4000000 in
theorem K_Chain_settle (l : Launch) (g : GB) (htr : l.stackTraces = false) (b : Nat) (hb : isChain b) (x1 : Int32) (M : Mem) (MZ : Mem) (h : F_Chain_settle b x1 M = some MZ) : CT l g yX2_settle (.code yX2_settle cX2_settle 6 none :: wAll) { frames := 2, cells := 0, slots := 0, locals := 60 } [.ref (g.2.1 b), .int x1] M (.inl none) MZ := by
  refine CT.of [(0, .ref (g.2.1 b)), (1, .int x1)] (by decide +kernel) (Nat.le_of_ble_eq_true rfl) rfl htr ?_
  intro p e s m args below meth c K hr ht
  skip
  obtain ⟨PHI, hPHI, h⟩ : ∃ PHI : Mem → Prop, (∀ a, PHI a → a = MZ) ∧ wpO (F_Chain_settle b x1 M) PHI := ⟨fun a => a = MZ, fun _ h => h, _, h, rfl⟩
  have J131 : ∀ (x5 : Int32) (M : Mem), wpO (F_Chain_settle_l131 b x5 M) PHI → GG p l e { frames := 2, cells := 0, slots := 0, locals := 60 } s m args below meth c g 6 (vx_MQ below (Qn g s.heap.size (.inl none) MZ) (QX g s.heap.size (.inl none) MZ) args s 0 0 (AS g s.heap.size)) 0 0 131 [(0, .ref (g.2.1 b)), (5, .int x5)] [] M := by
    intro x5 M h
    unfold F_Chain_settle_l131 at h
    refine loop_C2 (G := fun (x5 : Int32) (M : Mem) => GG p l e { frames := 2, cells := 0, slots := 0, locals := 60 } s m args below meth c g 6 (vx_MQ below (Qn g s.heap.size (.inl none) MZ) (QX g s.heap.size (.inl none) MZ) args s 0 0 (AS g s.heap.size)) 0 0 131 [(0, .ref (g.2.1 b)), (5, .int x5)] [] M) (body := F_Chain_settle_b131 b) ?_ FUEL _ _ (wpO_bind h)
    intro P131 E131 X131
    intro z h
    unfold F_Chain_settle_b131 at h
    refine G_iload 1 rfl K dX2_settle_131 ?_
    refine G_if_lt (tgt := 155) K dX2_settle_133 (by decide) (fun hc => ?_) (fun hc => ?_)
    · have h := wpO_t h hc
      have h := X131 _ (wpO_some h)
      try dsimp only at h
      cases hPHI _ (wpO_some h)
      exact G_vret K hr dX2_settle_155 (Nat.le_of_ble_eq_true rfl) (Nat.le_of_ble_eq_true rfl) ⟨rfl, rfl⟩
    · have h := wpO_f h hc
      refine G_aload_n rfl 0 rfl K dX2_settle_136 ?_
      refine G_aload_n rfl 0 rfl K dX2_settle_137 ?_
      refine G_get (ci := 2) (k := 4) K rfl in_X2 wd_197 rfl dX2_settle_138 hb.1 (hb.2.1 _ _) (Nat.le_of_ble_eq_true rfl) rfl ?_
      refine G_iload 1 rfl K dX2_settle_141 ?_
      obtain ⟨r3, e3, h⟩ := wpO_bind h
      refine G_callVi (ci := 7) [.int z.1] [.ref (g.2.1 b)] K dX2_settle_143 wv_535 yd_X7_small hb.2.2.2.2.2.2.1.1 (hb.2.2.2.2.2.2.1.2.2.1 _ _) rfl (by decide) (by decide) rfl rfl (Nat.le_of_ble_eq_true rfl) (K_Row_small l g htr ((b + 9)) ((b + 10)) 9 hb.2.2.2.2.2.2.1 z.1 z.2 _ e3) ?_
      obtain ⟨r4, e4, h⟩ := wpO_bind h
      refine G_callVv (ci := 2) [.int r3] [] K dX2_settle_146 wv_540 yd_X2_walkBack hb.1 (hb.2.1 _ _) rfl (by decide) (by decide) rfl rfl (Nat.le_of_ble_eq_true rfl) (K_Chain_walkBack l g htr b hb r3 z.2 _ e4) ?_
      refine G_iinc (v := z.1 + (-1)) 1 rfl K dX2_settle_149 rfl (Nat.le_of_ble_eq_true rfl) rfl ?_
      refine G_goto (tgt := 131) K dX2_settle_152 (by decide) ?_
      exact G_lv (lv' := [(0, .ref (g.2.1 b)), (5, .int (z.1 + (-1)))]) [1, 0] rfl (E131 (z.1 + (-1)) r4 (wpO_some h))
  have J83 : ∀ (x2 : Int32) (x3 : Int32) (M : Mem), wpO (F_Chain_settle_j83 b x2 x3 M) PHI → GG p l e { frames := 2, cells := 0, slots := 0, locals := 60 } s m args below meth c g 6 (vx_MQ below (Qn g s.heap.size (.inl none) MZ) (QX g s.heap.size (.inl none) MZ) args s 0 0 (AS g s.heap.size)) 0 0 83 [(0, .ref (g.2.1 b)), (2, .int x2), (3, .int x3)] [] M := by
    intro x2 x3 M h
    unfold F_Chain_settle_j83 at h
    refine G_iload_n rfl 1 rfl K dX2_settle_83 ?_
    refine G_istore K dX2_settle_84 (Nat.le_of_ble_eq_true rfl) rfl ?_
    refine G_aload_n rfl 1 rfl K dX2_settle_86 ?_
    refine G_get (ci := 2) (k := 3) K rfl in_X2 wd_195 rfl dX2_settle_87 hb.1 (hb.2.1 _ _) (Nat.le_of_ble_eq_true rfl) rfl ?_
    refine G_iload_n rfl 3 rfl K dX2_settle_90 ?_
    obtain ⟨r2, e2, h⟩ := wpO_bind h
    refine G_callVl (ci := 7) [.int x3] [] K dX2_settle_91 wv_527 yd_X7_at hb.2.2.2.2.2.1.1 (hb.2.2.2.2.2.1.2.2.1 _ _) rfl (by decide) (by decide) rfl rfl (Nat.le_of_ble_eq_true rfl) (K_Row_at l g htr ((b + 7)) ((b + 8)) 9 hb.2.2.2.2.2.1 x3 M _ e2) ?_
    refine G_lconst (v := 0) rfl K dX2_settle_94 ?_
    refine G_lcmp_ne (tgt := 125) K dX2_settle_95 dX2_settle_96 (by decide) (fun hc => ?_) (fun hc => ?_)
    · have h := wpO_f h hc
      refine G_iload 0 rfl K dX2_settle_125 ?_
      refine G_iconst (v := 1) rfl K dX2_settle_127 ?_
      refine G_isub K dX2_settle_128 ?_
      refine G_istore K dX2_settle_129 (Nat.le_of_ble_eq_true rfl) rfl ?_
      exact G_lv (lv' := [(0, .ref (g.2.1 b)), (5, .int (x2 - 1))]) [2, 0] rfl (J131 (x2 - 1) M h)
    · have h := wpO_t h hc
      refine G_aload_n rfl 1 rfl K dX2_settle_99 ?_
      refine G_get (ci := 2) (k := 5) K rfl in_X2 wd_198 rfl dX2_settle_100 hb.1 (hb.2.1 _ _) (Nat.le_of_ble_eq_true rfl) rfl ?_
      refine G_iload_n rfl 3 rfl K dX2_settle_103 ?_
      obtain ⟨r5, e5, h⟩ := wpO_bind h
      refine G_callVi (ci := 7) [.int x3] [] K dX2_settle_104 wv_535 yd_X7_small hb.2.2.2.2.2.2.2.1 (hb.2.2.2.2.2.2.2.2.2.1 _ _) rfl (by decide) (by decide) rfl rfl (Nat.le_of_ble_eq_true rfl) (K_Row_small l g htr ((b + 11)) ((b + 12)) 9 hb.2.2.2.2.2.2.2 x3 M _ e5) ?_
      refine G_istore K dX2_settle_107 (Nat.le_of_ble_eq_true rfl) rfl ?_
      refine G_aload_n rfl 1 rfl K dX2_settle_109 ?_
      refine G_iload 0 rfl K dX2_settle_110 ?_
      refine G_iload_n rfl 2 rfl K dX2_settle_112 ?_
      refine G_iconst (v := 0) rfl K dX2_settle_113 ?_
      obtain ⟨r6, e6, h⟩ := wpO_bind h
      refine G_callVv (ci := 2) [.int r5, .int x2, .int 0] [] K dX2_settle_114 wv_536 yd_X2_closeRing hb.1 (hb.2.1 _ _) rfl (by decide) (by decide) rfl rfl (Nat.le_of_ble_eq_true rfl) (K_Chain_closeRing l g htr b hb r5 x2 0 M _ e6) ?_
      refine G_aload_n rfl 1 rfl K dX2_settle_117 ?_
      refine G_iload 0 rfl K dX2_settle_118 ?_
      refine G_iload_n rfl 2 rfl K dX2_settle_120 ?_
      refine G_iconst (v := 1) rfl K dX2_settle_121 ?_
      obtain ⟨r7, e7, h⟩ := wpO_bind h
      refine G_callVv (ci := 2) [.int r5, .int x2, .int 1] [] K dX2_settle_122 wv_536 yd_X2_closeRing hb.1 (hb.2.1 _ _) rfl (by decide) (by decide) rfl rfl (Nat.le_of_ble_eq_true rfl) (K_Chain_closeRing l g htr b hb r5 x2 1 r6 _ e7) ?_
      refine G_iload 0 rfl K dX2_settle_125 ?_
      refine G_iconst (v := 1) rfl K dX2_settle_127 ?_
      refine G_isub K dX2_settle_128 ?_
      refine G_istore K dX2_settle_129 (Nat.le_of_ble_eq_true rfl) rfl ?_
      exact G_lv (lv' := [(0, .ref (g.2.1 b)), (5, .int (r5 - 1))]) [2, 0] rfl (J131 (r5 - 1) r7 h)
  have J14 : ∀ (x2 : Int32) (x3 : Int32) (M : Mem), wpO (F_Chain_settle_l14 b x2 x3 M) PHI → GG p l e { frames := 2, cells := 0, slots := 0, locals := 60 } s m args below meth c g 6 (vx_MQ below (Qn g s.heap.size (.inl none) MZ) (QX g s.heap.size (.inl none) MZ) args s 0 0 (AS g s.heap.size)) 0 0 14 [(0, .ref (g.2.1 b)), (2, .int x2), (3, .int x3)] [] M := by
    intro x2 x3 M h
    unfold F_Chain_settle_l14 at h
    refine loop_C3 (G := fun (x2 : Int32) (x3 : Int32) (M : Mem) => GG p l e { frames := 2, cells := 0, slots := 0, locals := 60 } s m args below meth c g 6 (vx_MQ below (Qn g s.heap.size (.inl none) MZ) (QX g s.heap.size (.inl none) MZ) args s 0 0 (AS g s.heap.size)) 0 0 14 [(0, .ref (g.2.1 b)), (2, .int x2), (3, .int x3)] [] M) (body := F_Chain_settle_b14 b) ?_ FUEL _ _ _ (wpO_bind h)
    intro P14 E14 X14
    intro z h
    unfold F_Chain_settle_b14 at h
    refine G_iload_n rfl 1 rfl K dX2_settle_14 ?_
    refine G_bipush (v := 9) rfl K dX2_settle_15 ?_
    refine G_icmp_ge (tgt := 83) K dX2_settle_17 (by decide) (fun hc => ?_) (fun hc => ?_)
    · have h := wpO_t h hc
      have h := X14 _ (wpO_some h)
      try dsimp only at h
      exact J83 z.1 z.2.1 z.2.2 h
    · have h := wpO_f h hc
      refine G_aload_n rfl 0 rfl K dX2_settle_20 ?_
      refine G_get (ci := 2) (k := 3) K rfl in_X2 wd_195 rfl dX2_settle_21 hb.1 (hb.2.1 _ _) (Nat.le_of_ble_eq_true rfl) rfl ?_
      refine G_iload_n rfl 2 rfl K dX2_settle_24 ?_
      obtain ⟨r8, e8, h⟩ := wpO_bind h
      refine G_callVl (ci := 7) [.int z.2.1] [] K dX2_settle_25 wv_527 yd_X7_at hb.2.2.2.2.2.1.1 (hb.2.2.2.2.2.1.2.2.1 _ _) rfl (by decide) (by decide) rfl rfl (Nat.le_of_ble_eq_true rfl) (K_Row_at l g htr ((b + 7)) ((b + 8)) 9 hb.2.2.2.2.2.1 z.2.1 z.2.2 _ e8) ?_
      refine G_lconst (v := 0) rfl K dX2_settle_28 ?_
      refine G_lcmp_ne (tgt := 83) K dX2_settle_29 dX2_settle_30 (by decide) (fun hc => ?_) (fun hc => ?_)
      · have h := wpO_f h hc
        have h := X14 _ (wpO_some h)
        try dsimp only at h
        exact J83 z.1 z.2.1 z.2.2 h
      · have h := wpO_t h hc
        refine G_aload_n rfl 0 rfl K dX2_settle_33 ?_
        refine G_get (ci := 2) (k := 5) K rfl in_X2 wd_198 rfl dX2_settle_34 hb.1 (hb.2.1 _ _) (Nat.le_of_ble_eq_true rfl) rfl ?_
        refine G_iload_n rfl 2 rfl K dX2_settle_37 ?_
        obtain ⟨r9, e9, h⟩ := wpO_bind h
        refine G_callVl (ci := 7) [.int z.2.1] [] K dX2_settle_38 wv_527 yd_X7_at hb.2.2.2.2.2.2.2.1 (hb.2.2.2.2.2.2.2.2.2.1 _ _) rfl (by decide) (by decide) rfl rfl (Nat.le_of_ble_eq_true rfl) (K_Row_at l g htr ((b + 11)) ((b + 12)) 9 hb.2.2.2.2.2.2.2 z.2.1 z.2.2 _ e9) ?_
        refine G_ldc2 (v := (-1)) K dX2_settle_41 wd_500 ?_
        refine G_lcmp_ne (tgt := 83) K dX2_settle_44 dX2_settle_45 (by decide) (fun hc => ?_) (fun hc => ?_)
        · have h := wpO_f h hc
          have h := X14 _ (wpO_some h)
          try dsimp only at h
          exact J83 z.1 z.2.1 z.2.2 h
        · have h := wpO_t h hc
          refine G_aload_n rfl 0 rfl K dX2_settle_48 ?_
          refine G_get (ci := 2) (k := 4) K rfl in_X2 wd_197 rfl dX2_settle_49 hb.1 (hb.2.1 _ _) (Nat.le_of_ble_eq_true rfl) rfl ?_
          refine G_iload_n rfl 1 rfl K dX2_settle_52 ?_
          refine G_iload_n rfl 2 rfl K dX2_settle_53 ?_
          refine G_i2l K dX2_settle_54 ?_
          obtain ⟨r10, e10, h⟩ := wpO_bind h
          refine G_callVv (ci := 7) [.int z.1, .long z.2.1.toInt64] [] K dX2_settle_55 wv_522 yd_X7_put hb.2.2.2.2.2.2.1.1 (hb.2.2.2.2.2.2.1.2.2.1 _ _) rfl (by decide) (by decide) rfl rfl (Nat.le_of_ble_eq_true rfl) (K_Row_put l g htr ((b + 9)) ((b + 10)) 9 hb.2.2.2.2.2.2.1 z.1 z.2.1.toInt64 z.2.2 _ e10) ?_
          refine G_aload_n rfl 0 rfl K dX2_settle_58 ?_
          refine G_get (ci := 2) (k := 5) K rfl in_X2 wd_198 rfl dX2_settle_59 hb.1 (hb.2.1 _ _) (Nat.le_of_ble_eq_true rfl) rfl ?_
          refine G_iload_n rfl 2 rfl K dX2_settle_62 ?_
          refine G_iload_n rfl 1 rfl K dX2_settle_63 ?_
          refine G_i2l K dX2_settle_64 ?_
          obtain ⟨r11, e11, h⟩ := wpO_bind h
          refine G_callVv (ci := 7) [.int z.2.1, .long z.1.toInt64] [] K dX2_settle_65 wv_522 yd_X7_put hb.2.2.2.2.2.2.2.1 (hb.2.2.2.2.2.2.2.2.2.1 _ _) rfl (by decide) (by decide) rfl rfl (Nat.le_of_ble_eq_true rfl) (K_Row_put l g htr ((b + 11)) ((b + 12)) 9 hb.2.2.2.2.2.2.2 z.2.1 z.1.toInt64 r10 _ e11) ?_
          refine G_iinc (v := z.1 + 1) 1 rfl K dX2_settle_68 rfl (Nat.le_of_ble_eq_true rfl) rfl ?_
          refine G_aload_n rfl 1 rfl K dX2_settle_71 ?_
          refine G_get (ci := 2) (k := 0) K rfl in_X2 wd_190 rfl dX2_settle_72 hb.1 (hb.2.1 _ _) (Nat.le_of_ble_eq_true rfl) rfl ?_
          refine G_iload_n rfl 2 rfl K dX2_settle_75 ?_
          obtain ⟨r12, e12, h⟩ := wpO_bind h
          refine G_callVi (ci := 7) [.int z.2.1] [] K dX2_settle_76 wv_535 yd_X7_small hb.2.2.1.1 (hb.2.2.1.2.2.1 _ _) rfl (by decide) (by decide) rfl rfl (Nat.le_of_ble_eq_true rfl) (K_Row_small l g htr ((b + 1)) ((b + 2)) 9 hb.2.2.1 z.2.1 r11 _ e12) ?_
          refine G_istore_n rfl K dX2_settle_79 (Nat.le_of_ble_eq_true rfl) rfl ?_
          refine G_goto (tgt := 14) K dX2_settle_80 (by decide) ?_
          exact G_lv (lv' := [(0, .ref (g.2.1 b)), (2, .int (z.1 + 1)), (3, .int r12)]) [2, 1, 0] rfl (E14 (z.1 + 1) r12 r11 (wpO_some h))
  unfold F_Chain_settle at h
  refine G_aload_n rfl 0 rfl K dX2_settle_0 ?_
  refine G_get (ci := 2) (k := 5) K rfl in_X2 wd_198 rfl dX2_settle_1 hb.1 (hb.2.1 _ _) (Nat.le_of_ble_eq_true rfl) rfl ?_
  refine G_ldc2 (v := (-1)) K dX2_settle_4 wd_500 ?_
  obtain ⟨r1, e1, h⟩ := wpO_bind h
  refine G_callVv (ci := 7) [.long ((-1))] [] K dX2_settle_7 wv_501 yd_X7_setAll hb.2.2.2.2.2.2.2.1 (hb.2.2.2.2.2.2.2.2.2.1 _ _) rfl (by decide) (by decide) rfl rfl (Nat.le_of_ble_eq_true rfl) (K_Row_setAll l g htr ((b + 11)) ((b + 12)) 9 hb.2.2.2.2.2.2.2 ((-1)) M _ e1) ?_
  refine G_iconst (v := 0) rfl K dX2_settle_10 ?_
  refine G_istore_n rfl K dX2_settle_11 (Nat.le_of_ble_eq_true rfl) rfl ?_
  refine G_iload_n rfl 2 rfl K dX2_settle_12 ?_
  refine G_istore_n rfl K dX2_settle_13 (Nat.le_of_ble_eq_true rfl) rfl ?_
  exact G_lv (lv' := [(0, .ref (g.2.1 b)), (2, .int 0), (3, .int x1)]) [2, 1, 0] rfl (J14 0 x1 r1 h)
theorem yd_X2_settle : ydN yX2_settle 1 := ⟨by decide, by decide, by decide +kernel⟩
theorem wv_531 : wdV "KeptWell$Chain" 58 yX2_settle cX2_settle 6 none := ⟨wd_531, wd_533, ws_X2_settle, wd_7, wd_534⟩
def on_X2_reckon : Nat := 0xb1d2ffa70105843a00b605152a09009a94093600b605151a00b42a170099942c00143600b605151000b42a2d00a2091005150536032e00b6091a00b42a2900b5212a2300b51f2a
theorem ob_X2_reckon : OKB cX2_reckon on_X2_reckon 71 := ⟨by decide +kernel, by decide +kernel⟩
theorem dX2_reckon_0 : dc cX2_reckon 0 1 (.aload_n 0) 1 := o_42 ob_X2_reckon rfl rfl rfl
theorem dX2_reckon_1 : dc cX2_reckon 1 2 (.lload_n 1) 1 := o_31 ob_X2_reckon rfl rfl rfl
theorem dX2_reckon_2 : dc cX2_reckon 2 5 (.putfield 35) 3 := o_181 ob_X2_reckon rfl rfl rfl rfl
theorem dX2_reckon_5 : dc cX2_reckon 5 6 (.aload_n 0) 1 := o_42 ob_X2_reckon rfl rfl rfl
theorem dX2_reckon_6 : dc cX2_reckon 6 7 (.lload_n 3) 1 := o_33 ob_X2_reckon rfl rfl rfl
theorem dX2_reckon_7 : dc cX2_reckon 7 10 (.putfield 41) 3 := o_181 ob_X2_reckon rfl rfl rfl rfl
theorem dX2_reckon_10 : dc cX2_reckon 10 11 (.aload_n 0) 1 := o_42 ob_X2_reckon rfl rfl rfl
theorem dX2_reckon_11 : dc cX2_reckon 11 14 (.getfield 26) 3 := o_180 ob_X2_reckon rfl rfl rfl rfl
theorem dX2_reckon_14 : dc cX2_reckon 14 15 (.lconst 0) 1 := o_9 ob_X2_reckon rfl rfl rfl
theorem dX2_reckon_15 : dc cX2_reckon 15 18 (.invokevirtual 46) 3 := o_182 ob_X2_reckon rfl rfl rfl rfl
theorem dX2_reckon_18 : dc cX2_reckon 18 19 (.iconst 0) 1 := o_3 ob_X2_reckon rfl rfl rfl
theorem dX2_reckon_19 : dc cX2_reckon 19 21 (.istore 5) 2 := o_54 ob_X2_reckon rfl rfl rfl rfl
theorem dX2_reckon_21 : dc cX2_reckon 21 23 (.iload 5) 2 := o_21 ob_X2_reckon rfl rfl rfl rfl
theorem dX2_reckon_23 : dc cX2_reckon 23 25 (.bipush 9) 2 := o_16 ob_X2_reckon rfl rfl rfl rfl
theorem dX2_reckon_25 : dc cX2_reckon 25 28 (.if_icmp .ge 45) 3 := o_162 ob_X2_reckon rfl rfl rfl rfl
theorem dX2_reckon_28 : dc cX2_reckon 28 29 (.aload_n 0) 1 := o_42 ob_X2_reckon rfl rfl rfl
theorem dX2_reckon_29 : dc cX2_reckon 29 32 (.getfield 16) 3 := o_180 ob_X2_reckon rfl rfl rfl rfl
theorem dX2_reckon_32 : dc cX2_reckon 32 34 (.iload 5) 2 := o_21 ob_X2_reckon rfl rfl rfl rfl
theorem dX2_reckon_34 : dc cX2_reckon 34 37 (.invokevirtual 54) 3 := o_182 ob_X2_reckon rfl rfl rfl rfl
theorem dX2_reckon_37 : dc cX2_reckon 37 40 (.ldc2_w 44) 3 := o_20 ob_X2_reckon rfl rfl rfl rfl
theorem dX2_reckon_40 : dc cX2_reckon 40 41 .lcmp 1 := o_148 ob_X2_reckon rfl rfl rfl
theorem dX2_reckon_41 : dc cX2_reckon 41 44 (.ifCond .eq 23) 3 := o_153 ob_X2_reckon rfl rfl rfl rfl
theorem dX2_reckon_44 : dc cX2_reckon 44 45 (.aload_n 0) 1 := o_42 ob_X2_reckon rfl rfl rfl
theorem dX2_reckon_45 : dc cX2_reckon 45 48 (.getfield 26) 3 := o_180 ob_X2_reckon rfl rfl rfl rfl
theorem dX2_reckon_48 : dc cX2_reckon 48 50 (.iload 5) 2 := o_21 ob_X2_reckon rfl rfl rfl rfl
theorem dX2_reckon_50 : dc cX2_reckon 50 53 (.invokevirtual 54) 3 := o_182 ob_X2_reckon rfl rfl rfl rfl
theorem dX2_reckon_53 : dc cX2_reckon 53 54 (.lconst 0) 1 := o_9 ob_X2_reckon rfl rfl rfl
theorem dX2_reckon_54 : dc cX2_reckon 54 55 .lcmp 1 := o_148 ob_X2_reckon rfl rfl rfl
theorem dX2_reckon_55 : dc cX2_reckon 55 58 (.ifCond .ne 9) 3 := o_154 ob_X2_reckon rfl rfl rfl rfl
theorem dX2_reckon_58 : dc cX2_reckon 58 59 (.aload_n 0) 1 := o_42 ob_X2_reckon rfl rfl rfl
theorem dX2_reckon_59 : dc cX2_reckon 59 61 (.iload 5) 2 := o_21 ob_X2_reckon rfl rfl rfl rfl
theorem dX2_reckon_61 : dc cX2_reckon 61 64 (.invokevirtual 58) 3 := o_182 ob_X2_reckon rfl rfl rfl rfl
theorem dX2_reckon_64 : dc cX2_reckon 64 67 (.iinc 5 1) 3 := o_132 ob_X2_reckon rfl rfl rfl rfl rfl
theorem dX2_reckon_67 : dc cX2_reckon 67 70 (.goto (-46)) 3 := o_167 ob_X2_reckon rfl rfl rfl rfl
theorem dX2_reckon_70 : dc cX2_reckon 70 71 .return_ 1 := o_177 ob_X2_reckon rfl rfl rfl
def F_Chain_reckon_b21 (b : Nat) (z : Int32 × Mem) : Option ((Int32 × Mem) ⊕ ((Mem))) :=
  if 9 ≤ z.1 then some (.inr z.2) else (F_Row_at ((b + 2)) 9 z.1 z.2).bind fun r2 => if r2 = ((-1)) then some (.inl ((z.1 + 1, z.2))) else (F_Row_at ((b + 8)) 9 z.1 z.2).bind fun r3 => if r3 = 0 then (F_Chain_settle b z.1 z.2).bind fun r4 => some (.inl ((z.1 + 1, r4))) else some (.inl ((z.1 + 1, z.2)))
def F_Chain_reckon_l21 (b : Nat) (x5 : Int32) (M : Mem) : Option (Mem) :=
  (iter (F_Chain_reckon_b21 b) FUEL (x5, M)).bind fun r => some r
def F_Chain_reckon (b : Nat) (x1 : Int64) (x3 : Int64) (M : Mem) : Option (Mem) :=
  (F_Row_setAll ((b + 8)) 9 0 (mSL (mSL M b 6 x1) b 7 x3)).bind fun r1 => F_Chain_reckon_l21 b 0 r1
set_option maxRecDepth 100000 in
set_option maxHeartbeats 4000000 in
theorem K_Chain_reckon (l : Launch) (g : GB) (htr : l.stackTraces = false) (b : Nat) (hb : isChain b) (x1 : Int64) (x3 : Int64) (M : Mem) (MZ : Mem) (h : F_Chain_reckon b x1 x3 M = some MZ) : CT l g yX2_reckon (.code yX2_reckon cX2_reckon 6 none :: wAll) { frames := 3, cells := 0, slots := 0, locals := 85 } [.ref (g.2.1 b), .long x1, .long x3] M (.inl none) MZ := by
  refine CT.of [(0, .ref (g.2.1 b)), (1, .long x1), (3, .long x3)] (by decide +kernel) (Nat.le_of_ble_eq_true rfl) rfl htr ?_
  intro p e s m args below meth c K hr ht
  skip
  obtain ⟨PHI, hPHI, h⟩ : ∃ PHI : Mem → Prop, (∀ a, PHI a → a = MZ) ∧ wpO (F_Chain_reckon b x1 x3 M) PHI := ⟨fun a => a = MZ, fun _ h => h, _, h, rfl⟩
  have J21 : ∀ (x5 : Int32) (M : Mem), wpO (F_Chain_reckon_l21 b x5 M) PHI → GG p l e { frames := 3, cells := 0, slots := 0, locals := 85 } s m args below meth c g 6 (vx_MQ below (Qn g s.heap.size (.inl none) MZ) (QX g s.heap.size (.inl none) MZ) args s 0 0 (AS g s.heap.size)) 0 0 21 [(0, .ref (g.2.1 b)), (5, .int x5)] [] M := by
    intro x5 M h
    unfold F_Chain_reckon_l21 at h
    refine loop_C2 (G := fun (x5 : Int32) (M : Mem) => GG p l e { frames := 3, cells := 0, slots := 0, locals := 85 } s m args below meth c g 6 (vx_MQ below (Qn g s.heap.size (.inl none) MZ) (QX g s.heap.size (.inl none) MZ) args s 0 0 (AS g s.heap.size)) 0 0 21 [(0, .ref (g.2.1 b)), (5, .int x5)] [] M) (body := F_Chain_reckon_b21 b) ?_ FUEL _ _ (wpO_bind h)
    intro P21 E21 X21
    intro z h
    unfold F_Chain_reckon_b21 at h
    refine G_iload 1 rfl K dX2_reckon_21 ?_
    refine G_bipush (v := 9) rfl K dX2_reckon_23 ?_
    refine G_icmp_ge (tgt := 70) K dX2_reckon_25 (by decide) (fun hc => ?_) (fun hc => ?_)
    · have h := wpO_t h hc
      have h := X21 _ (wpO_some h)
      try dsimp only at h
      cases hPHI _ (wpO_some h)
      exact G_vret K hr dX2_reckon_70 (Nat.le_of_ble_eq_true rfl) (Nat.le_of_ble_eq_true rfl) ⟨rfl, rfl⟩
    · have h := wpO_f h hc
      refine G_aload_n rfl 0 rfl K dX2_reckon_28 ?_
      refine G_get (ci := 2) (k := 0) K rfl in_X2 wd_190 rfl dX2_reckon_29 hb.1 (hb.2.1 _ _) (Nat.le_of_ble_eq_true rfl) rfl ?_
      refine G_iload 1 rfl K dX2_reckon_32 ?_
      obtain ⟨r2, e2, h⟩ := wpO_bind h
      refine G_callVl (ci := 7) [.int z.1] [] K dX2_reckon_34 wv_527 yd_X7_at hb.2.2.1.1 (hb.2.2.1.2.2.1 _ _) rfl (by decide) (by decide) rfl rfl (Nat.le_of_ble_eq_true rfl) (K_Row_at l g htr ((b + 1)) ((b + 2)) 9 hb.2.2.1 z.1 z.2 _ e2) ?_
      refine G_ldc2 (v := (-1)) K dX2_reckon_37 wd_500 ?_
      refine G_lcmp_eq (tgt := 64) K dX2_reckon_40 dX2_reckon_41 (by decide) (fun hc => ?_) (fun hc => ?_)
      · have h := wpO_t h hc
        refine G_iinc (v := z.1 + 1) 1 rfl K dX2_reckon_64 rfl (Nat.le_of_ble_eq_true rfl) rfl ?_
        refine G_goto (tgt := 21) K dX2_reckon_67 (by decide) ?_
        exact G_lv (lv' := [(0, .ref (g.2.1 b)), (5, .int (z.1 + 1))]) [1, 0] rfl (E21 (z.1 + 1) z.2 (wpO_some h))
      · have h := wpO_f h hc
        refine G_aload_n rfl 0 rfl K dX2_reckon_44 ?_
        refine G_get (ci := 2) (k := 3) K rfl in_X2 wd_195 rfl dX2_reckon_45 hb.1 (hb.2.1 _ _) (Nat.le_of_ble_eq_true rfl) rfl ?_
        refine G_iload 1 rfl K dX2_reckon_48 ?_
        obtain ⟨r3, e3, h⟩ := wpO_bind h
        refine G_callVl (ci := 7) [.int z.1] [] K dX2_reckon_50 wv_527 yd_X7_at hb.2.2.2.2.2.1.1 (hb.2.2.2.2.2.1.2.2.1 _ _) rfl (by decide) (by decide) rfl rfl (Nat.le_of_ble_eq_true rfl) (K_Row_at l g htr ((b + 7)) ((b + 8)) 9 hb.2.2.2.2.2.1 z.1 z.2 _ e3) ?_
        refine G_lconst (v := 0) rfl K dX2_reckon_53 ?_
        refine G_lcmp_ne (tgt := 64) K dX2_reckon_54 dX2_reckon_55 (by decide) (fun hc => ?_) (fun hc => ?_)
        · have h := wpO_f h hc
          refine G_iinc (v := z.1 + 1) 1 rfl K dX2_reckon_64 rfl (Nat.le_of_ble_eq_true rfl) rfl ?_
          refine G_goto (tgt := 21) K dX2_reckon_67 (by decide) ?_
          exact G_lv (lv' := [(0, .ref (g.2.1 b)), (5, .int (z.1 + 1))]) [1, 0] rfl (E21 (z.1 + 1) z.2 (wpO_some h))
        · have h := wpO_t h hc
          refine G_aload_n rfl 0 rfl K dX2_reckon_58 ?_
          refine G_iload 1 rfl K dX2_reckon_59 ?_
          obtain ⟨r4, e4, h⟩ := wpO_bind h
          refine G_callVv (ci := 2) [.int z.1] [] K dX2_reckon_61 wv_531 yd_X2_settle hb.1 (hb.2.1 _ _) rfl (by decide) (by decide) rfl rfl (Nat.le_of_ble_eq_true rfl) (K_Chain_settle l g htr b hb z.1 z.2 _ e4) ?_
          refine G_iinc (v := z.1 + 1) 1 rfl K dX2_reckon_64 rfl (Nat.le_of_ble_eq_true rfl) rfl ?_
          refine G_goto (tgt := 21) K dX2_reckon_67 (by decide) ?_
          exact G_lv (lv' := [(0, .ref (g.2.1 b)), (5, .int (z.1 + 1))]) [1, 0] rfl (E21 (z.1 + 1) r4 (wpO_some h))
  unfold F_Chain_reckon at h
  refine G_aload_n rfl 0 rfl K dX2_reckon_0 ?_
  refine G_lload_n rfl 1 rfl K dX2_reckon_1 ?_
  refine G_putL (ci := 2) (k := 6) (ty := .long) K rfl in_X2 tyX2 tyX2_ok nmX2 wd_199 rfl rfl rfl rfl rfl dX2_reckon_2 hb.1 (hb.2.1 _ _) (hb.2.1 _ _) (Nat.le_of_ble_eq_true rfl) (Nat.le_of_ble_eq_true rfl) (put_2_6 g _ _ _) ?_
  refine G_aload_n rfl 0 rfl K dX2_reckon_5 ?_
  refine G_lload_n rfl 2 rfl K dX2_reckon_6 ?_
  refine G_putL (ci := 2) (k := 7) (ty := .long) K rfl in_X2 tyX2 tyX2_ok nmX2 wd_200 rfl rfl rfl rfl rfl dX2_reckon_7 hb.1 (hb.2.1 _ _) (hb.2.1 _ _) (Nat.le_of_ble_eq_true rfl) (Nat.le_of_ble_eq_true rfl) (put_2_7 g _ _ _) ?_
  refine G_aload_n rfl 0 rfl K dX2_reckon_10 ?_
  refine G_get (ci := 2) (k := 3) K rfl in_X2 wd_195 rfl dX2_reckon_11 hb.1 (hb.2.1 _ _) (Nat.le_of_ble_eq_true rfl) rfl ?_
  refine G_lconst (v := 0) rfl K dX2_reckon_14 ?_
  obtain ⟨r1, e1, h⟩ := wpO_bind h
  refine G_callVv (ci := 7) [.long 0] [] K dX2_reckon_15 wv_501 yd_X7_setAll hb.2.2.2.2.2.1.1 (hb.2.2.2.2.2.1.2.2.1 _ _) rfl (by decide) (by decide) rfl rfl (Nat.le_of_ble_eq_true rfl) (K_Row_setAll l g htr ((b + 7)) ((b + 8)) 9 hb.2.2.2.2.2.1 0 (mSL (mSL M b 6 x1) b 7 x3) _ e1) ?_
  refine G_iconst (v := 0) rfl K dX2_reckon_18 ?_
  refine G_istore K dX2_reckon_19 (Nat.le_of_ble_eq_true rfl) rfl ?_
  exact G_lv (lv' := [(0, .ref (g.2.1 b)), (5, .int 0)]) [1, 0] rfl (J21 0 r1 h)
theorem yd_X5_be : ydN yX5_be 2 := ⟨by decide, by decide, by decide +kernel⟩
theorem wv_969 : wdV "KeptWell$Chain" 72 yX5_be cX5_be 7 none := ⟨wd_969, wd_970, wd_971, wd_13, wd_972⟩
def on_X2_tellWorth : Nat := 0xb14800b63600b61b1a00b42a3600b6601c681b051700b42a2d
theorem ob_X2_tellWorth : OKB cX2_tellWorth on_X2_tellWorth 25 := ⟨by decide +kernel, by decide +kernel⟩
theorem dX2_tellWorth_0 : dc cX2_tellWorth 0 1 (.aload_n 3) 1 := o_45 ob_X2_tellWorth rfl rfl rfl
theorem dX2_tellWorth_1 : dc cX2_tellWorth 1 2 (.aload_n 0) 1 := o_42 ob_X2_tellWorth rfl rfl rfl
theorem dX2_tellWorth_2 : dc cX2_tellWorth 2 5 (.getfield 23) 3 := o_180 ob_X2_tellWorth rfl rfl rfl rfl
theorem dX2_tellWorth_5 : dc cX2_tellWorth 5 6 (.iconst 2) 1 := o_5 ob_X2_tellWorth rfl rfl rfl
theorem dX2_tellWorth_6 : dc cX2_tellWorth 6 7 (.iload_n 1) 1 := o_27 ob_X2_tellWorth rfl rfl rfl
theorem dX2_tellWorth_7 : dc cX2_tellWorth 7 8 .imul 1 := o_104 ob_X2_tellWorth rfl rfl rfl
theorem dX2_tellWorth_8 : dc cX2_tellWorth 8 9 (.iload_n 2) 1 := o_28 ob_X2_tellWorth rfl rfl rfl
theorem dX2_tellWorth_9 : dc cX2_tellWorth 9 10 .iadd 1 := o_96 ob_X2_tellWorth rfl rfl rfl
theorem dX2_tellWorth_10 : dc cX2_tellWorth 10 13 (.invokevirtual 54) 3 := o_182 ob_X2_tellWorth rfl rfl rfl rfl
theorem dX2_tellWorth_13 : dc cX2_tellWorth 13 14 (.aload_n 0) 1 := o_42 ob_X2_tellWorth rfl rfl rfl
theorem dX2_tellWorth_14 : dc cX2_tellWorth 14 17 (.getfield 26) 3 := o_180 ob_X2_tellWorth rfl rfl rfl rfl
theorem dX2_tellWorth_17 : dc cX2_tellWorth 17 18 (.iload_n 1) 1 := o_27 ob_X2_tellWorth rfl rfl rfl
theorem dX2_tellWorth_18 : dc cX2_tellWorth 18 21 (.invokevirtual 54) 3 := o_182 ob_X2_tellWorth rfl rfl rfl rfl
theorem dX2_tellWorth_21 : dc cX2_tellWorth 21 24 (.invokevirtual 72) 3 := o_182 ob_X2_tellWorth rfl rfl rfl rfl
theorem dX2_tellWorth_24 : dc cX2_tellWorth 24 25 .return_ 1 := o_177 ob_X2_tellWorth rfl rfl rfl
def F_Chain_tellWorth (b : Nat) (o3 : Nat) (x1 : Int32) (x2 : Int32) (M : Mem) : Option (Mem) :=
  (F_Row_at ((b + 6)) 18 ((2 * x1) + x2) M).bind fun r1 => (F_Row_at ((b + 8)) 9 x1 M).bind fun r2 => (F_Fraction_be o3 r1 r2 M).bind fun r3 => some r3
set_option maxRecDepth 100000 in
set_option maxHeartbeats 4000000 in
theorem K_Chain_tellWorth (l : Launch) (g : GB) (htr : l.stackTraces = false) (b : Nat) (o3 : Nat) (hb : isChain b) (ho3 : isFrac o3) (x1 : Int32) (x2 : Int32) (M : Mem) (MZ : Mem) (h : F_Chain_tellWorth b o3 x1 x2 M = some MZ) : CT l g yX2_tellWorth (.code yX2_tellWorth cX2_tellWorth 4 none :: wAll) { frames := 3, cells := 0, slots := 0, locals := 77 } [.ref (g.2.1 b), .int x1, .int x2, .ref (g.2.1 o3)] M (.inl none) MZ := by
  refine CT.of [(0, .ref (g.2.1 b)), (1, .int x1), (2, .int x2), (3, .ref (g.2.1 o3))] (by decide +kernel) (Nat.le_of_ble_eq_true rfl) rfl htr ?_
  intro p e s m args below meth c K hr ht
  skip
  obtain ⟨PHI, hPHI, h⟩ : ∃ PHI : Mem → Prop, (∀ a, PHI a → a = MZ) ∧ wpO (F_Chain_tellWorth b o3 x1 x2 M) PHI := ⟨fun a => a = MZ, fun _ h => h, _, h, rfl⟩
  unfold F_Chain_tellWorth at h
  refine G_aload_n rfl 3 rfl K dX2_tellWorth_0 ?_
  refine G_aload_n rfl 0 rfl K dX2_tellWorth_1 ?_
  refine G_get (ci := 2) (k := 2) K rfl in_X2 wd_193 rfl dX2_tellWorth_2 hb.1 (hb.2.1 _ _) (Nat.le_of_ble_eq_true rfl) rfl ?_
  refine G_iconst (v := 2) rfl K dX2_tellWorth_5 ?_
  refine G_iload_n rfl 1 rfl K dX2_tellWorth_6 ?_
  refine G_imul K dX2_tellWorth_7 ?_
  refine G_iload_n rfl 2 rfl K dX2_tellWorth_8 ?_
  refine G_iadd K dX2_tellWorth_9 ?_
  obtain ⟨r1, e1, h⟩ := wpO_bind h
  refine G_callVl (ci := 7) [.int ((2 * x1) + x2)] [.ref (g.2.1 o3)] K dX2_tellWorth_10 wv_527 yd_X7_at hb.2.2.2.2.1.1 (hb.2.2.2.2.1.2.2.1 _ _) rfl (by decide) (by decide) rfl rfl (Nat.le_of_ble_eq_true rfl) (K_Row_at l g htr ((b + 5)) ((b + 6)) 18 hb.2.2.2.2.1 ((2 * x1) + x2) M _ e1) ?_
  refine G_aload_n rfl 0 rfl K dX2_tellWorth_13 ?_
  refine G_get (ci := 2) (k := 3) K rfl in_X2 wd_195 rfl dX2_tellWorth_14 hb.1 (hb.2.1 _ _) (Nat.le_of_ble_eq_true rfl) rfl ?_
  refine G_iload_n rfl 1 rfl K dX2_tellWorth_17 ?_
  obtain ⟨r2, e2, h⟩ := wpO_bind h
  refine G_callVl (ci := 7) [.int x1] [.long r1, .ref (g.2.1 o3)] K dX2_tellWorth_18 wv_527 yd_X7_at hb.2.2.2.2.2.1.1 (hb.2.2.2.2.2.1.2.2.1 _ _) rfl (by decide) (by decide) rfl rfl (Nat.le_of_ble_eq_true rfl) (K_Row_at l g htr ((b + 7)) ((b + 8)) 9 hb.2.2.2.2.2.1 x1 M _ e2) ?_
  obtain ⟨r3, e3, h⟩ := wpO_bind h
  refine G_callVv (ci := 5) [.long r1, .long r2] [] K dX2_tellWorth_21 wv_969 yd_X5_be ho3.1 (ho3.2 _ _) rfl (by decide) (by decide) rfl rfl (Nat.le_of_ble_eq_true rfl) (K_Fraction_be l g htr o3 ho3 r1 r2 M _ e3) ?_
  cases hPHI _ (wpO_some h)
  exact G_vret K hr dX2_tellWorth_24 (Nat.le_of_ble_eq_true rfl) (Nat.le_of_ble_eq_true rfl) ⟨rfl, rfl⟩
theorem yd_X5_order : ydN yX5_order 4 := ⟨by decide, by decide, by decide +kernel⟩
theorem wv_556 : wdS "KeptWell$Chain" 78 yX5_order cX5_order 26 (some .int) := ⟨wd_556, wd_557, wd_13, wd_558⟩
def on_X2_orderOf : Nat := 0xac4e00b83600b604151a00b42a3600b6601d680415051700b42a05160716073761693600b6601d681c051700b42a2300b42a690516851b0537693600b61c1a00b42a2900b42a
theorem ob_X2_orderOf : OKB cX2_orderOf on_X2_orderOf 70 := ⟨by decide +kernel, by decide +kernel⟩
theorem dX2_orderOf_0 : dc cX2_orderOf 0 1 (.aload_n 0) 1 := o_42 ob_X2_orderOf rfl rfl rfl
theorem dX2_orderOf_1 : dc cX2_orderOf 1 4 (.getfield 41) 3 := o_180 ob_X2_orderOf rfl rfl rfl rfl
theorem dX2_orderOf_4 : dc cX2_orderOf 4 5 (.aload_n 0) 1 := o_42 ob_X2_orderOf rfl rfl rfl
theorem dX2_orderOf_5 : dc cX2_orderOf 5 8 (.getfield 26) 3 := o_180 ob_X2_orderOf rfl rfl rfl rfl
theorem dX2_orderOf_8 : dc cX2_orderOf 8 9 (.iload_n 2) 1 := o_28 ob_X2_orderOf rfl rfl rfl
theorem dX2_orderOf_9 : dc cX2_orderOf 9 12 (.invokevirtual 54) 3 := o_182 ob_X2_orderOf rfl rfl rfl rfl
theorem dX2_orderOf_12 : dc cX2_orderOf 12 13 .lmul 1 := o_105 ob_X2_orderOf rfl rfl rfl
theorem dX2_orderOf_13 : dc cX2_orderOf 13 15 (.lstore 5) 2 := o_55 ob_X2_orderOf rfl rfl rfl rfl
theorem dX2_orderOf_15 : dc cX2_orderOf 15 16 (.iload_n 1) 1 := o_27 ob_X2_orderOf rfl rfl rfl
theorem dX2_orderOf_16 : dc cX2_orderOf 16 17 .i2l 1 := o_133 ob_X2_orderOf rfl rfl rfl
theorem dX2_orderOf_17 : dc cX2_orderOf 17 19 (.lload 5) 2 := o_22 ob_X2_orderOf rfl rfl rfl rfl
theorem dX2_orderOf_19 : dc cX2_orderOf 19 20 .lmul 1 := o_105 ob_X2_orderOf rfl rfl rfl
theorem dX2_orderOf_20 : dc cX2_orderOf 20 21 (.aload_n 0) 1 := o_42 ob_X2_orderOf rfl rfl rfl
theorem dX2_orderOf_21 : dc cX2_orderOf 21 24 (.getfield 35) 3 := o_180 ob_X2_orderOf rfl rfl rfl rfl
theorem dX2_orderOf_24 : dc cX2_orderOf 24 25 (.aload_n 0) 1 := o_42 ob_X2_orderOf rfl rfl rfl
theorem dX2_orderOf_25 : dc cX2_orderOf 25 28 (.getfield 23) 3 := o_180 ob_X2_orderOf rfl rfl rfl rfl
theorem dX2_orderOf_28 : dc cX2_orderOf 28 29 (.iconst 2) 1 := o_5 ob_X2_orderOf rfl rfl rfl
theorem dX2_orderOf_29 : dc cX2_orderOf 29 30 (.iload_n 2) 1 := o_28 ob_X2_orderOf rfl rfl rfl
theorem dX2_orderOf_30 : dc cX2_orderOf 30 31 .imul 1 := o_104 ob_X2_orderOf rfl rfl rfl
theorem dX2_orderOf_31 : dc cX2_orderOf 31 32 (.iload_n 3) 1 := o_29 ob_X2_orderOf rfl rfl rfl
theorem dX2_orderOf_32 : dc cX2_orderOf 32 33 .iadd 1 := o_96 ob_X2_orderOf rfl rfl rfl
theorem dX2_orderOf_33 : dc cX2_orderOf 33 36 (.invokevirtual 54) 3 := o_182 ob_X2_orderOf rfl rfl rfl rfl
theorem dX2_orderOf_36 : dc cX2_orderOf 36 37 .lmul 1 := o_105 ob_X2_orderOf rfl rfl rfl
theorem dX2_orderOf_37 : dc cX2_orderOf 37 38 .ladd 1 := o_97 ob_X2_orderOf rfl rfl rfl
theorem dX2_orderOf_38 : dc cX2_orderOf 38 40 (.lstore 7) 2 := o_55 ob_X2_orderOf rfl rfl rfl rfl
theorem dX2_orderOf_40 : dc cX2_orderOf 40 42 (.lload 7) 2 := o_22 ob_X2_orderOf rfl rfl rfl rfl
theorem dX2_orderOf_42 : dc cX2_orderOf 42 44 (.lload 5) 2 := o_22 ob_X2_orderOf rfl rfl rfl rfl
theorem dX2_orderOf_44 : dc cX2_orderOf 44 45 (.aload_n 0) 1 := o_42 ob_X2_orderOf rfl rfl rfl
theorem dX2_orderOf_45 : dc cX2_orderOf 45 48 (.getfield 23) 3 := o_180 ob_X2_orderOf rfl rfl rfl rfl
theorem dX2_orderOf_48 : dc cX2_orderOf 48 49 (.iconst 2) 1 := o_5 ob_X2_orderOf rfl rfl rfl
theorem dX2_orderOf_49 : dc cX2_orderOf 49 51 (.iload 4) 2 := o_21 ob_X2_orderOf rfl rfl rfl rfl
theorem dX2_orderOf_51 : dc cX2_orderOf 51 52 .imul 1 := o_104 ob_X2_orderOf rfl rfl rfl
theorem dX2_orderOf_52 : dc cX2_orderOf 52 53 (.iload_n 3) 1 := o_29 ob_X2_orderOf rfl rfl rfl
theorem dX2_orderOf_53 : dc cX2_orderOf 53 54 .iadd 1 := o_96 ob_X2_orderOf rfl rfl rfl
theorem dX2_orderOf_54 : dc cX2_orderOf 54 57 (.invokevirtual 54) 3 := o_182 ob_X2_orderOf rfl rfl rfl rfl
theorem dX2_orderOf_57 : dc cX2_orderOf 57 58 (.aload_n 0) 1 := o_42 ob_X2_orderOf rfl rfl rfl
theorem dX2_orderOf_58 : dc cX2_orderOf 58 61 (.getfield 26) 3 := o_180 ob_X2_orderOf rfl rfl rfl rfl
theorem dX2_orderOf_61 : dc cX2_orderOf 61 63 (.iload 4) 2 := o_21 ob_X2_orderOf rfl rfl rfl rfl
theorem dX2_orderOf_63 : dc cX2_orderOf 63 66 (.invokevirtual 54) 3 := o_182 ob_X2_orderOf rfl rfl rfl rfl
theorem dX2_orderOf_66 : dc cX2_orderOf 66 69 (.invokestatic 78) 3 := o_184 ob_X2_orderOf rfl rfl rfl rfl
theorem dX2_orderOf_69 : dc cX2_orderOf 69 70 .ireturn 1 := o_172 ob_X2_orderOf rfl rfl rfl
def F_Chain_orderOf (b : Nat) (x1 : Int32) (x2 : Int32) (x3 : Int32) (x4 : Int32) (M : Mem) : Option (Int32) :=
  (F_Row_at ((b + 8)) 9 x2 M).bind fun r1 => (F_Row_at ((b + 6)) 18 ((2 * x2) + x3) M).bind fun r2 => (F_Row_at ((b + 6)) 18 ((2 * x4) + x3) M).bind fun r3 => (F_Row_at ((b + 8)) 9 x4 M).bind fun r4 => (F_Fraction_order ((x1.toInt64 * ((M.2 b 7) * r1)) + ((M.2 b 6) * r2)) ((M.2 b 7) * r1) r3 r4 M).bind fun r5 => some r5
set_option maxRecDepth 100000 in
set_option maxHeartbeats 4000000 in
theorem K_Chain_orderOf (l : Launch) (g : GB) (htr : l.stackTraces = false) (b : Nat) (hb : isChain b) (x1 : Int32) (x2 : Int32) (x3 : Int32) (x4 : Int32) (M : Mem) (rr : Int32) (h : F_Chain_orderOf b x1 x2 x3 x4 M = some rr) : CT l g yX2_orderOf (.code yX2_orderOf cX2_orderOf 9 (some .int) :: wAll) { frames := 2, cells := 0, slots := 0, locals := 70 } [.ref (g.2.1 b), .int x1, .int x2, .int x3, .int x4] M (.inl (some (.int rr))) M := by
  refine CT.of [(0, .ref (g.2.1 b)), (1, .int x1), (2, .int x2), (3, .int x3), (4, .int x4)] (by decide +kernel) (Nat.le_of_ble_eq_true rfl) rfl htr ?_
  intro p e s m args below meth c K hr ht
  skip
  obtain ⟨PHI, hPHI, h⟩ : ∃ PHI : Int32 → Prop, (∀ a, PHI a → a = rr) ∧ wpO (F_Chain_orderOf b x1 x2 x3 x4 M) PHI := ⟨fun a => a = rr, fun _ h => h, _, h, rfl⟩
  unfold F_Chain_orderOf at h
  refine G_aload_n rfl 0 rfl K dX2_orderOf_0 ?_
  refine G_get (ci := 2) (k := 7) K rfl in_X2 wd_200 rfl dX2_orderOf_1 hb.1 (hb.2.1 _ _) (Nat.le_of_ble_eq_true rfl) rfl ?_
  refine G_aload_n rfl 0 rfl K dX2_orderOf_4 ?_
  refine G_get (ci := 2) (k := 3) K rfl in_X2 wd_195 rfl dX2_orderOf_5 hb.1 (hb.2.1 _ _) (Nat.le_of_ble_eq_true rfl) rfl ?_
  refine G_iload_n rfl 2 rfl K dX2_orderOf_8 ?_
  obtain ⟨r1, e1, h⟩ := wpO_bind h
  refine G_callVl (ci := 7) [.int x2] [.long (M.2 b 7)] K dX2_orderOf_9 wv_527 yd_X7_at hb.2.2.2.2.2.1.1 (hb.2.2.2.2.2.1.2.2.1 _ _) rfl (by decide) (by decide) rfl rfl (Nat.le_of_ble_eq_true rfl) (K_Row_at l g htr ((b + 7)) ((b + 8)) 9 hb.2.2.2.2.2.1 x2 M _ e1) ?_
  refine G_lmul K dX2_orderOf_12 ?_
  refine G_lstore K dX2_orderOf_13 (Nat.le_of_ble_eq_true rfl) rfl ?_
  refine G_iload_n rfl 2 rfl K dX2_orderOf_15 ?_
  refine G_i2l K dX2_orderOf_16 ?_
  refine G_lload 0 rfl K dX2_orderOf_17 ?_
  refine G_lmul K dX2_orderOf_19 ?_
  refine G_aload_n rfl 1 rfl K dX2_orderOf_20 ?_
  refine G_get (ci := 2) (k := 6) K rfl in_X2 wd_199 rfl dX2_orderOf_21 hb.1 (hb.2.1 _ _) (Nat.le_of_ble_eq_true rfl) rfl ?_
  refine G_aload_n rfl 1 rfl K dX2_orderOf_24 ?_
  refine G_get (ci := 2) (k := 2) K rfl in_X2 wd_193 rfl dX2_orderOf_25 hb.1 (hb.2.1 _ _) (Nat.le_of_ble_eq_true rfl) rfl ?_
  refine G_iconst (v := 2) rfl K dX2_orderOf_28 ?_
  refine G_iload_n rfl 3 rfl K dX2_orderOf_29 ?_
  refine G_imul K dX2_orderOf_30 ?_
  refine G_iload_n rfl 4 rfl K dX2_orderOf_31 ?_
  refine G_iadd K dX2_orderOf_32 ?_
  obtain ⟨r2, e2, h⟩ := wpO_bind h
  refine G_callVl (ci := 7) [.int ((2 * x2) + x3)] [.long (M.2 b 6), .long (x1.toInt64 * ((M.2 b 7) * r1))] K dX2_orderOf_33 wv_527 yd_X7_at hb.2.2.2.2.1.1 (hb.2.2.2.2.1.2.2.1 _ _) rfl (by decide) (by decide) rfl rfl (Nat.le_of_ble_eq_true rfl) (K_Row_at l g htr ((b + 5)) ((b + 6)) 18 hb.2.2.2.2.1 ((2 * x2) + x3) M _ e2) ?_
  refine G_lmul K dX2_orderOf_36 ?_
  refine G_ladd K dX2_orderOf_37 ?_
  refine G_lstore K dX2_orderOf_38 (Nat.le_of_ble_eq_true rfl) rfl ?_
  refine G_lload 0 rfl K dX2_orderOf_40 ?_
  refine G_lload 1 rfl K dX2_orderOf_42 ?_
  refine G_aload_n rfl 2 rfl K dX2_orderOf_44 ?_
  refine G_get (ci := 2) (k := 2) K rfl in_X2 wd_193 rfl dX2_orderOf_45 hb.1 (hb.2.1 _ _) (Nat.le_of_ble_eq_true rfl) rfl ?_
  refine G_iconst (v := 2) rfl K dX2_orderOf_48 ?_
  refine G_iload 6 rfl K dX2_orderOf_49 ?_
  refine G_imul K dX2_orderOf_51 ?_
  refine G_iload_n rfl 5 rfl K dX2_orderOf_52 ?_
  refine G_iadd K dX2_orderOf_53 ?_
  obtain ⟨r3, e3, h⟩ := wpO_bind h
  refine G_callVl (ci := 7) [.int ((2 * x4) + x3)] [.long ((M.2 b 7) * r1), .long ((x1.toInt64 * ((M.2 b 7) * r1)) + ((M.2 b 6) * r2))] K dX2_orderOf_54 wv_527 yd_X7_at hb.2.2.2.2.1.1 (hb.2.2.2.2.1.2.2.1 _ _) rfl (by decide) (by decide) rfl rfl (Nat.le_of_ble_eq_true rfl) (K_Row_at l g htr ((b + 5)) ((b + 6)) 18 hb.2.2.2.2.1 ((2 * x4) + x3) M _ e3) ?_
  refine G_aload_n rfl 2 rfl K dX2_orderOf_57 ?_
  refine G_get (ci := 2) (k := 3) K rfl in_X2 wd_195 rfl dX2_orderOf_58 hb.1 (hb.2.1 _ _) (Nat.le_of_ble_eq_true rfl) rfl ?_
  refine G_iload 6 rfl K dX2_orderOf_61 ?_
  obtain ⟨r4, e4, h⟩ := wpO_bind h
  refine G_callVl (ci := 7) [.int x4] [.long r3, .long ((M.2 b 7) * r1), .long ((x1.toInt64 * ((M.2 b 7) * r1)) + ((M.2 b 6) * r2))] K dX2_orderOf_63 wv_527 yd_X7_at hb.2.2.2.2.2.1.1 (hb.2.2.2.2.2.1.2.2.1 _ _) rfl (by decide) (by decide) rfl rfl (Nat.le_of_ble_eq_true rfl) (K_Row_at l g htr ((b + 7)) ((b + 8)) 9 hb.2.2.2.2.2.1 x4 M _ e4) ?_
  obtain ⟨r5, e5, h⟩ := wpO_bind h
  refine G_callSi [.long ((x1.toInt64 * ((M.2 b 7) * r1)) + ((M.2 b 6) * r2)), .long ((M.2 b 7) * r1), .long r3, .long r4] [] K dX2_orderOf_66 wv_556 yd_X5_order (by decide) (by decide) rfl rfl (Nat.le_of_ble_eq_true rfl) (K_Fraction_order l g htr ((x1.toInt64 * ((M.2 b 7) * r1)) + ((M.2 b 6) * r2)) ((M.2 b 7) * r1) r3 r4 M _ e5) ?_
  cases hPHI _ (wpO_some h)
  exact G_iret K hr rfl dX2_orderOf_69 (Nat.le_of_ble_eq_true rfl) (Nat.le_of_ble_eq_true rfl) ⟨rfl, rfl⟩
