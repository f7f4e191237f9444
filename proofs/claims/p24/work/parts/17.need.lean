theorem yd_X8_hasRoom : ydN yX8_hasRoom 0 := ⟨by decide, by decide, by decide +kernel⟩
theorem yd_X8_append : ydN yX8_append 1 := ⟨by decide, by decide, by decide +kernel⟩
theorem wv_443 : wdV "KeptWell" 87 yX8_hasRoom cX8_hasRoom 1 (some .boolean) := ⟨wd_443, wd_444, wd_445, wd_5, wd_446⟩
theorem wv_447 : wdV "KeptWell" 91 yX8_append cX8_append 3 none := ⟨wd_447, wd_448, wd_449, wd_5, wd_450⟩
def on_X11_feed : Nat := 0xac5f00b41a00b42a5b00b605151a00b42a5b00b604151a00b42a5b00b61d1a00b42a5b00b61c1a00b42a5b00b61b1a00b42aac0205009a5700b61a00b42a
theorem ob_X11_feed : OKB cX11_feed on_X11_feed 62 := ⟨by decide +kernel, by decide +kernel⟩
theorem dX11_feed_0 : dc cX11_feed 0 1 (.aload_n 0) 1 := o_42 ob_X11_feed rfl rfl rfl
theorem dX11_feed_1 : dc cX11_feed 1 4 (.getfield 26) 3 := o_180 ob_X11_feed rfl rfl rfl rfl
theorem dX11_feed_4 : dc cX11_feed 4 7 (.invokevirtual 87) 3 := o_182 ob_X11_feed rfl rfl rfl rfl
theorem dX11_feed_7 : dc cX11_feed 7 10 (.ifCond .ne 5) 3 := o_154 ob_X11_feed rfl rfl rfl rfl
theorem dX11_feed_10 : dc cX11_feed 10 11 (.iconst (-1)) 1 := o_2 ob_X11_feed rfl rfl rfl
theorem dX11_feed_11 : dc cX11_feed 11 12 .ireturn 1 := o_172 ob_X11_feed rfl rfl rfl
theorem dX11_feed_12 : dc cX11_feed 12 13 (.aload_n 0) 1 := o_42 ob_X11_feed rfl rfl rfl
theorem dX11_feed_13 : dc cX11_feed 13 16 (.getfield 26) 3 := o_180 ob_X11_feed rfl rfl rfl rfl
theorem dX11_feed_16 : dc cX11_feed 16 17 (.iload_n 1) 1 := o_27 ob_X11_feed rfl rfl rfl
theorem dX11_feed_17 : dc cX11_feed 17 20 (.invokevirtual 91) 3 := o_182 ob_X11_feed rfl rfl rfl rfl
theorem dX11_feed_20 : dc cX11_feed 20 21 (.aload_n 0) 1 := o_42 ob_X11_feed rfl rfl rfl
theorem dX11_feed_21 : dc cX11_feed 21 24 (.getfield 26) 3 := o_180 ob_X11_feed rfl rfl rfl rfl
theorem dX11_feed_24 : dc cX11_feed 24 25 (.iload_n 2) 1 := o_28 ob_X11_feed rfl rfl rfl
theorem dX11_feed_25 : dc cX11_feed 25 28 (.invokevirtual 91) 3 := o_182 ob_X11_feed rfl rfl rfl rfl
theorem dX11_feed_28 : dc cX11_feed 28 29 (.aload_n 0) 1 := o_42 ob_X11_feed rfl rfl rfl
theorem dX11_feed_29 : dc cX11_feed 29 32 (.getfield 26) 3 := o_180 ob_X11_feed rfl rfl rfl rfl
theorem dX11_feed_32 : dc cX11_feed 32 33 (.iload_n 3) 1 := o_29 ob_X11_feed rfl rfl rfl
theorem dX11_feed_33 : dc cX11_feed 33 36 (.invokevirtual 91) 3 := o_182 ob_X11_feed rfl rfl rfl rfl
theorem dX11_feed_36 : dc cX11_feed 36 37 (.aload_n 0) 1 := o_42 ob_X11_feed rfl rfl rfl
theorem dX11_feed_37 : dc cX11_feed 37 40 (.getfield 26) 3 := o_180 ob_X11_feed rfl rfl rfl rfl
theorem dX11_feed_40 : dc cX11_feed 40 42 (.iload 4) 2 := o_21 ob_X11_feed rfl rfl rfl rfl
theorem dX11_feed_42 : dc cX11_feed 42 45 (.invokevirtual 91) 3 := o_182 ob_X11_feed rfl rfl rfl rfl
theorem dX11_feed_45 : dc cX11_feed 45 46 (.aload_n 0) 1 := o_42 ob_X11_feed rfl rfl rfl
theorem dX11_feed_46 : dc cX11_feed 46 49 (.getfield 26) 3 := o_180 ob_X11_feed rfl rfl rfl rfl
theorem dX11_feed_49 : dc cX11_feed 49 51 (.iload 5) 2 := o_21 ob_X11_feed rfl rfl rfl rfl
theorem dX11_feed_51 : dc cX11_feed 51 54 (.invokevirtual 91) 3 := o_182 ob_X11_feed rfl rfl rfl rfl
theorem dX11_feed_54 : dc cX11_feed 54 55 (.aload_n 0) 1 := o_42 ob_X11_feed rfl rfl rfl
theorem dX11_feed_55 : dc cX11_feed 55 58 (.getfield 26) 3 := o_180 ob_X11_feed rfl rfl rfl rfl
theorem dX11_feed_58 : dc cX11_feed 58 61 (.getfield 95) 3 := o_180 ob_X11_feed rfl rfl rfl rfl
theorem dX11_feed_61 : dc cX11_feed 61 62 .ireturn 1 := o_172 ob_X11_feed rfl rfl rfl
def F_KW_feed (x1 : Int32) (x2 : Int32) (x3 : Int32) (x4 : Int32) (x5 : Int32) (M : Mem) : Option (Int32 × Mem) :=
  (F_Tape_hasRoom M).bind fun r1 => if r1 = true then (F_Tape_append x1 M).bind fun r2 => (F_Tape_append x2 r2).bind fun r3 => (F_Tape_append x3 r3).bind fun r4 => (F_Tape_append x4 r4).bind fun r5 => (F_Tape_append x5 r5).bind fun r6 => some ((r6.1 27 1, r6)) else some (((-1), M))
set_option maxRecDepth 100000 in
set_option maxHeartbeats 4000000 in
theorem K_KW_feed (l : Launch) (g : GB) (htr : l.stackTraces = false) (x1 : Int32) (x2 : Int32) (x3 : Int32) (x4 : Int32) (x5 : Int32) (M : Mem) (rr : Int32) (MZ : Mem) (h : F_KW_feed x1 x2 x3 x4 x5 M = some (rr, MZ)) : CT l g yX11_feed (.code yX11_feed cX11_feed 6 (some .int) :: wAll) { frames := 2, cells := 0, slots := 0, locals := 45 } [.ref (g.2.1 0), .int x1, .int x2, .int x3, .int x4, .int x5] M (.inl (some (.int rr))) MZ := by
  refine CT.of [(0, .ref (g.2.1 0)), (1, .int x1), (2, .int x2), (3, .int x3), (4, .int x4), (5, .int x5)] (by decide +kernel) (Nat.le_of_ble_eq_true rfl) rfl htr ?_
  intro p e s m args below meth c K hr ht
  skip
  obtain ⟨PHI, hPHI, h⟩ : ∃ PHI : Int32 × Mem → Prop, (∀ a, PHI a → a = (rr, MZ)) ∧ wpO (F_KW_feed x1 x2 x3 x4 x5 M) PHI := ⟨fun a => a = (rr, MZ), fun _ h => h, _, h, rfl⟩
  unfold F_KW_feed at h
  refine G_aload_n rfl 0 rfl K dX11_feed_0 ?_
  refine G_get (ci := 11) (k := 3) K rfl in_X11 wd_405 rfl dX11_feed_1 (Nat.le_of_ble_eq_true rfl) (sh_0 _ _) (Nat.le_of_ble_eq_true rfl) rfl ?_
  obtain ⟨r1, e1, h⟩ := wpO_bind h
  refine G_callVi (ci := 8) [] [] K dX11_feed_4 wv_443 yd_X8_hasRoom (Nat.le_of_ble_eq_true rfl) (sh_27 _ _) rfl (by decide) (by decide) rfl rfl (Nat.le_of_ble_eq_true rfl) (K_Tape_hasRoom l g htr  M _ e1) ?_
  refine G_ifb_ne (tgt := 12) K dX11_feed_7 (by decide) (fun hc => ?_) (fun hc => ?_)
  · have h := wpO_t h hc
    refine G_aload_n rfl 0 rfl K dX11_feed_12 ?_
    refine G_get (ci := 11) (k := 3) K rfl in_X11 wd_405 rfl dX11_feed_13 (Nat.le_of_ble_eq_true rfl) (sh_0 _ _) (Nat.le_of_ble_eq_true rfl) rfl ?_
    refine G_iload_n rfl 1 rfl K dX11_feed_16 ?_
    obtain ⟨r2, e2, h⟩ := wpO_bind h
    refine G_callVv (ci := 8) [.int x1] [] K dX11_feed_17 wv_447 yd_X8_append (Nat.le_of_ble_eq_true rfl) (sh_27 _ _) rfl (by decide) (by decide) rfl rfl (Nat.le_of_ble_eq_true rfl) (K_Tape_append l g htr x1 M _ e2) ?_
    refine G_aload_n rfl 0 rfl K dX11_feed_20 ?_
    refine G_get (ci := 11) (k := 3) K rfl in_X11 wd_405 rfl dX11_feed_21 (Nat.le_of_ble_eq_true rfl) (sh_0 _ _) (Nat.le_of_ble_eq_true rfl) rfl ?_
    refine G_iload_n rfl 2 rfl K dX11_feed_24 ?_
    obtain ⟨r3, e3, h⟩ := wpO_bind h
    refine G_callVv (ci := 8) [.int x2] [] K dX11_feed_25 wv_447 yd_X8_append (Nat.le_of_ble_eq_true rfl) (sh_27 _ _) rfl (by decide) (by decide) rfl rfl (Nat.le_of_ble_eq_true rfl) (K_Tape_append l g htr x2 r2 _ e3) ?_
    refine G_aload_n rfl 0 rfl K dX11_feed_28 ?_
    refine G_get (ci := 11) (k := 3) K rfl in_X11 wd_405 rfl dX11_feed_29 (Nat.le_of_ble_eq_true rfl) (sh_0 _ _) (Nat.le_of_ble_eq_true rfl) rfl ?_
    refine G_iload_n rfl 3 rfl K dX11_feed_32 ?_
    obtain ⟨r4, e4, h⟩ := wpO_bind h
    refine G_callVv (ci := 8) [.int x3] [] K dX11_feed_33 wv_447 yd_X8_append (Nat.le_of_ble_eq_true rfl) (sh_27 _ _) rfl (by decide) (by decide) rfl rfl (Nat.le_of_ble_eq_true rfl) (K_Tape_append l g htr x3 r3 _ e4) ?_
    refine G_aload_n rfl 0 rfl K dX11_feed_36 ?_
    refine G_get (ci := 11) (k := 3) K rfl in_X11 wd_405 rfl dX11_feed_37 (Nat.le_of_ble_eq_true rfl) (sh_0 _ _) (Nat.le_of_ble_eq_true rfl) rfl ?_
    refine G_iload 4 rfl K dX11_feed_40 ?_
    obtain ⟨r5, e5, h⟩ := wpO_bind h
    refine G_callVv (ci := 8) [.int x4] [] K dX11_feed_42 wv_447 yd_X8_append (Nat.le_of_ble_eq_true rfl) (sh_27 _ _) rfl (by decide) (by decide) rfl rfl (Nat.le_of_ble_eq_true rfl) (K_Tape_append l g htr x4 r4 _ e5) ?_
    refine G_aload_n rfl 0 rfl K dX11_feed_45 ?_
    refine G_get (ci := 11) (k := 3) K rfl in_X11 wd_405 rfl dX11_feed_46 (Nat.le_of_ble_eq_true rfl) (sh_0 _ _) (Nat.le_of_ble_eq_true rfl) rfl ?_
    refine G_iload 5 rfl K dX11_feed_49 ?_
    obtain ⟨r6, e6, h⟩ := wpO_bind h
    refine G_callVv (ci := 8) [.int x5] [] K dX11_feed_51 wv_447 yd_X8_append (Nat.le_of_ble_eq_true rfl) (sh_27 _ _) rfl (by decide) (by decide) rfl rfl (Nat.le_of_ble_eq_true rfl) (K_Tape_append l g htr x5 r5 _ e6) ?_
    refine G_aload_n rfl 0 rfl K dX11_feed_54 ?_
    refine G_get (ci := 11) (k := 3) K rfl in_X11 wd_405 rfl dX11_feed_55 (Nat.le_of_ble_eq_true rfl) (sh_0 _ _) (Nat.le_of_ble_eq_true rfl) rfl ?_
    refine G_get (ci := 8) (k := 1) K rfl in_X8 wd_150 rfl dX11_feed_58 (Nat.le_of_ble_eq_true rfl) (sh_27 _ _) (Nat.le_of_ble_eq_true rfl) rfl ?_
    cases hPHI _ (wpO_some h)
    exact G_iret K hr rfl dX11_feed_61 (Nat.le_of_ble_eq_true rfl) (Nat.le_of_ble_eq_true rfl) ⟨rfl, rfl⟩
  · have h := wpO_bf h hc
    refine G_iconst (v := (-1)) rfl K dX11_feed_10 ?_
    cases hPHI _ (wpO_some h)
    exact G_iret K hr rfl dX11_feed_11 (Nat.le_of_ble_eq_true rfl) (Nat.le_of_ble_eq_true rfl) ⟨rfl, rfl⟩
def on_X11_end : Nat := 0xac045f00b51b1a00b42aac030500a45f00b41a00b42a1b0e009b1b
theorem ob_X11_end : OKB cX11_end on_X11_end 27 := ⟨by decide +kernel, by decide +kernel⟩
theorem dX11_end_0 : dc cX11_end 0 1 (.iload_n 1) 1 := o_27 ob_X11_end rfl rfl rfl
theorem dX11_end_1 : dc cX11_end 1 4 (.ifCond .lt 14) 3 := o_155 ob_X11_end rfl rfl rfl rfl
theorem dX11_end_4 : dc cX11_end 4 5 (.iload_n 1) 1 := o_27 ob_X11_end rfl rfl rfl
theorem dX11_end_5 : dc cX11_end 5 6 (.aload_n 0) 1 := o_42 ob_X11_end rfl rfl rfl
theorem dX11_end_6 : dc cX11_end 6 9 (.getfield 26) 3 := o_180 ob_X11_end rfl rfl rfl rfl
theorem dX11_end_9 : dc cX11_end 9 12 (.getfield 95) 3 := o_180 ob_X11_end rfl rfl rfl rfl
theorem dX11_end_12 : dc cX11_end 12 15 (.if_icmp .le 5) 3 := o_164 ob_X11_end rfl rfl rfl rfl
theorem dX11_end_15 : dc cX11_end 15 16 (.iconst 0) 1 := o_3 ob_X11_end rfl rfl rfl
theorem dX11_end_16 : dc cX11_end 16 17 .ireturn 1 := o_172 ob_X11_end rfl rfl rfl
theorem dX11_end_17 : dc cX11_end 17 18 (.aload_n 0) 1 := o_42 ob_X11_end rfl rfl rfl
theorem dX11_end_18 : dc cX11_end 18 21 (.getfield 26) 3 := o_180 ob_X11_end rfl rfl rfl rfl
theorem dX11_end_21 : dc cX11_end 21 22 (.iload_n 1) 1 := o_27 ob_X11_end rfl rfl rfl
theorem dX11_end_22 : dc cX11_end 22 25 (.putfield 95) 3 := o_181 ob_X11_end rfl rfl rfl rfl
theorem dX11_end_25 : dc cX11_end 25 26 (.iconst 1) 1 := o_4 ob_X11_end rfl rfl rfl
theorem dX11_end_26 : dc cX11_end 26 27 .ireturn 1 := o_172 ob_X11_end rfl rfl rfl
def F_KW_end (x1 : Int32) (M : Mem) : Option (Bool × Mem) :=
  if x1 < 0 then some ((false, M)) else if x1 ≤ (M.1 27 1) then some ((true, mSI M 27 1 x1)) else some ((false, M))
set_option maxRecDepth 100000 in
set_option maxHeartbeats 4000000 in
theorem K_KW_end (l : Launch) (g : GB) (htr : l.stackTraces = false) (x1 : Int32) (M : Mem) (rr : Bool) (MZ : Mem) (h : F_KW_end x1 M = some (rr, MZ)) : CT l g yX11_end (.code yX11_end cX11_end 2 (some .boolean) :: wAll) { frames := 0, cells := 0, slots := 0, locals := 0 } [.ref (g.2.1 0), .int x1] M (.inl (some (.int (b2i rr)))) MZ := by
  refine CT.of [(0, .ref (g.2.1 0)), (1, .int x1)] (by decide +kernel) (Nat.le_of_ble_eq_true rfl) rfl htr ?_
  intro p e s m args below meth c K hr ht
  skip
  obtain ⟨PHI, hPHI, h⟩ : ∃ PHI : Bool × Mem → Prop, (∀ a, PHI a → a = (rr, MZ)) ∧ wpO (F_KW_end x1 M) PHI := ⟨fun a => a = (rr, MZ), fun _ h => h, _, h, rfl⟩
  unfold F_KW_end at h
  refine G_iload_n rfl 1 rfl K dX11_end_0 ?_
  refine G_if_lt (tgt := 15) K dX11_end_1 (by decide) (fun hc => ?_) (fun hc => ?_)
  · have h := wpO_t h hc
    refine G_iconst (v := 0) rfl K dX11_end_15 ?_
    cases hPHI _ (wpO_some h)
    exact G_iret K hr rfl dX11_end_16 (Nat.le_of_ble_eq_true rfl) (Nat.le_of_ble_eq_true rfl) ⟨rfl, rfl⟩
  · have h := wpO_f h hc
    refine G_iload_n rfl 1 rfl K dX11_end_4 ?_
    refine G_aload_n rfl 0 rfl K dX11_end_5 ?_
    refine G_get (ci := 11) (k := 3) K rfl in_X11 wd_405 rfl dX11_end_6 (Nat.le_of_ble_eq_true rfl) (sh_0 _ _) (Nat.le_of_ble_eq_true rfl) rfl ?_
    refine G_get (ci := 8) (k := 1) K rfl in_X8 wd_150 rfl dX11_end_9 (Nat.le_of_ble_eq_true rfl) (sh_27 _ _) (Nat.le_of_ble_eq_true rfl) rfl ?_
    refine G_icmp_le (tgt := 17) K dX11_end_12 (by decide) (fun hc => ?_) (fun hc => ?_)
    · have h := wpO_t h hc
      refine G_aload_n rfl 0 rfl K dX11_end_17 ?_
      refine G_get (ci := 11) (k := 3) K rfl in_X11 wd_405 rfl dX11_end_18 (Nat.le_of_ble_eq_true rfl) (sh_0 _ _) (Nat.le_of_ble_eq_true rfl) rfl ?_
      refine G_iload_n rfl 1 rfl K dX11_end_21 ?_
      refine G_putI (ci := 8) (k := 1) (ty := .int) K rfl in_X8 tyX8 tyX8_ok nmX8 wd_150 rfl rfl rfl rfl rfl dX11_end_22 (Nat.le_of_ble_eq_true rfl) (sh_27 _ _) (sh_27 _ _) (Nat.le_of_ble_eq_true rfl) (Nat.le_of_ble_eq_true rfl) rfl ?_
      refine G_iconst (v := 1) rfl K dX11_end_25 ?_
      cases hPHI _ (wpO_some h)
      exact G_iret K hr rfl dX11_end_26 (Nat.le_of_ble_eq_true rfl) (Nat.le_of_ble_eq_true rfl) ⟨rfl, rfl⟩
    · have h := wpO_f h hc
      refine G_iconst (v := 0) rfl K dX11_end_15 ?_
      cases hPHI _ (wpO_some h)
      exact G_iret K hr rfl dX11_end_16 (Nat.le_of_ble_eq_true rfl) (Nat.le_of_ble_eq_true rfl) ⟨rfl, rfl⟩
theorem ex_122_124S : ∀ w ∈ ([(Jvm.Cond.initialized "java/lang/Throwable"), (Jvm.Cond.initialized "java/lang/Exception"), (Jvm.Cond.initialized "java/lang/RuntimeException"), (Jvm.Cond.initialized "java/lang/IllegalArgumentException"), (Jvm.Cond.instanceMethod ({ cls := "java/lang/Object", name := "<init>", desc := "()V" } : Jvm.MethodName)), (Jvm.Cond.code ({ cls := "java/lang/Object", name := "<init>", desc := "()V" } : Jvm.MethodName) object_method_1_code (1 : Nat) (Option.none : Option Jvm.ClassFile.FieldType)), (Jvm.Cond.instantiable "java/lang/IllegalArgumentException" (6 : Nat)), (Jvm.Cond.castable "java/lang/IllegalArgumentException" "java/lang/IllegalArgumentException"), (Jvm.Cond.declares ({ cls := "java/lang/RuntimeException", name := "<init>", desc := "()V" } : Jvm.MethodName)), (Jvm.Cond.declares ({ cls := "java/lang/RuntimeException", name := "<init>", desc := "(Ljava/lang/String;)V" } : Jvm.MethodName)), (Jvm.Cond.declares ({ cls := "java/lang/Exception", name := "<init>", desc := "()V" } : Jvm.MethodName)), (Jvm.Cond.declares ({ cls := "java/lang/Exception", name := "<init>", desc := "(Ljava/lang/String;)V" } : Jvm.MethodName)), (Jvm.Cond.declares ({ cls := "java/lang/Throwable", name := "<init>", desc := "()V" } : Jvm.MethodName)), (Jvm.Cond.declares ({ cls := "java/lang/Throwable", name := "<init>", desc := "(Ljava/lang/String;)V" } : Jvm.MethodName)), (Jvm.Cond.selects "java/lang/IllegalArgumentException" ({ cls := "java/lang/Throwable", name := "fillInStackTrace", desc := "(I)Ljava/lang/Throwable;" } : Jvm.MethodName) ({ cls := "java/lang/Throwable", name := "fillInStackTrace", desc := "(I)Ljava/lang/Throwable;" } : Jvm.MethodName)), (Jvm.Cond.selects "java/lang/IllegalArgumentException" ({ cls := "java/lang/Throwable", name := "fillInStackTrace", desc := "()Ljava/lang/Throwable;" } : Jvm.MethodName) ({ cls := "java/lang/Throwable", name := "fillInStackTrace", desc := "()Ljava/lang/Throwable;" } : Jvm.MethodName)), (Jvm.Cond.lays "java/lang/IllegalArgumentException" "java/lang/Throwable" "cause" "Ljava/lang/Throwable;"), (Jvm.Cond.lays "java/lang/Throwable" "java/lang/Throwable" "cause" "Ljava/lang/Throwable;"), (Jvm.Cond.lays "java/lang/IllegalArgumentException" "java/lang/Throwable" "stackTrace" "[Ljava/lang/StackTraceElement;"), (Jvm.Cond.lays "java/lang/Throwable" "java/lang/Throwable" "stackTrace" "[Ljava/lang/StackTraceElement;"), (Jvm.Cond.lays "java/lang/IllegalArgumentException" "java/lang/Throwable" "suppressedExceptions" "Ljava/util/List;"), (Jvm.Cond.lays "java/lang/Throwable" "java/lang/Throwable" "suppressedExceptions" "Ljava/util/List;"), (Jvm.Cond.lays "java/lang/IllegalArgumentException" "java/lang/Throwable" "detailMessage" "Ljava/lang/String;"), (Jvm.Cond.lays "java/lang/Throwable" "java/lang/Throwable" "detailMessage" "Ljava/lang/String;"), (Jvm.Cond.lays "java/lang/IllegalArgumentException" "java/lang/Throwable" "backtrace" "Ljava/lang/Object;"), (Jvm.Cond.lays "java/lang/Throwable" "java/lang/Throwable" "backtrace" "Ljava/lang/Object;"), (Jvm.Cond.fieldLink "java/lang/Throwable" (198 : Nat) "java/lang/Throwable" "backtrace" "Ljava/lang/Object;"), (Jvm.Cond.superclass "java/lang/Throwable" "java/lang/Object"), (Jvm.Cond.instanceMethod ({ cls := "java/lang/Throwable", name := "<init>", desc := "()V" } : Jvm.MethodName)), (Jvm.Cond.code ({ cls := "java/lang/Throwable", name := "<init>", desc := "()V" } : Jvm.MethodName) prog_28_method_1_code (1 : Nat) (Option.none : Option Jvm.ClassFile.FieldType)), (Jvm.Cond.methodLink "java/lang/Throwable" (1 : Nat) ({ cls := "java/lang/Object", name := "<init>", desc := "()V" } : Jvm.MethodName)), (Jvm.Cond.fieldLink "java/lang/Throwable" (13 : Nat) "java/lang/Throwable" "UNASSIGNED_STACK" "[Ljava/lang/StackTraceElement;"), (Jvm.Cond.laysStatic "java/lang/Throwable" "UNASSIGNED_STACK" "[Ljava/lang/StackTraceElement;"), (Jvm.Cond.fieldLink "java/lang/Throwable" (20 : Nat) "java/lang/Throwable" "SUPPRESSED_SENTINEL" "Ljava/util/List;"), (Jvm.Cond.laysStatic "java/lang/Throwable" "SUPPRESSED_SENTINEL" "Ljava/util/List;"), (Jvm.Cond.methodLink "java/lang/Throwable" (27 : Nat) ({ cls := "java/lang/Throwable", name := "fillInStackTrace", desc := "()Ljava/lang/Throwable;" } : Jvm.MethodName)), (Jvm.Cond.instanceMethod ({ cls := "java/lang/Throwable", name := "fillInStackTrace", desc := "()Ljava/lang/Throwable;" } : Jvm.MethodName)), (Jvm.Cond.sameMethod "java/lang/Throwable" "java/lang/Throwable" "fillInStackTrace" "()Ljava/lang/Throwable;"), (Jvm.Cond.codeSync ({ cls := "java/lang/Throwable", name := "fillInStackTrace", desc := "()Ljava/lang/Throwable;" } : Jvm.MethodName) prog_28_method_18_code (1 : Nat) (Option.some (Jvm.ClassFile.FieldType.object "java/lang/Throwable"))), (Jvm.Cond.methodLink "java/lang/Throwable" (202 : Nat) ({ cls := "java/lang/Throwable", name := "fillInStackTrace", desc := "(I)Ljava/lang/Throwable;" } : Jvm.MethodName)), (Jvm.Cond.privateMethod ({ cls := "java/lang/Throwable", name := "fillInStackTrace", desc := "(I)Ljava/lang/Throwable;" } : Jvm.MethodName)), (Jvm.Cond.instanceMethod ({ cls := "java/lang/Throwable", name := "fillInStackTrace", desc := "(I)Ljava/lang/Throwable;" } : Jvm.MethodName)), (Jvm.Cond.instantiable "java/lang/Throwable" (6 : Nat)), (Jvm.Cond.native ({ cls := "java/lang/Throwable", name := "fillInStackTrace", desc := "(I)Ljava/lang/Throwable;" } : Jvm.MethodName)), (Jvm.Cond.methodLink "KeptWell" (124 : Nat) ({ cls := "java/lang/IllegalArgumentException", name := "<init>", desc := "()V" } : Jvm.MethodName)), (Jvm.Cond.instanceMethod ({ cls := "java/lang/IllegalArgumentException", name := "<init>", desc := "()V" } : Jvm.MethodName)), (Jvm.Cond.code ({ cls := "java/lang/IllegalArgumentException", name := "<init>", desc := "()V" } : Jvm.MethodName) prog_19_method_1_code (1 : Nat) (Option.none : Option Jvm.ClassFile.FieldType)), (Jvm.Cond.methodLink "java/lang/IllegalArgumentException" (1 : Nat) ({ cls := "java/lang/RuntimeException", name := "<init>", desc := "()V" } : Jvm.MethodName)), (Jvm.Cond.instanceMethod ({ cls := "java/lang/RuntimeException", name := "<init>", desc := "()V" } : Jvm.MethodName)), (Jvm.Cond.code ({ cls := "java/lang/RuntimeException", name := "<init>", desc := "()V" } : Jvm.MethodName) prog_24_method_1_code (1 : Nat) (Option.none : Option Jvm.ClassFile.FieldType)), (Jvm.Cond.methodLink "java/lang/RuntimeException" (1 : Nat) ({ cls := "java/lang/Exception", name := "<init>", desc := "()V" } : Jvm.MethodName)), (Jvm.Cond.instanceMethod ({ cls := "java/lang/Exception", name := "<init>", desc := "()V" } : Jvm.MethodName)), (Jvm.Cond.code ({ cls := "java/lang/Exception", name := "<init>", desc := "()V" } : Jvm.MethodName) prog_18_method_1_code (1 : Nat) (Option.none : Option Jvm.ClassFile.FieldType)), (Jvm.Cond.methodLink "java/lang/Exception" (1 : Nat) ({ cls := "java/lang/Throwable", name := "<init>", desc := "()V" } : Jvm.MethodName)), (Jvm.Cond.fieldLink "java/lang/Throwable" (198 : Nat) "java/lang/Throwable" "backtrace" "Ljava/lang/Object;"), (Jvm.Cond.fieldLink "java/lang/Throwable" (7 : Nat) "java/lang/Throwable" "cause" "Ljava/lang/Throwable;"), (Jvm.Cond.fieldLink "java/lang/Throwable" (17 : Nat) "java/lang/Throwable" "stackTrace" "[Ljava/lang/StackTraceElement;"), (Jvm.Cond.fieldLink "java/lang/Throwable" (24 : Nat) "java/lang/Throwable" "suppressedExceptions" "Ljava/util/List;"), (Jvm.Cond.soleField "java/lang/Throwable" "backtrace"), (Jvm.Cond.soleField "java/lang/Throwable" "detailMessage"), (Jvm.Cond.soleField "java/lang/Throwable" "cause"), (Jvm.Cond.soleField "java/lang/Throwable" "stackTrace"), (Jvm.Cond.lays "java/lang/IllegalArgumentException" "java/lang/Throwable" "depth" "I"), (Jvm.Cond.soleField "java/lang/Throwable" "depth"), (Jvm.Cond.soleField "java/lang/Throwable" "suppressedExceptions"), (Jvm.Cond.superclass "java/lang/IllegalArgumentException" "java/lang/RuntimeException"), (Jvm.Cond.sameMethod "java/lang/Throwable" "java/lang/Throwable" "fillInStackTrace" "(I)Ljava/lang/Throwable;"), (Jvm.Cond.castable "java/lang/IllegalArgumentException" "java/lang/Object"), (Jvm.Cond.castable "java/lang/Throwable" "java/lang/Object")] : List Cond), w ∈ lw_tbl := List.forall_mem_cons.mpr ⟨tb_1 (List.mem_of_getElem? (i := 15) rfl), List.forall_mem_cons.mpr ⟨tb_1 (List.mem_of_getElem? (i := 16) rfl), List.forall_mem_cons.mpr ⟨tb_1 (List.mem_of_getElem? (i := 17) rfl), List.forall_mem_cons.mpr ⟨tb_1 (List.mem_of_getElem? (i := 18) rfl), List.forall_mem_cons.mpr ⟨tb_1 (List.mem_of_getElem? (i := 34) rfl), List.forall_mem_cons.mpr ⟨tb_1 (List.mem_of_getElem? (i := 35) rfl), List.forall_mem_cons.mpr ⟨tb_3 (List.mem_of_getElem? (i := 179) rfl), List.forall_mem_cons.mpr ⟨tb_3 (List.mem_of_getElem? (i := 180) rfl), List.forall_mem_cons.mpr ⟨tb_3 (List.mem_of_getElem? (i := 181) rfl), List.forall_mem_cons.mpr ⟨tb_3 (List.mem_of_getElem? (i := 182) rfl), List.forall_mem_cons.mpr ⟨tb_3 (List.mem_of_getElem? (i := 183) rfl), List.forall_mem_cons.mpr ⟨tb_3 (List.mem_of_getElem? (i := 184) rfl), List.forall_mem_cons.mpr ⟨tb_3 (List.mem_of_getElem? (i := 185) rfl), List.forall_mem_cons.mpr ⟨tb_3 (List.mem_of_getElem? (i := 186) rfl), List.forall_mem_cons.mpr ⟨tb_3 (List.mem_of_getElem? (i := 187) rfl), List.forall_mem_cons.mpr ⟨tb_3 (List.mem_of_getElem? (i := 188) rfl), List.forall_mem_cons.mpr ⟨tb_3 (List.mem_of_getElem? (i := 189) rfl), List.forall_mem_cons.mpr ⟨tb_3 (List.mem_of_getElem? (i := 190) rfl), List.forall_mem_cons.mpr ⟨tb_3 (List.mem_of_getElem? (i := 191) rfl), List.forall_mem_cons.mpr ⟨tb_3 (List.mem_of_getElem? (i := 192) rfl), List.forall_mem_cons.mpr ⟨tb_3 (List.mem_of_getElem? (i := 193) rfl), List.forall_mem_cons.mpr ⟨tb_3 (List.mem_of_getElem? (i := 194) rfl), List.forall_mem_cons.mpr ⟨tb_3 (List.mem_of_getElem? (i := 195) rfl), List.forall_mem_cons.mpr ⟨tb_3 (List.mem_of_getElem? (i := 196) rfl), List.forall_mem_cons.mpr ⟨tb_3 (List.mem_of_getElem? (i := 197) rfl), List.forall_mem_cons.mpr ⟨tb_3 (List.mem_of_getElem? (i := 198) rfl), List.forall_mem_cons.mpr ⟨tb_3 (List.mem_of_getElem? (i := 199) rfl), List.forall_mem_cons.mpr ⟨tb_3 (List.mem_of_getElem? (i := 200) rfl), List.forall_mem_cons.mpr ⟨tb_3 (List.mem_of_getElem? (i := 201) rfl), List.forall_mem_cons.mpr ⟨tb_3 (List.mem_of_getElem? (i := 202) rfl), List.forall_mem_cons.mpr ⟨tb_3 (List.mem_of_getElem? (i := 203) rfl), List.forall_mem_cons.mpr ⟨tb_3 (List.mem_of_getElem? (i := 204) rfl), List.forall_mem_cons.mpr ⟨tb_3 (List.mem_of_getElem? (i := 205) rfl), List.forall_mem_cons.mpr ⟨tb_3 (List.mem_of_getElem? (i := 206) rfl), List.forall_mem_cons.mpr ⟨tb_3 (List.mem_of_getElem? (i := 207) rfl), List.forall_mem_cons.mpr ⟨tb_3 (List.mem_of_getElem? (i := 208) rfl), List.forall_mem_cons.mpr ⟨tb_3 (List.mem_of_getElem? (i := 209) rfl), List.forall_mem_cons.mpr ⟨tb_3 (List.mem_of_getElem? (i := 210) rfl), List.forall_mem_cons.mpr ⟨tb_3 (List.mem_of_getElem? (i := 215) rfl), List.forall_mem_cons.mpr ⟨tb_3 (List.mem_of_getElem? (i := 216) rfl), List.forall_mem_cons.mpr ⟨tb_3 (List.mem_of_getElem? (i := 217) rfl), List.forall_mem_cons.mpr ⟨tb_3 (List.mem_of_getElem? (i := 218) rfl), List.forall_mem_cons.mpr ⟨tb_3 (List.mem_of_getElem? (i := 219) rfl), List.forall_mem_cons.mpr ⟨tb_3 (List.mem_of_getElem? (i := 220) rfl), List.forall_mem_cons.mpr ⟨tb_3 (List.mem_of_getElem? (i := 221) rfl), List.forall_mem_cons.mpr ⟨tb_3 (List.mem_of_getElem? (i := 222) rfl), List.forall_mem_cons.mpr ⟨tb_3 (List.mem_of_getElem? (i := 223) rfl), List.forall_mem_cons.mpr ⟨tb_3 (List.mem_of_getElem? (i := 224) rfl), List.forall_mem_cons.mpr ⟨tb_3 (List.mem_of_getElem? (i := 225) rfl), List.forall_mem_cons.mpr ⟨tb_3 (List.mem_of_getElem? (i := 226) rfl), List.forall_mem_cons.mpr ⟨tb_3 (List.mem_of_getElem? (i := 227) rfl), List.forall_mem_cons.mpr ⟨tb_3 (List.mem_of_getElem? (i := 228) rfl), List.forall_mem_cons.mpr ⟨tb_3 (List.mem_of_getElem? (i := 229) rfl), List.forall_mem_cons.mpr ⟨tb_3 (List.mem_of_getElem? (i := 230) rfl), List.forall_mem_cons.mpr ⟨tb_3 (List.mem_of_getElem? (i := 231) rfl), List.forall_mem_cons.mpr ⟨tb_3 (List.mem_of_getElem? (i := 232) rfl), List.forall_mem_cons.mpr ⟨tb_3 (List.mem_of_getElem? (i := 233) rfl), List.forall_mem_cons.mpr ⟨tb_3 (List.mem_of_getElem? (i := 234) rfl), List.forall_mem_cons.mpr ⟨tb_3 (List.mem_of_getElem? (i := 235) rfl), List.forall_mem_cons.mpr ⟨tb_3 (List.mem_of_getElem? (i := 236) rfl), List.forall_mem_cons.mpr ⟨tb_3 (List.mem_of_getElem? (i := 237) rfl), List.forall_mem_cons.mpr ⟨tb_3 (List.mem_of_getElem? (i := 238) rfl), List.forall_mem_cons.mpr ⟨tb_3 (List.mem_of_getElem? (i := 239) rfl), List.forall_mem_cons.mpr ⟨tb_4 (List.mem_of_getElem? (i := 0) rfl), List.forall_mem_cons.mpr ⟨tb_4 (List.mem_of_getElem? (i := 1) rfl), List.forall_mem_cons.mpr ⟨tb_4 (List.mem_of_getElem? (i := 2) rfl), List.forall_mem_cons.mpr ⟨tb_9 (List.mem_of_getElem? (i := 103) rfl), List.forall_mem_cons.mpr ⟨tb_9 (List.mem_of_getElem? (i := 117) rfl), List.forall_mem_cons.mpr ⟨tb_9 (List.mem_of_getElem? (i := 122) rfl), fun _ h => absurd h List.not_mem_nil⟩⟩⟩⟩⟩⟩⟩⟩⟩⟩⟩⟩⟩⟩⟩⟩⟩⟩⟩⟩⟩⟩⟩⟩⟩⟩⟩⟩⟩⟩⟩⟩⟩⟩⟩⟩⟩⟩⟩⟩⟩⟩⟩⟩⟩⟩⟩⟩⟩⟩⟩⟩⟩⟩⟩⟩⟩⟩⟩⟩⟩⟩⟩⟩⟩⟩⟩⟩⟩
theorem ex_122_124 : ExOK "KeptWell" 122 124 "java/lang/IllegalArgumentException" := ⟨by decide +kernel, by decide +kernel, wd_658, wd_18, memS ex_122_124S (by decide +kernel), by decide +kernel, by decide +kernel⟩
def on_X11_needNumber : Nat := 0xb1bf7c00b7597a00bb0b00a41d1b0800a11c1b
theorem ob_X11_needNumber : OKB cX11_needNumber on_X11_needNumber 19 := ⟨by decide +kernel, by decide +kernel⟩
theorem dX11_needNumber_0 : dc cX11_needNumber 0 1 (.iload_n 1) 1 := o_27 ob_X11_needNumber rfl rfl rfl
theorem dX11_needNumber_1 : dc cX11_needNumber 1 2 (.iload_n 2) 1 := o_28 ob_X11_needNumber rfl rfl rfl
theorem dX11_needNumber_2 : dc cX11_needNumber 2 5 (.if_icmp .lt 8) 3 := o_161 ob_X11_needNumber rfl rfl rfl rfl
theorem dX11_needNumber_5 : dc cX11_needNumber 5 6 (.iload_n 1) 1 := o_27 ob_X11_needNumber rfl rfl rfl
theorem dX11_needNumber_6 : dc cX11_needNumber 6 7 (.iload_n 3) 1 := o_29 ob_X11_needNumber rfl rfl rfl
theorem dX11_needNumber_7 : dc cX11_needNumber 7 10 (.if_icmp .le 11) 3 := o_164 ob_X11_needNumber rfl rfl rfl rfl
theorem dX11_needNumber_10 : dc cX11_needNumber 10 13 (.new 122) 3 := o_187 ob_X11_needNumber rfl rfl rfl rfl
theorem dX11_needNumber_13 : dc cX11_needNumber 13 14 .dup 1 := o_89 ob_X11_needNumber rfl rfl rfl
theorem dX11_needNumber_14 : dc cX11_needNumber 14 17 (.invokespecial 124) 3 := o_183 ob_X11_needNumber rfl rfl rfl rfl
theorem dX11_needNumber_17 : dc cX11_needNumber 17 18 .athrow 1 := o_191 ob_X11_needNumber rfl rfl rfl
theorem dX11_needNumber_18 : dc cX11_needNumber 18 19 .return_ 1 := o_177 ob_X11_needNumber rfl rfl rfl
def F_KW_needNumber (x1 : Int32) (x2 : Int32) (x3 : Int32) (M : Mem) : Option ((String ⊕ Unit) × Mem) :=
  if x1 < x2 then some ((.inl "java/lang/IllegalArgumentException", M)) else if x1 ≤ x3 then some ((.inr (), M)) else some ((.inl "java/lang/IllegalArgumentException", M))
set_option maxRecDepth 100000 in
set_option maxHeartbeats 4000000 in
theorem K_KW_needNumber (l : Launch) (g : GB) (htr : l.stackTraces = false) (x1 : Int32) (x2 : Int32) (x3 : Int32) (M : Mem) (rr : String ⊕ Unit) (MZ : Mem) (h : F_KW_needNumber x1 x2 x3 M = some (rr, MZ)) : CT l g yX11_needNumber (.code yX11_needNumber cX11_needNumber 4 none :: wAll) { frames := 6, cells := 1, slots := 6, locals := 100 } [.ref (g.2.1 0), .int x1, .int x2, .int x3] M (rvU rr) MZ := by
  refine CT.of [(0, .ref (g.2.1 0)), (1, .int x1), (2, .int x2), (3, .int x3)] (by decide +kernel) (Nat.le_of_ble_eq_true rfl) rfl htr ?_
  intro p e s m args below meth c K hr ht
  skip
  obtain ⟨PHI, hPHI, h⟩ : ∃ PHI : (String ⊕ Unit) × Mem → Prop, (∀ a, PHI a → a = (rr, MZ)) ∧ wpO (F_KW_needNumber x1 x2 x3 M) PHI := ⟨fun a => a = (rr, MZ), fun _ h => h, _, h, rfl⟩
  unfold F_KW_needNumber at h
  refine G_iload_n rfl 1 rfl K dX11_needNumber_0 ?_
  refine G_iload_n rfl 2 rfl K dX11_needNumber_1 ?_
  refine G_icmp_lt (tgt := 10) K dX11_needNumber_2 (by decide) (fun hc => ?_) (fun hc => ?_)
  · have h := wpO_t h hc
    cases hPHI _ (wpO_some h)
    exact G_throw K ex_122_124 (fun ls h => h.trans K.1.2.2.1.symm) dX11_needNumber_10 dX11_needNumber_13 dX11_needNumber_14 dX11_needNumber_17 ht (by decide) (Nat.le_of_ble_eq_true rfl) (Nat.le_of_ble_eq_true rfl) (Nat.le_of_ble_eq_true rfl) (by decide) (by decide) ⟨rfl, rfl⟩
  · have h := wpO_f h hc
    refine G_iload_n rfl 1 rfl K dX11_needNumber_5 ?_
    refine G_iload_n rfl 3 rfl K dX11_needNumber_6 ?_
    refine G_icmp_le (tgt := 18) K dX11_needNumber_7 (by decide) (fun hc => ?_) (fun hc => ?_)
    · have h := wpO_t h hc
      cases hPHI _ (wpO_some h)
      exact G_vret K hr dX11_needNumber_18 (Nat.le_of_ble_eq_true rfl) (Nat.le_of_ble_eq_true rfl) ⟨rfl, rfl⟩
    · have h := wpO_f h hc
      cases hPHI _ (wpO_some h)
      exact G_throw K ex_122_124 (fun ls h => h.trans K.1.2.2.1.symm) dX11_needNumber_10 dX11_needNumber_13 dX11_needNumber_14 dX11_needNumber_17 ht (by decide) (Nat.le_of_ble_eq_true rfl) (Nat.le_of_ble_eq_true rfl) (Nat.le_of_ble_eq_true rfl) (by decide) (by decide) ⟨rfl, rfl⟩
theorem yd_X11_needNumber : ydN yX11_needNumber 3 := ⟨by decide, by decide, by decide +kernel⟩
theorem wv_654 : wdV "KeptWell" 98 yX11_needNumber cX11_needNumber 4 none := ⟨wd_654, wd_656, ws_X11_needNumber, wd_1, wd_657⟩
def on_X11_acts : Nat := 0xb16600b51b0a00b42a6200b606051b2a
theorem ob_X11_acts : OKB cX11_acts on_X11_acts 16 := ⟨by decide +kernel, by decide +kernel⟩
theorem dX11_acts_0 : dc cX11_acts 0 1 (.aload_n 0) 1 := o_42 ob_X11_acts rfl rfl rfl
theorem dX11_acts_1 : dc cX11_acts 1 2 (.iload_n 1) 1 := o_27 ob_X11_acts rfl rfl rfl
theorem dX11_acts_2 : dc cX11_acts 2 3 (.iconst 2) 1 := o_5 ob_X11_acts rfl rfl rfl
theorem dX11_acts_3 : dc cX11_acts 3 4 (.iconst 3) 1 := o_6 ob_X11_acts rfl rfl rfl
theorem dX11_acts_4 : dc cX11_acts 4 7 (.invokevirtual 98) 3 := o_182 ob_X11_acts rfl rfl rfl rfl
theorem dX11_acts_7 : dc cX11_acts 7 8 (.aload_n 0) 1 := o_42 ob_X11_acts rfl rfl rfl
theorem dX11_acts_8 : dc cX11_acts 8 11 (.getfield 10) 3 := o_180 ob_X11_acts rfl rfl rfl rfl
theorem dX11_acts_11 : dc cX11_acts 11 12 (.iload_n 1) 1 := o_27 ob_X11_acts rfl rfl rfl
theorem dX11_acts_12 : dc cX11_acts 12 15 (.putfield 102) 3 := o_181 ob_X11_acts rfl rfl rfl rfl
theorem dX11_acts_15 : dc cX11_acts 15 16 .return_ 1 := o_177 ob_X11_acts rfl rfl rfl
def F_KW_acts (x1 : Int32) (M : Mem) : Option ((String ⊕ Unit) × Mem) :=
  xbind (F_KW_needNumber x1 2 3 M) fun _ M1 => some ((.inr (), mSI M1 1 0 x1))
set_option maxRecDepth 100000 in
set_option maxHeartbeats 4000000 in
theorem K_KW_acts (l : Launch) (g : GB) (htr : l.stackTraces = false) (x1 : Int32) (M : Mem) (rr : String ⊕ Unit) (MZ : Mem) (h : F_KW_acts x1 M = some (rr, MZ)) : CT l g yX11_acts (.code yX11_acts cX11_acts 2 none :: wAll) { frames := 7, cells := 1, slots := 6, locals := 123 } [.ref (g.2.1 0), .int x1] M (rvU rr) MZ := by
  refine CT.of [(0, .ref (g.2.1 0)), (1, .int x1)] (by decide +kernel) (Nat.le_of_ble_eq_true rfl) rfl htr ?_
  intro p e s m args below meth c K hr ht
  skip
  obtain ⟨PHI, hPHI, h⟩ : ∃ PHI : (String ⊕ Unit) × Mem → Prop, (∀ a, PHI a → a = (rr, MZ)) ∧ wpO (F_KW_acts x1 M) PHI := ⟨fun a => a = (rr, MZ), fun _ h => h, _, h, rfl⟩
  unfold F_KW_acts at h
  refine G_aload_n rfl 0 rfl K dX11_acts_0 ?_
  refine G_iload_n rfl 1 rfl K dX11_acts_1 ?_
  refine G_iconst (v := 2) rfl K dX11_acts_2 ?_
  refine G_iconst (v := 3) rfl K dX11_acts_3 ?_
  obtain ⟨E1, M1, e1, h⟩ | ⟨r1, M1, e1, h⟩ := wpO_x h
  · cases hPHI _ h
    exact G_callXVt (ci := 11) [.int x1, .int 2, .int 3] [] K dX11_acts_4 wv_654 yd_X11_needNumber (Nat.le_of_ble_eq_true rfl) (sh_0 _ _) rfl (by decide) (by decide) rfl rfl (Nat.le_of_ble_eq_true rfl) (K_KW_needNumber l g htr x1 2 3 M _ _ e1) (GX_out K ht (Nat.le_of_ble_eq_true rfl) (Nat.le_of_ble_eq_true rfl) ⟨rfl, rfl⟩)
  refine G_callXVv (ci := 11) [.int x1, .int 2, .int 3] [] K dX11_acts_4 wv_654 yd_X11_needNumber (Nat.le_of_ble_eq_true rfl) (sh_0 _ _) rfl (by decide) (by decide) rfl rfl (Nat.le_of_ble_eq_true rfl) (K_KW_needNumber l g htr x1 2 3 M _ _ e1) ?_
  refine G_aload_n rfl 0 rfl K dX11_acts_7 ?_
  refine G_get (ci := 11) (k := 0) K rfl in_X11 wd_402 rfl dX11_acts_8 (Nat.le_of_ble_eq_true rfl) (sh_0 _ _) (Nat.le_of_ble_eq_true rfl) rfl ?_
  refine G_iload_n rfl 1 rfl K dX11_acts_11 ?_
  refine G_putI (ci := 10) (k := 0) (ty := .int) K rfl in_X10 tyX10 tyX10_ok nmX10 wd_58 rfl rfl rfl rfl rfl dX11_acts_12 (Nat.le_of_ble_eq_true rfl) (sh_1 _ _) (sh_1 _ _) (Nat.le_of_ble_eq_true rfl) (Nat.le_of_ble_eq_true rfl) rfl ?_
  cases hPHI _ (wpO_some h)
  exact G_vret K hr dX11_acts_15 (Nat.le_of_ble_eq_true rfl) (Nat.le_of_ble_eq_true rfl) ⟨rfl, rfl⟩
theorem ex_340_342S : ∀ w ∈ ([(Jvm.Cond.initialized "java/lang/Throwable"), (Jvm.Cond.initialized "java/lang/Exception"), (Jvm.Cond.initialized "java/lang/RuntimeException"), (Jvm.Cond.initialized "java/lang/IndexOutOfBoundsException"), (Jvm.Cond.instanceMethod ({ cls := "java/lang/Object", name := "<init>", desc := "()V" } : Jvm.MethodName)), (Jvm.Cond.code ({ cls := "java/lang/Object", name := "<init>", desc := "()V" } : Jvm.MethodName) object_method_1_code (1 : Nat) (Option.none : Option Jvm.ClassFile.FieldType)), (Jvm.Cond.declares ({ cls := "java/lang/RuntimeException", name := "<init>", desc := "()V" } : Jvm.MethodName)), (Jvm.Cond.declares ({ cls := "java/lang/RuntimeException", name := "<init>", desc := "(Ljava/lang/String;)V" } : Jvm.MethodName)), (Jvm.Cond.declares ({ cls := "java/lang/Exception", name := "<init>", desc := "()V" } : Jvm.MethodName)), (Jvm.Cond.declares ({ cls := "java/lang/Exception", name := "<init>", desc := "(Ljava/lang/String;)V" } : Jvm.MethodName)), (Jvm.Cond.declares ({ cls := "java/lang/Throwable", name := "<init>", desc := "()V" } : Jvm.MethodName)), (Jvm.Cond.declares ({ cls := "java/lang/Throwable", name := "<init>", desc := "(Ljava/lang/String;)V" } : Jvm.MethodName)), (Jvm.Cond.lays "java/lang/Throwable" "java/lang/Throwable" "cause" "Ljava/lang/Throwable;"), (Jvm.Cond.lays "java/lang/Throwable" "java/lang/Throwable" "stackTrace" "[Ljava/lang/StackTraceElement;"), (Jvm.Cond.lays "java/lang/Throwable" "java/lang/Throwable" "suppressedExceptions" "Ljava/util/List;"), (Jvm.Cond.lays "java/lang/Throwable" "java/lang/Throwable" "detailMessage" "Ljava/lang/String;"), (Jvm.Cond.lays "java/lang/Throwable" "java/lang/Throwable" "backtrace" "Ljava/lang/Object;"), (Jvm.Cond.fieldLink "java/lang/Throwable" (198 : Nat) "java/lang/Throwable" "backtrace" "Ljava/lang/Object;"), (Jvm.Cond.superclass "java/lang/Throwable" "java/lang/Object"), (Jvm.Cond.instanceMethod ({ cls := "java/lang/Throwable", name := "<init>", desc := "()V" } : Jvm.MethodName)), (Jvm.Cond.code ({ cls := "java/lang/Throwable", name := "<init>", desc := "()V" } : Jvm.MethodName) prog_28_method_1_code (1 : Nat) (Option.none : Option Jvm.ClassFile.FieldType)), (Jvm.Cond.methodLink "java/lang/Throwable" (1 : Nat) ({ cls := "java/lang/Object", name := "<init>", desc := "()V" } : Jvm.MethodName)), (Jvm.Cond.fieldLink "java/lang/Throwable" (13 : Nat) "java/lang/Throwable" "UNASSIGNED_STACK" "[Ljava/lang/StackTraceElement;"), (Jvm.Cond.laysStatic "java/lang/Throwable" "UNASSIGNED_STACK" "[Ljava/lang/StackTraceElement;"), (Jvm.Cond.fieldLink "java/lang/Throwable" (20 : Nat) "java/lang/Throwable" "SUPPRESSED_SENTINEL" "Ljava/util/List;"), (Jvm.Cond.laysStatic "java/lang/Throwable" "SUPPRESSED_SENTINEL" "Ljava/util/List;"), (Jvm.Cond.methodLink "java/lang/Throwable" (27 : Nat) ({ cls := "java/lang/Throwable", name := "fillInStackTrace", desc := "()Ljava/lang/Throwable;" } : Jvm.MethodName)), (Jvm.Cond.instanceMethod ({ cls := "java/lang/Throwable", name := "fillInStackTrace", desc := "()Ljava/lang/Throwable;" } : Jvm.MethodName)), (Jvm.Cond.sameMethod "java/lang/Throwable" "java/lang/Throwable" "fillInStackTrace" "()Ljava/lang/Throwable;"), (Jvm.Cond.selects "java/lang/IndexOutOfBoundsException" ({ cls := "java/lang/Throwable", name := "fillInStackTrace", desc := "()Ljava/lang/Throwable;" } : Jvm.MethodName) ({ cls := "java/lang/Throwable", name := "fillInStackTrace", desc := "()Ljava/lang/Throwable;" } : Jvm.MethodName)), (Jvm.Cond.codeSync ({ cls := "java/lang/Throwable", name := "fillInStackTrace", desc := "()Ljava/lang/Throwable;" } : Jvm.MethodName) prog_28_method_18_code (1 : Nat) (Option.some (Jvm.ClassFile.FieldType.object "java/lang/Throwable"))), (Jvm.Cond.methodLink "java/lang/Throwable" (202 : Nat) ({ cls := "java/lang/Throwable", name := "fillInStackTrace", desc := "(I)Ljava/lang/Throwable;" } : Jvm.MethodName)), (Jvm.Cond.privateMethod ({ cls := "java/lang/Throwable", name := "fillInStackTrace", desc := "(I)Ljava/lang/Throwable;" } : Jvm.MethodName)), (Jvm.Cond.instanceMethod ({ cls := "java/lang/Throwable", name := "fillInStackTrace", desc := "(I)Ljava/lang/Throwable;" } : Jvm.MethodName)), (Jvm.Cond.instantiable "java/lang/Throwable" (6 : Nat)), (Jvm.Cond.native ({ cls := "java/lang/Throwable", name := "fillInStackTrace", desc := "(I)Ljava/lang/Throwable;" } : Jvm.MethodName)), (Jvm.Cond.instanceMethod ({ cls := "java/lang/RuntimeException", name := "<init>", desc := "()V" } : Jvm.MethodName)), (Jvm.Cond.code ({ cls := "java/lang/RuntimeException", name := "<init>", desc := "()V" } : Jvm.MethodName) prog_24_method_1_code (1 : Nat) (Option.none : Option Jvm.ClassFile.FieldType)), (Jvm.Cond.methodLink "java/lang/RuntimeException" (1 : Nat) ({ cls := "java/lang/Exception", name := "<init>", desc := "()V" } : Jvm.MethodName)), (Jvm.Cond.instanceMethod ({ cls := "java/lang/Exception", name := "<init>", desc := "()V" } : Jvm.MethodName)), (Jvm.Cond.code ({ cls := "java/lang/Exception", name := "<init>", desc := "()V" } : Jvm.MethodName) prog_18_method_1_code (1 : Nat) (Option.none : Option Jvm.ClassFile.FieldType)), (Jvm.Cond.methodLink "java/lang/Exception" (1 : Nat) ({ cls := "java/lang/Throwable", name := "<init>", desc := "()V" } : Jvm.MethodName)), (Jvm.Cond.fieldLink "java/lang/Throwable" (198 : Nat) "java/lang/Throwable" "backtrace" "Ljava/lang/Object;"), (Jvm.Cond.fieldLink "java/lang/Throwable" (7 : Nat) "java/lang/Throwable" "cause" "Ljava/lang/Throwable;"), (Jvm.Cond.fieldLink "java/lang/Throwable" (17 : Nat) "java/lang/Throwable" "stackTrace" "[Ljava/lang/StackTraceElement;"), (Jvm.Cond.fieldLink "java/lang/Throwable" (24 : Nat) "java/lang/Throwable" "suppressedExceptions" "Ljava/util/List;"), (Jvm.Cond.soleField "java/lang/Throwable" "backtrace"), (Jvm.Cond.soleField "java/lang/Throwable" "detailMessage"), (Jvm.Cond.soleField "java/lang/Throwable" "cause"), (Jvm.Cond.soleField "java/lang/Throwable" "stackTrace"), (Jvm.Cond.soleField "java/lang/Throwable" "depth"), (Jvm.Cond.soleField "java/lang/Throwable" "suppressedExceptions"), (Jvm.Cond.instantiable "java/lang/IndexOutOfBoundsException" (6 : Nat)), (Jvm.Cond.castable "java/lang/IndexOutOfBoundsException" "java/lang/IndexOutOfBoundsException"), (Jvm.Cond.selects "java/lang/IndexOutOfBoundsException" ({ cls := "java/lang/Throwable", name := "fillInStackTrace", desc := "(I)Ljava/lang/Throwable;" } : Jvm.MethodName) ({ cls := "java/lang/Throwable", name := "fillInStackTrace", desc := "(I)Ljava/lang/Throwable;" } : Jvm.MethodName)), (Jvm.Cond.lays "java/lang/IndexOutOfBoundsException" "java/lang/Throwable" "cause" "Ljava/lang/Throwable;"), (Jvm.Cond.lays "java/lang/IndexOutOfBoundsException" "java/lang/Throwable" "stackTrace" "[Ljava/lang/StackTraceElement;"), (Jvm.Cond.lays "java/lang/IndexOutOfBoundsException" "java/lang/Throwable" "suppressedExceptions" "Ljava/util/List;"), (Jvm.Cond.lays "java/lang/IndexOutOfBoundsException" "java/lang/Throwable" "detailMessage" "Ljava/lang/String;"), (Jvm.Cond.lays "java/lang/IndexOutOfBoundsException" "java/lang/Throwable" "backtrace" "Ljava/lang/Object;"), (Jvm.Cond.methodLink "KeptWell" (342 : Nat) ({ cls := "java/lang/IndexOutOfBoundsException", name := "<init>", desc := "()V" } : Jvm.MethodName)), (Jvm.Cond.instanceMethod ({ cls := "java/lang/IndexOutOfBoundsException", name := "<init>", desc := "()V" } : Jvm.MethodName)), (Jvm.Cond.code ({ cls := "java/lang/IndexOutOfBoundsException", name := "<init>", desc := "()V" } : Jvm.MethodName) prog_21_method_1_code (1 : Nat) (Option.none : Option Jvm.ClassFile.FieldType)), (Jvm.Cond.methodLink "java/lang/IndexOutOfBoundsException" (1 : Nat) ({ cls := "java/lang/RuntimeException", name := "<init>", desc := "()V" } : Jvm.MethodName)), (Jvm.Cond.lays "java/lang/IndexOutOfBoundsException" "java/lang/Throwable" "depth" "I"), (Jvm.Cond.superclass "java/lang/IndexOutOfBoundsException" "java/lang/RuntimeException"), (Jvm.Cond.sameMethod "java/lang/Throwable" "java/lang/Throwable" "fillInStackTrace" "(I)Ljava/lang/Throwable;"), (Jvm.Cond.castable "java/lang/IndexOutOfBoundsException" "java/lang/Object"), (Jvm.Cond.castable "java/lang/Throwable" "java/lang/Object")] : List Cond), w ∈ lw_tbl := List.forall_mem_cons.mpr ⟨tb_1 (List.mem_of_getElem? (i := 15) rfl), List.forall_mem_cons.mpr ⟨tb_1 (List.mem_of_getElem? (i := 16) rfl), List.forall_mem_cons.mpr ⟨tb_1 (List.mem_of_getElem? (i := 17) rfl), List.forall_mem_cons.mpr ⟨tb_1 (List.mem_of_getElem? (i := 19) rfl), List.forall_mem_cons.mpr ⟨tb_1 (List.mem_of_getElem? (i := 34) rfl), List.forall_mem_cons.mpr ⟨tb_1 (List.mem_of_getElem? (i := 35) rfl), List.forall_mem_cons.mpr ⟨tb_3 (List.mem_of_getElem? (i := 181) rfl), List.forall_mem_cons.mpr ⟨tb_3 (List.mem_of_getElem? (i := 182) rfl), List.forall_mem_cons.mpr ⟨tb_3 (List.mem_of_getElem? (i := 183) rfl), List.forall_mem_cons.mpr ⟨tb_3 (List.mem_of_getElem? (i := 184) rfl), List.forall_mem_cons.mpr ⟨tb_3 (List.mem_of_getElem? (i := 185) rfl), List.forall_mem_cons.mpr ⟨tb_3 (List.mem_of_getElem? (i := 186) rfl), List.forall_mem_cons.mpr ⟨tb_3 (List.mem_of_getElem? (i := 190) rfl), List.forall_mem_cons.mpr ⟨tb_3 (List.mem_of_getElem? (i := 192) rfl), List.forall_mem_cons.mpr ⟨tb_3 (List.mem_of_getElem? (i := 194) rfl), List.forall_mem_cons.mpr ⟨tb_3 (List.mem_of_getElem? (i := 196) rfl), List.forall_mem_cons.mpr ⟨tb_3 (List.mem_of_getElem? (i := 198) rfl), List.forall_mem_cons.mpr ⟨tb_3 (List.mem_of_getElem? (i := 199) rfl), List.forall_mem_cons.mpr ⟨tb_3 (List.mem_of_getElem? (i := 200) rfl), List.forall_mem_cons.mpr ⟨tb_3 (List.mem_of_getElem? (i := 201) rfl), List.forall_mem_cons.mpr ⟨tb_3 (List.mem_of_getElem? (i := 202) rfl), List.forall_mem_cons.mpr ⟨tb_3 (List.mem_of_getElem? (i := 203) rfl), List.forall_mem_cons.mpr ⟨tb_3 (List.mem_of_getElem? (i := 204) rfl), List.forall_mem_cons.mpr ⟨tb_3 (List.mem_of_getElem? (i := 205) rfl), List.forall_mem_cons.mpr ⟨tb_3 (List.mem_of_getElem? (i := 206) rfl), List.forall_mem_cons.mpr ⟨tb_3 (List.mem_of_getElem? (i := 207) rfl), List.forall_mem_cons.mpr ⟨tb_3 (List.mem_of_getElem? (i := 208) rfl), List.forall_mem_cons.mpr ⟨tb_3 (List.mem_of_getElem? (i := 209) rfl), List.forall_mem_cons.mpr ⟨tb_3 (List.mem_of_getElem? (i := 210) rfl), List.forall_mem_cons.mpr ⟨tb_3 (List.mem_of_getElem? (i := 212) rfl), List.forall_mem_cons.mpr ⟨tb_3 (List.mem_of_getElem? (i := 215) rfl), List.forall_mem_cons.mpr ⟨tb_3 (List.mem_of_getElem? (i := 216) rfl), List.forall_mem_cons.mpr ⟨tb_3 (List.mem_of_getElem? (i := 217) rfl), List.forall_mem_cons.mpr ⟨tb_3 (List.mem_of_getElem? (i := 218) rfl), List.forall_mem_cons.mpr ⟨tb_3 (List.mem_of_getElem? (i := 219) rfl), List.forall_mem_cons.mpr ⟨tb_3 (List.mem_of_getElem? (i := 220) rfl), List.forall_mem_cons.mpr ⟨tb_3 (List.mem_of_getElem? (i := 225) rfl), List.forall_mem_cons.mpr ⟨tb_3 (List.mem_of_getElem? (i := 226) rfl), List.forall_mem_cons.mpr ⟨tb_3 (List.mem_of_getElem? (i := 227) rfl), List.forall_mem_cons.mpr ⟨tb_3 (List.mem_of_getElem? (i := 228) rfl), List.forall_mem_cons.mpr ⟨tb_3 (List.mem_of_getElem? (i := 229) rfl), List.forall_mem_cons.mpr ⟨tb_3 (List.mem_of_getElem? (i := 230) rfl), List.forall_mem_cons.mpr ⟨tb_3 (List.mem_of_getElem? (i := 231) rfl), List.forall_mem_cons.mpr ⟨tb_3 (List.mem_of_getElem? (i := 232) rfl), List.forall_mem_cons.mpr ⟨tb_3 (List.mem_of_getElem? (i := 233) rfl), List.forall_mem_cons.mpr ⟨tb_3 (List.mem_of_getElem? (i := 234) rfl), List.forall_mem_cons.mpr ⟨tb_3 (List.mem_of_getElem? (i := 235) rfl), List.forall_mem_cons.mpr ⟨tb_3 (List.mem_of_getElem? (i := 236) rfl), List.forall_mem_cons.mpr ⟨tb_3 (List.mem_of_getElem? (i := 237) rfl), List.forall_mem_cons.mpr ⟨tb_3 (List.mem_of_getElem? (i := 238) rfl), List.forall_mem_cons.mpr ⟨tb_4 (List.mem_of_getElem? (i := 0) rfl), List.forall_mem_cons.mpr ⟨tb_4 (List.mem_of_getElem? (i := 1) rfl), List.forall_mem_cons.mpr ⟨tb_4 (List.mem_of_getElem? (i := 16) rfl), List.forall_mem_cons.mpr ⟨tb_4 (List.mem_of_getElem? (i := 17) rfl), List.forall_mem_cons.mpr ⟨tb_4 (List.mem_of_getElem? (i := 18) rfl), List.forall_mem_cons.mpr ⟨tb_4 (List.mem_of_getElem? (i := 19) rfl), List.forall_mem_cons.mpr ⟨tb_4 (List.mem_of_getElem? (i := 20) rfl), List.forall_mem_cons.mpr ⟨tb_4 (List.mem_of_getElem? (i := 21) rfl), List.forall_mem_cons.mpr ⟨tb_4 (List.mem_of_getElem? (i := 22) rfl), List.forall_mem_cons.mpr ⟨tb_4 (List.mem_of_getElem? (i := 23) rfl), List.forall_mem_cons.mpr ⟨tb_4 (List.mem_of_getElem? (i := 24) rfl), List.forall_mem_cons.mpr ⟨tb_4 (List.mem_of_getElem? (i := 25) rfl), List.forall_mem_cons.mpr ⟨tb_4 (List.mem_of_getElem? (i := 26) rfl), List.forall_mem_cons.mpr ⟨tb_4 (List.mem_of_getElem? (i := 27) rfl), List.forall_mem_cons.mpr ⟨tb_4 (List.mem_of_getElem? (i := 28) rfl), List.forall_mem_cons.mpr ⟨tb_4 (List.mem_of_getElem? (i := 29) rfl), List.forall_mem_cons.mpr ⟨tb_9 (List.mem_of_getElem? (i := 103) rfl), List.forall_mem_cons.mpr ⟨tb_9 (List.mem_of_getElem? (i := 118) rfl), List.forall_mem_cons.mpr ⟨tb_9 (List.mem_of_getElem? (i := 122) rfl), fun _ h => absurd h List.not_mem_nil⟩⟩⟩⟩⟩⟩⟩⟩⟩⟩⟩⟩⟩⟩⟩⟩⟩⟩⟩⟩⟩⟩⟩⟩⟩⟩⟩⟩⟩⟩⟩⟩⟩⟩⟩⟩⟩⟩⟩⟩⟩⟩⟩⟩⟩⟩⟩⟩⟩⟩⟩⟩⟩⟩⟩⟩⟩⟩⟩⟩⟩⟩⟩⟩⟩⟩⟩⟩⟩
theorem ex_340_342 : ExOK "KeptWell" 340 342 "java/lang/IndexOutOfBoundsException" := ⟨by decide +kernel, by decide +kernel, wd_735, wd_19, memS ex_340_342S (by decide +kernel), by decide +kernel, by decide +kernel⟩
def on_X11_needAct : Nat := 0xb1bf5601b7595401bb0b00a16600b40a00b42a1b0e009b1b
theorem ob_X11_needAct : OKB cX11_needAct on_X11_needAct 24 := ⟨by decide +kernel, by decide +kernel⟩
theorem dX11_needAct_0 : dc cX11_needAct 0 1 (.iload_n 1) 1 := o_27 ob_X11_needAct rfl rfl rfl
theorem dX11_needAct_1 : dc cX11_needAct 1 4 (.ifCond .lt 14) 3 := o_155 ob_X11_needAct rfl rfl rfl rfl
theorem dX11_needAct_4 : dc cX11_needAct 4 5 (.iload_n 1) 1 := o_27 ob_X11_needAct rfl rfl rfl
theorem dX11_needAct_5 : dc cX11_needAct 5 6 (.aload_n 0) 1 := o_42 ob_X11_needAct rfl rfl rfl
theorem dX11_needAct_6 : dc cX11_needAct 6 9 (.getfield 10) 3 := o_180 ob_X11_needAct rfl rfl rfl rfl
theorem dX11_needAct_9 : dc cX11_needAct 9 12 (.getfield 102) 3 := o_180 ob_X11_needAct rfl rfl rfl rfl
theorem dX11_needAct_12 : dc cX11_needAct 12 15 (.if_icmp .lt 11) 3 := o_161 ob_X11_needAct rfl rfl rfl rfl
theorem dX11_needAct_15 : dc cX11_needAct 15 18 (.new 340) 3 := o_187 ob_X11_needAct rfl rfl rfl rfl
theorem dX11_needAct_18 : dc cX11_needAct 18 19 .dup 1 := o_89 ob_X11_needAct rfl rfl rfl
theorem dX11_needAct_19 : dc cX11_needAct 19 22 (.invokespecial 342) 3 := o_183 ob_X11_needAct rfl rfl rfl rfl
theorem dX11_needAct_22 : dc cX11_needAct 22 23 .athrow 1 := o_191 ob_X11_needAct rfl rfl rfl
theorem dX11_needAct_23 : dc cX11_needAct 23 24 .return_ 1 := o_177 ob_X11_needAct rfl rfl rfl
def F_KW_needAct (x1 : Int32) (M : Mem) : Option ((String ⊕ Unit) × Mem) :=
  if x1 < 0 then some ((.inl "java/lang/IndexOutOfBoundsException", M)) else if x1 < (M.1 1 0) then some ((.inr (), M)) else some ((.inl "java/lang/IndexOutOfBoundsException", M))
set_option maxRecDepth 100000 in
set_option maxHeartbeats 4000000 in
theorem K_KW_needAct (l : Launch) (g : GB) (htr : l.stackTraces = false) (x1 : Int32) (M : Mem) (rr : String ⊕ Unit) (MZ : Mem) (h : F_KW_needAct x1 M = some (rr, MZ)) : CT l g yX11_needAct (.code yX11_needAct cX11_needAct 2 none :: wAll) { frames := 6, cells := 1, slots := 6, locals := 100 } [.ref (g.2.1 0), .int x1] M (rvU rr) MZ := by
  refine CT.of [(0, .ref (g.2.1 0)), (1, .int x1)] (by decide +kernel) (Nat.le_of_ble_eq_true rfl) rfl htr ?_
  intro p e s m args below meth c K hr ht
  skip
  obtain ⟨PHI, hPHI, h⟩ : ∃ PHI : (String ⊕ Unit) × Mem → Prop, (∀ a, PHI a → a = (rr, MZ)) ∧ wpO (F_KW_needAct x1 M) PHI := ⟨fun a => a = (rr, MZ), fun _ h => h, _, h, rfl⟩
  unfold F_KW_needAct at h
  refine G_iload_n rfl 1 rfl K dX11_needAct_0 ?_
  refine G_if_lt (tgt := 15) K dX11_needAct_1 (by decide) (fun hc => ?_) (fun hc => ?_)
  · have h := wpO_t h hc
    cases hPHI _ (wpO_some h)
    exact G_throw K ex_340_342 (fun ls h => h.trans K.1.2.2.1.symm) dX11_needAct_15 dX11_needAct_18 dX11_needAct_19 dX11_needAct_22 ht (by decide) (Nat.le_of_ble_eq_true rfl) (Nat.le_of_ble_eq_true rfl) (Nat.le_of_ble_eq_true rfl) (by decide) (by decide) ⟨rfl, rfl⟩
  · have h := wpO_f h hc
    refine G_iload_n rfl 1 rfl K dX11_needAct_4 ?_
    refine G_aload_n rfl 0 rfl K dX11_needAct_5 ?_
    refine G_get (ci := 11) (k := 0) K rfl in_X11 wd_402 rfl dX11_needAct_6 (Nat.le_of_ble_eq_true rfl) (sh_0 _ _) (Nat.le_of_ble_eq_true rfl) rfl ?_
    refine G_get (ci := 10) (k := 0) K rfl in_X10 wd_58 rfl dX11_needAct_9 (Nat.le_of_ble_eq_true rfl) (sh_1 _ _) (Nat.le_of_ble_eq_true rfl) rfl ?_
    refine G_icmp_lt (tgt := 23) K dX11_needAct_12 (by decide) (fun hc => ?_) (fun hc => ?_)
    · have h := wpO_t h hc
      cases hPHI _ (wpO_some h)
      exact G_vret K hr dX11_needAct_23 (Nat.le_of_ble_eq_true rfl) (Nat.le_of_ble_eq_true rfl) ⟨rfl, rfl⟩
    · have h := wpO_f h hc
      cases hPHI _ (wpO_some h)
      exact G_throw K ex_340_342 (fun ls h => h.trans K.1.2.2.1.symm) dX11_needAct_15 dX11_needAct_18 dX11_needAct_19 dX11_needAct_22 ht (by decide) (Nat.le_of_ble_eq_true rfl) (Nat.le_of_ble_eq_true rfl) (Nat.le_of_ble_eq_true rfl) (by decide) (by decide) ⟨rfl, rfl⟩
theorem yd_X11_needAct : ydN yX11_needAct 1 := ⟨by decide, by decide, by decide +kernel⟩
theorem yd_X10_setBrings : ydN yX10_setBrings 4 := ⟨by decide, by decide, by decide +kernel⟩
theorem wv_731 : wdV "KeptWell" 105 yX11_needAct cX11_needAct 2 none := ⟨wd_731, wd_733, ws_X11_needAct, wd_1, wd_734⟩
theorem wv_750 : wdV "KeptWell" 108 yX10_setBrings cX10_setBrings 5 none := ⟨wd_750, wd_751, wd_752, wd_2, wd_753⟩
def on_X11_bring : Nat := 0xb16c00b604151d1c1b0a00b42a6200b663109d1004152a6200b663109d101d2a6900b61c2a6900b61b2a
theorem ob_X11_bring : OKB cX11_bring on_X11_bring 42 := ⟨by decide +kernel, by decide +kernel⟩
theorem dX11_bring_0 : dc cX11_bring 0 1 (.aload_n 0) 1 := o_42 ob_X11_bring rfl rfl rfl
theorem dX11_bring_1 : dc cX11_bring 1 2 (.iload_n 1) 1 := o_27 ob_X11_bring rfl rfl rfl
theorem dX11_bring_2 : dc cX11_bring 2 5 (.invokevirtual 105) 3 := o_182 ob_X11_bring rfl rfl rfl rfl
theorem dX11_bring_5 : dc cX11_bring 5 6 (.aload_n 0) 1 := o_42 ob_X11_bring rfl rfl rfl
theorem dX11_bring_6 : dc cX11_bring 6 7 (.iload_n 2) 1 := o_28 ob_X11_bring rfl rfl rfl
theorem dX11_bring_7 : dc cX11_bring 7 10 (.invokevirtual 105) 3 := o_182 ob_X11_bring rfl rfl rfl rfl
theorem dX11_bring_10 : dc cX11_bring 10 11 (.aload_n 0) 1 := o_42 ob_X11_bring rfl rfl rfl
theorem dX11_bring_11 : dc cX11_bring 11 12 (.iload_n 3) 1 := o_29 ob_X11_bring rfl rfl rfl
theorem dX11_bring_12 : dc cX11_bring 12 14 (.bipush (-99)) 2 := o_16 ob_X11_bring rfl rfl rfl rfl
theorem dX11_bring_14 : dc cX11_bring 14 16 (.bipush 99) 2 := o_16 ob_X11_bring rfl rfl rfl rfl
theorem dX11_bring_16 : dc cX11_bring 16 19 (.invokevirtual 98) 3 := o_182 ob_X11_bring rfl rfl rfl rfl
theorem dX11_bring_19 : dc cX11_bring 19 20 (.aload_n 0) 1 := o_42 ob_X11_bring rfl rfl rfl
theorem dX11_bring_20 : dc cX11_bring 20 22 (.iload 4) 2 := o_21 ob_X11_bring rfl rfl rfl rfl
theorem dX11_bring_22 : dc cX11_bring 22 24 (.bipush (-99)) 2 := o_16 ob_X11_bring rfl rfl rfl rfl
theorem dX11_bring_24 : dc cX11_bring 24 26 (.bipush 99) 2 := o_16 ob_X11_bring rfl rfl rfl rfl
theorem dX11_bring_26 : dc cX11_bring 26 29 (.invokevirtual 98) 3 := o_182 ob_X11_bring rfl rfl rfl rfl
theorem dX11_bring_29 : dc cX11_bring 29 30 (.aload_n 0) 1 := o_42 ob_X11_bring rfl rfl rfl
theorem dX11_bring_30 : dc cX11_bring 30 33 (.getfield 10) 3 := o_180 ob_X11_bring rfl rfl rfl rfl
theorem dX11_bring_33 : dc cX11_bring 33 34 (.iload_n 1) 1 := o_27 ob_X11_bring rfl rfl rfl
theorem dX11_bring_34 : dc cX11_bring 34 35 (.iload_n 2) 1 := o_28 ob_X11_bring rfl rfl rfl
theorem dX11_bring_35 : dc cX11_bring 35 36 (.iload_n 3) 1 := o_29 ob_X11_bring rfl rfl rfl
theorem dX11_bring_36 : dc cX11_bring 36 38 (.iload 4) 2 := o_21 ob_X11_bring rfl rfl rfl rfl
theorem dX11_bring_38 : dc cX11_bring 38 41 (.invokevirtual 108) 3 := o_182 ob_X11_bring rfl rfl rfl rfl
theorem dX11_bring_41 : dc cX11_bring 41 42 .return_ 1 := o_177 ob_X11_bring rfl rfl rfl
def F_KW_bring (x1 : Int32) (x2 : Int32) (x3 : Int32) (x4 : Int32) (M : Mem) : Option ((String ⊕ Unit) × Mem) :=
  xbind (F_KW_needAct x1 M) fun _ M1 => xbind (F_KW_needAct x2 M1) fun _ M2 => xbind (F_KW_needNumber x3 ((-99)) 99 M2) fun _ M3 => xbind (F_KW_needNumber x4 ((-99)) 99 M3) fun _ M4 => (F_Well_setBrings x1 x2 x3 x4 M4).bind fun r5 => some ((.inr (), r5))
set_option maxRecDepth 100000 in
set_option maxHeartbeats 4000000 in
theorem K_KW_bring (l : Launch) (g : GB) (htr : l.stackTraces = false) (x1 : Int32) (x2 : Int32) (x3 : Int32) (x4 : Int32) (M : Mem) (rr : String ⊕ Unit) (MZ : Mem) (h : F_KW_bring x1 x2 x3 x4 M = some (rr, MZ)) : CT l g yX11_bring (.code yX11_bring cX11_bring 5 none :: wAll) { frames := 7, cells := 4, slots := 24, locals := 123 } [.ref (g.2.1 0), .int x1, .int x2, .int x3, .int x4] M (rvU rr) MZ := by
  refine CT.of [(0, .ref (g.2.1 0)), (1, .int x1), (2, .int x2), (3, .int x3), (4, .int x4)] (by decide +kernel) (Nat.le_of_ble_eq_true rfl) rfl htr ?_
  intro p e s m args below meth c K hr ht
  skip
  obtain ⟨PHI, hPHI, h⟩ : ∃ PHI : (String ⊕ Unit) × Mem → Prop, (∀ a, PHI a → a = (rr, MZ)) ∧ wpO (F_KW_bring x1 x2 x3 x4 M) PHI := ⟨fun a => a = (rr, MZ), fun _ h => h, _, h, rfl⟩
  unfold F_KW_bring at h
  refine G_aload_n rfl 0 rfl K dX11_bring_0 ?_
  refine G_iload_n rfl 1 rfl K dX11_bring_1 ?_
  obtain ⟨E1, M1, e1, h⟩ | ⟨r1, M1, e1, h⟩ := wpO_x h
  · cases hPHI _ h
    exact G_callXVt (ci := 11) [.int x1] [] K dX11_bring_2 wv_731 yd_X11_needAct (Nat.le_of_ble_eq_true rfl) (sh_0 _ _) rfl (by decide) (by decide) rfl rfl (Nat.le_of_ble_eq_true rfl) (K_KW_needAct l g htr x1 M _ _ e1) (GX_out K ht (Nat.le_of_ble_eq_true rfl) (Nat.le_of_ble_eq_true rfl) ⟨rfl, rfl⟩)
  refine G_callXVv (ci := 11) [.int x1] [] K dX11_bring_2 wv_731 yd_X11_needAct (Nat.le_of_ble_eq_true rfl) (sh_0 _ _) rfl (by decide) (by decide) rfl rfl (Nat.le_of_ble_eq_true rfl) (K_KW_needAct l g htr x1 M _ _ e1) ?_
  refine G_aload_n rfl 0 rfl K dX11_bring_5 ?_
  refine G_iload_n rfl 2 rfl K dX11_bring_6 ?_
  obtain ⟨E2, M2, e2, h⟩ | ⟨r2, M2, e2, h⟩ := wpO_x h
  · cases hPHI _ h
    exact G_callXVt (ci := 11) [.int x2] [] K dX11_bring_7 wv_731 yd_X11_needAct (Nat.le_of_ble_eq_true rfl) (sh_0 _ _) rfl (by decide) (by decide) rfl rfl (Nat.le_of_ble_eq_true rfl) (K_KW_needAct l g htr x2 M1 _ _ e2) (GX_out K ht (Nat.le_of_ble_eq_true rfl) (Nat.le_of_ble_eq_true rfl) ⟨rfl, rfl⟩)
  refine G_callXVv (ci := 11) [.int x2] [] K dX11_bring_7 wv_731 yd_X11_needAct (Nat.le_of_ble_eq_true rfl) (sh_0 _ _) rfl (by decide) (by decide) rfl rfl (Nat.le_of_ble_eq_true rfl) (K_KW_needAct l g htr x2 M1 _ _ e2) ?_
  refine G_aload_n rfl 0 rfl K dX11_bring_10 ?_
  refine G_iload_n rfl 3 rfl K dX11_bring_11 ?_
  refine G_bipush (v := (-99)) rfl K dX11_bring_12 ?_
  refine G_bipush (v := 99) rfl K dX11_bring_14 ?_
  obtain ⟨E3, M3, e3, h⟩ | ⟨r3, M3, e3, h⟩ := wpO_x h
  · cases hPHI _ h
    exact G_callXVt (ci := 11) [.int x3, .int ((-99)), .int 99] [] K dX11_bring_16 wv_654 yd_X11_needNumber (Nat.le_of_ble_eq_true rfl) (sh_0 _ _) rfl (by decide) (by decide) rfl rfl (Nat.le_of_ble_eq_true rfl) (K_KW_needNumber l g htr x3 ((-99)) 99 M2 _ _ e3) (GX_out K ht (Nat.le_of_ble_eq_true rfl) (Nat.le_of_ble_eq_true rfl) ⟨rfl, rfl⟩)
  refine G_callXVv (ci := 11) [.int x3, .int ((-99)), .int 99] [] K dX11_bring_16 wv_654 yd_X11_needNumber (Nat.le_of_ble_eq_true rfl) (sh_0 _ _) rfl (by decide) (by decide) rfl rfl (Nat.le_of_ble_eq_true rfl) (K_KW_needNumber l g htr x3 ((-99)) 99 M2 _ _ e3) ?_
  refine G_aload_n rfl 0 rfl K dX11_bring_19 ?_
  refine G_iload 4 rfl K dX11_bring_20 ?_
  refine G_bipush (v := (-99)) rfl K dX11_bring_22 ?_
  refine G_bipush (v := 99) rfl K dX11_bring_24 ?_
  obtain ⟨E4, M4, e4, h⟩ | ⟨r4, M4, e4, h⟩ := wpO_x h
  · cases hPHI _ h
    exact G_callXVt (ci := 11) [.int x4, .int ((-99)), .int 99] [] K dX11_bring_26 wv_654 yd_X11_needNumber (Nat.le_of_ble_eq_true rfl) (sh_0 _ _) rfl (by decide) (by decide) rfl rfl (Nat.le_of_ble_eq_true rfl) (K_KW_needNumber l g htr x4 ((-99)) 99 M3 _ _ e4) (GX_out K ht (Nat.le_of_ble_eq_true rfl) (Nat.le_of_ble_eq_true rfl) ⟨rfl, rfl⟩)
  refine G_callXVv (ci := 11) [.int x4, .int ((-99)), .int 99] [] K dX11_bring_26 wv_654 yd_X11_needNumber (Nat.le_of_ble_eq_true rfl) (sh_0 _ _) rfl (by decide) (by decide) rfl rfl (Nat.le_of_ble_eq_true rfl) (K_KW_needNumber l g htr x4 ((-99)) 99 M3 _ _ e4) ?_
  refine G_aload_n rfl 0 rfl K dX11_bring_29 ?_
  refine G_get (ci := 11) (k := 0) K rfl in_X11 wd_402 rfl dX11_bring_30 (Nat.le_of_ble_eq_true rfl) (sh_0 _ _) (Nat.le_of_ble_eq_true rfl) rfl ?_
  refine G_iload_n rfl 1 rfl K dX11_bring_33 ?_
  refine G_iload_n rfl 2 rfl K dX11_bring_34 ?_
  refine G_iload_n rfl 3 rfl K dX11_bring_35 ?_
  refine G_iload 4 rfl K dX11_bring_36 ?_
  obtain ⟨r5, e5, h⟩ := wpO_bind h
  refine G_callVv (ci := 10) [.int x1, .int x2, .int x3, .int x4] [] K dX11_bring_38 wv_750 yd_X10_setBrings (Nat.le_of_ble_eq_true rfl) (sh_1 _ _) rfl (by decide) (by decide) rfl rfl (Nat.le_of_ble_eq_true rfl) (K_Well_setBrings l g htr x1 x2 x3 x4 M4 _ e5) ?_
  cases hPHI _ (wpO_some h)
  exact G_vret K hr dX11_bring_41 (Nat.le_of_ble_eq_true rfl) (Nat.le_of_ble_eq_true rfl) ⟨rfl, rfl⟩
def on_X11_tomorrow : Nat := 0xb17300b51c0a00b42a7000b51b0a00b42a6200b664041c041b2a6200b60910051c2a
theorem ob_X11_tomorrow : OKB cX11_tomorrow on_X11_tomorrow 34 := ⟨by decide +kernel, by decide +kernel⟩
theorem dX11_tomorrow_0 : dc cX11_tomorrow 0 1 (.aload_n 0) 1 := o_42 ob_X11_tomorrow rfl rfl rfl
theorem dX11_tomorrow_1 : dc cX11_tomorrow 1 2 (.iload_n 2) 1 := o_28 ob_X11_tomorrow rfl rfl rfl
theorem dX11_tomorrow_2 : dc cX11_tomorrow 2 3 (.iconst 2) 1 := o_5 ob_X11_tomorrow rfl rfl rfl
theorem dX11_tomorrow_3 : dc cX11_tomorrow 3 5 (.bipush 9) 2 := o_16 ob_X11_tomorrow rfl rfl rfl rfl
theorem dX11_tomorrow_5 : dc cX11_tomorrow 5 8 (.invokevirtual 98) 3 := o_182 ob_X11_tomorrow rfl rfl rfl rfl
theorem dX11_tomorrow_8 : dc cX11_tomorrow 8 9 (.aload_n 0) 1 := o_42 ob_X11_tomorrow rfl rfl rfl
theorem dX11_tomorrow_9 : dc cX11_tomorrow 9 10 (.iload_n 1) 1 := o_27 ob_X11_tomorrow rfl rfl rfl
theorem dX11_tomorrow_10 : dc cX11_tomorrow 10 11 (.iconst 1) 1 := o_4 ob_X11_tomorrow rfl rfl rfl
theorem dX11_tomorrow_11 : dc cX11_tomorrow 11 12 (.iload_n 2) 1 := o_28 ob_X11_tomorrow rfl rfl rfl
theorem dX11_tomorrow_12 : dc cX11_tomorrow 12 13 (.iconst 1) 1 := o_4 ob_X11_tomorrow rfl rfl rfl
theorem dX11_tomorrow_13 : dc cX11_tomorrow 13 14 .isub 1 := o_100 ob_X11_tomorrow rfl rfl rfl
theorem dX11_tomorrow_14 : dc cX11_tomorrow 14 17 (.invokevirtual 98) 3 := o_182 ob_X11_tomorrow rfl rfl rfl rfl
theorem dX11_tomorrow_17 : dc cX11_tomorrow 17 18 (.aload_n 0) 1 := o_42 ob_X11_tomorrow rfl rfl rfl
theorem dX11_tomorrow_18 : dc cX11_tomorrow 18 21 (.getfield 10) 3 := o_180 ob_X11_tomorrow rfl rfl rfl rfl
theorem dX11_tomorrow_21 : dc cX11_tomorrow 21 22 (.iload_n 1) 1 := o_27 ob_X11_tomorrow rfl rfl rfl
theorem dX11_tomorrow_22 : dc cX11_tomorrow 22 25 (.putfield 112) 3 := o_181 ob_X11_tomorrow rfl rfl rfl rfl
theorem dX11_tomorrow_25 : dc cX11_tomorrow 25 26 (.aload_n 0) 1 := o_42 ob_X11_tomorrow rfl rfl rfl
theorem dX11_tomorrow_26 : dc cX11_tomorrow 26 29 (.getfield 10) 3 := o_180 ob_X11_tomorrow rfl rfl rfl rfl
theorem dX11_tomorrow_29 : dc cX11_tomorrow 29 30 (.iload_n 2) 1 := o_28 ob_X11_tomorrow rfl rfl rfl
theorem dX11_tomorrow_30 : dc cX11_tomorrow 30 33 (.putfield 115) 3 := o_181 ob_X11_tomorrow rfl rfl rfl rfl
theorem dX11_tomorrow_33 : dc cX11_tomorrow 33 34 .return_ 1 := o_177 ob_X11_tomorrow rfl rfl rfl
def F_KW_tomorrow (x1 : Int32) (x2 : Int32) (M : Mem) : Option ((String ⊕ Unit) × Mem) :=
  xbind (F_KW_needNumber x2 2 9 M) fun _ M1 => xbind (F_KW_needNumber x1 1 (x2 - 1) M1) fun _ M2 => some ((.inr (), mSI (mSI M2 1 1 x1) 1 2 x2))
set_option maxRecDepth 100000 in
set_option maxHeartbeats 4000000 in
theorem K_KW_tomorrow (l : Launch) (g : GB) (htr : l.stackTraces = false) (x1 : Int32) (x2 : Int32) (M : Mem) (rr : String ⊕ Unit) (MZ : Mem) (h : F_KW_tomorrow x1 x2 M = some (rr, MZ)) : CT l g yX11_tomorrow (.code yX11_tomorrow cX11_tomorrow 3 none :: wAll) { frames := 7, cells := 2, slots := 12, locals := 123 } [.ref (g.2.1 0), .int x1, .int x2] M (rvU rr) MZ := by
  refine CT.of [(0, .ref (g.2.1 0)), (1, .int x1), (2, .int x2)] (by decide +kernel) (Nat.le_of_ble_eq_true rfl) rfl htr ?_
  intro p e s m args below meth c K hr ht
  skip
  obtain ⟨PHI, hPHI, h⟩ : ∃ PHI : (String ⊕ Unit) × Mem → Prop, (∀ a, PHI a → a = (rr, MZ)) ∧ wpO (F_KW_tomorrow x1 x2 M) PHI := ⟨fun a => a = (rr, MZ), fun _ h => h, _, h, rfl⟩
  unfold F_KW_tomorrow at h
  refine G_aload_n rfl 0 rfl K dX11_tomorrow_0 ?_
  refine G_iload_n rfl 2 rfl K dX11_tomorrow_1 ?_
  refine G_iconst (v := 2) rfl K dX11_tomorrow_2 ?_
  refine G_bipush (v := 9) rfl K dX11_tomorrow_3 ?_
  obtain ⟨E1, M1, e1, h⟩ | ⟨r1, M1, e1, h⟩ := wpO_x h
  · cases hPHI _ h
    exact G_callXVt (ci := 11) [.int x2, .int 2, .int 9] [] K dX11_tomorrow_5 wv_654 yd_X11_needNumber (Nat.le_of_ble_eq_true rfl) (sh_0 _ _) rfl (by decide) (by decide) rfl rfl (Nat.le_of_ble_eq_true rfl) (K_KW_needNumber l g htr x2 2 9 M _ _ e1) (GX_out K ht (Nat.le_of_ble_eq_true rfl) (Nat.le_of_ble_eq_true rfl) ⟨rfl, rfl⟩)
  refine G_callXVv (ci := 11) [.int x2, .int 2, .int 9] [] K dX11_tomorrow_5 wv_654 yd_X11_needNumber (Nat.le_of_ble_eq_true rfl) (sh_0 _ _) rfl (by decide) (by decide) rfl rfl (Nat.le_of_ble_eq_true rfl) (K_KW_needNumber l g htr x2 2 9 M _ _ e1) ?_
  refine G_aload_n rfl 0 rfl K dX11_tomorrow_8 ?_
  refine G_iload_n rfl 1 rfl K dX11_tomorrow_9 ?_
  refine G_iconst (v := 1) rfl K dX11_tomorrow_10 ?_
  refine G_iload_n rfl 2 rfl K dX11_tomorrow_11 ?_
  refine G_iconst (v := 1) rfl K dX11_tomorrow_12 ?_
  refine G_isub K dX11_tomorrow_13 ?_
  obtain ⟨E2, M2, e2, h⟩ | ⟨r2, M2, e2, h⟩ := wpO_x h
  · cases hPHI _ h
    exact G_callXVt (ci := 11) [.int x1, .int 1, .int (x2 - 1)] [] K dX11_tomorrow_14 wv_654 yd_X11_needNumber (Nat.le_of_ble_eq_true rfl) (sh_0 _ _) rfl (by decide) (by decide) rfl rfl (Nat.le_of_ble_eq_true rfl) (K_KW_needNumber l g htr x1 1 (x2 - 1) M1 _ _ e2) (GX_out K ht (Nat.le_of_ble_eq_true rfl) (Nat.le_of_ble_eq_true rfl) ⟨rfl, rfl⟩)
  refine G_callXVv (ci := 11) [.int x1, .int 1, .int (x2 - 1)] [] K dX11_tomorrow_14 wv_654 yd_X11_needNumber (Nat.le_of_ble_eq_true rfl) (sh_0 _ _) rfl (by decide) (by decide) rfl rfl (Nat.le_of_ble_eq_true rfl) (K_KW_needNumber l g htr x1 1 (x2 - 1) M1 _ _ e2) ?_
  refine G_aload_n rfl 0 rfl K dX11_tomorrow_17 ?_
  refine G_get (ci := 11) (k := 0) K rfl in_X11 wd_402 rfl dX11_tomorrow_18 (Nat.le_of_ble_eq_true rfl) (sh_0 _ _) (Nat.le_of_ble_eq_true rfl) rfl ?_
  refine G_iload_n rfl 1 rfl K dX11_tomorrow_21 ?_
  refine G_putI (ci := 10) (k := 1) (ty := .int) K rfl in_X10 tyX10 tyX10_ok nmX10 wd_64 rfl rfl rfl rfl rfl dX11_tomorrow_22 (Nat.le_of_ble_eq_true rfl) (sh_1 _ _) (sh_1 _ _) (Nat.le_of_ble_eq_true rfl) (Nat.le_of_ble_eq_true rfl) rfl ?_
  refine G_aload_n rfl 0 rfl K dX11_tomorrow_25 ?_
  refine G_get (ci := 11) (k := 0) K rfl in_X11 wd_402 rfl dX11_tomorrow_26 (Nat.le_of_ble_eq_true rfl) (sh_0 _ _) (Nat.le_of_ble_eq_true rfl) rfl ?_
  refine G_iload_n rfl 2 rfl K dX11_tomorrow_29 ?_
  refine G_putI (ci := 10) (k := 2) (ty := .int) K rfl in_X10 tyX10 tyX10_ok nmX10 wd_70 rfl rfl rfl rfl rfl dX11_tomorrow_30 (Nat.le_of_ble_eq_true rfl) (sh_1 _ _) (sh_1 _ _) (Nat.le_of_ble_eq_true rfl) (Nat.le_of_ble_eq_true rfl) rfl ?_
  cases hPHI _ (wpO_some h)
  exact G_vret K hr dX11_tomorrow_33 (Nat.le_of_ble_eq_true rfl) (Nat.le_of_ble_eq_true rfl) ⟨rfl, rfl⟩
theorem yd_X10_putWay : ydN yX10_putWay 2 := ⟨by decide, by decide, by decide +kernel⟩
theorem yd_X8_readWay : ydN yX8_readWay 0 := ⟨by decide, by decide, by decide +kernel⟩
theorem wv_770 : wdV "KeptWell" 118 yX8_readWay cX8_readWay 3 (some .int) := ⟨wd_770, wd_771, wd_772, wd_5, wd_773⟩
theorem wv_885 : wdV "KeptWell" 135 yX10_putWay cX10_putWay 4 none := ⟨wd_885, wd_886, wd_887, wd_2, wd_888⟩
theorem ex_128_130S : ∀ w ∈ ([(Jvm.Cond.initialized "java/lang/Throwable"), (Jvm.Cond.initialized "java/lang/Exception"), (Jvm.Cond.initialized "java/lang/RuntimeException"), (Jvm.Cond.initialized "java/lang/UnsupportedOperationException"), (Jvm.Cond.instanceMethod ({ cls := "java/lang/Object", name := "<init>", desc := "()V" } : Jvm.MethodName)), (Jvm.Cond.code ({ cls := "java/lang/Object", name := "<init>", desc := "()V" } : Jvm.MethodName) object_method_1_code (1 : Nat) (Option.none : Option Jvm.ClassFile.FieldType)), (Jvm.Cond.declares ({ cls := "java/lang/RuntimeException", name := "<init>", desc := "()V" } : Jvm.MethodName)), (Jvm.Cond.declares ({ cls := "java/lang/RuntimeException", name := "<init>", desc := "(Ljava/lang/String;)V" } : Jvm.MethodName)), (Jvm.Cond.declares ({ cls := "java/lang/Exception", name := "<init>", desc := "()V" } : Jvm.MethodName)), (Jvm.Cond.declares ({ cls := "java/lang/Exception", name := "<init>", desc := "(Ljava/lang/String;)V" } : Jvm.MethodName)), (Jvm.Cond.declares ({ cls := "java/lang/Throwable", name := "<init>", desc := "()V" } : Jvm.MethodName)), (Jvm.Cond.declares ({ cls := "java/lang/Throwable", name := "<init>", desc := "(Ljava/lang/String;)V" } : Jvm.MethodName)), (Jvm.Cond.lays "java/lang/Throwable" "java/lang/Throwable" "cause" "Ljava/lang/Throwable;"), (Jvm.Cond.lays "java/lang/Throwable" "java/lang/Throwable" "stackTrace" "[Ljava/lang/StackTraceElement;"), (Jvm.Cond.lays "java/lang/Throwable" "java/lang/Throwable" "suppressedExceptions" "Ljava/util/List;"), (Jvm.Cond.lays "java/lang/Throwable" "java/lang/Throwable" "detailMessage" "Ljava/lang/String;"), (Jvm.Cond.lays "java/lang/Throwable" "java/lang/Throwable" "backtrace" "Ljava/lang/Object;"), (Jvm.Cond.fieldLink "java/lang/Throwable" (198 : Nat) "java/lang/Throwable" "backtrace" "Ljava/lang/Object;"), (Jvm.Cond.superclass "java/lang/Throwable" "java/lang/Object"), (Jvm.Cond.instanceMethod ({ cls := "java/lang/Throwable", name := "<init>", desc := "()V" } : Jvm.MethodName)), (Jvm.Cond.code ({ cls := "java/lang/Throwable", name := "<init>", desc := "()V" } : Jvm.MethodName) prog_28_method_1_code (1 : Nat) (Option.none : Option Jvm.ClassFile.FieldType)), (Jvm.Cond.methodLink "java/lang/Throwable" (1 : Nat) ({ cls := "java/lang/Object", name := "<init>", desc := "()V" } : Jvm.MethodName)), (Jvm.Cond.fieldLink "java/lang/Throwable" (13 : Nat) "java/lang/Throwable" "UNASSIGNED_STACK" "[Ljava/lang/StackTraceElement;"), (Jvm.Cond.laysStatic "java/lang/Throwable" "UNASSIGNED_STACK" "[Ljava/lang/StackTraceElement;"), (Jvm.Cond.fieldLink "java/lang/Throwable" (20 : Nat) "java/lang/Throwable" "SUPPRESSED_SENTINEL" "Ljava/util/List;"), (Jvm.Cond.laysStatic "java/lang/Throwable" "SUPPRESSED_SENTINEL" "Ljava/util/List;"), (Jvm.Cond.methodLink "java/lang/Throwable" (27 : Nat) ({ cls := "java/lang/Throwable", name := "fillInStackTrace", desc := "()Ljava/lang/Throwable;" } : Jvm.MethodName)), (Jvm.Cond.instanceMethod ({ cls := "java/lang/Throwable", name := "fillInStackTrace", desc := "()Ljava/lang/Throwable;" } : Jvm.MethodName)), (Jvm.Cond.sameMethod "java/lang/Throwable" "java/lang/Throwable" "fillInStackTrace" "()Ljava/lang/Throwable;"), (Jvm.Cond.selects "java/lang/UnsupportedOperationException" ({ cls := "java/lang/Throwable", name := "fillInStackTrace", desc := "()Ljava/lang/Throwable;" } : Jvm.MethodName) ({ cls := "java/lang/Throwable", name := "fillInStackTrace", desc := "()Ljava/lang/Throwable;" } : Jvm.MethodName)), (Jvm.Cond.codeSync ({ cls := "java/lang/Throwable", name := "fillInStackTrace", desc := "()Ljava/lang/Throwable;" } : Jvm.MethodName) prog_28_method_18_code (1 : Nat) (Option.some (Jvm.ClassFile.FieldType.object "java/lang/Throwable"))), (Jvm.Cond.methodLink "java/lang/Throwable" (202 : Nat) ({ cls := "java/lang/Throwable", name := "fillInStackTrace", desc := "(I)Ljava/lang/Throwable;" } : Jvm.MethodName)), (Jvm.Cond.privateMethod ({ cls := "java/lang/Throwable", name := "fillInStackTrace", desc := "(I)Ljava/lang/Throwable;" } : Jvm.MethodName)), (Jvm.Cond.instanceMethod ({ cls := "java/lang/Throwable", name := "fillInStackTrace", desc := "(I)Ljava/lang/Throwable;" } : Jvm.MethodName)), (Jvm.Cond.instantiable "java/lang/Throwable" (6 : Nat)), (Jvm.Cond.native ({ cls := "java/lang/Throwable", name := "fillInStackTrace", desc := "(I)Ljava/lang/Throwable;" } : Jvm.MethodName)), (Jvm.Cond.instanceMethod ({ cls := "java/lang/RuntimeException", name := "<init>", desc := "()V" } : Jvm.MethodName)), (Jvm.Cond.code ({ cls := "java/lang/RuntimeException", name := "<init>", desc := "()V" } : Jvm.MethodName) prog_24_method_1_code (1 : Nat) (Option.none : Option Jvm.ClassFile.FieldType)), (Jvm.Cond.methodLink "java/lang/RuntimeException" (1 : Nat) ({ cls := "java/lang/Exception", name := "<init>", desc := "()V" } : Jvm.MethodName)), (Jvm.Cond.instanceMethod ({ cls := "java/lang/Exception", name := "<init>", desc := "()V" } : Jvm.MethodName)), (Jvm.Cond.code ({ cls := "java/lang/Exception", name := "<init>", desc := "()V" } : Jvm.MethodName) prog_18_method_1_code (1 : Nat) (Option.none : Option Jvm.ClassFile.FieldType)), (Jvm.Cond.methodLink "java/lang/Exception" (1 : Nat) ({ cls := "java/lang/Throwable", name := "<init>", desc := "()V" } : Jvm.MethodName)), (Jvm.Cond.fieldLink "java/lang/Throwable" (198 : Nat) "java/lang/Throwable" "backtrace" "Ljava/lang/Object;"), (Jvm.Cond.fieldLink "java/lang/Throwable" (7 : Nat) "java/lang/Throwable" "cause" "Ljava/lang/Throwable;"), (Jvm.Cond.fieldLink "java/lang/Throwable" (17 : Nat) "java/lang/Throwable" "stackTrace" "[Ljava/lang/StackTraceElement;"), (Jvm.Cond.fieldLink "java/lang/Throwable" (24 : Nat) "java/lang/Throwable" "suppressedExceptions" "Ljava/util/List;"), (Jvm.Cond.soleField "java/lang/Throwable" "backtrace"), (Jvm.Cond.soleField "java/lang/Throwable" "detailMessage"), (Jvm.Cond.soleField "java/lang/Throwable" "cause"), (Jvm.Cond.soleField "java/lang/Throwable" "stackTrace"), (Jvm.Cond.soleField "java/lang/Throwable" "depth"), (Jvm.Cond.soleField "java/lang/Throwable" "suppressedExceptions"), (Jvm.Cond.instantiable "java/lang/UnsupportedOperationException" (6 : Nat)), (Jvm.Cond.castable "java/lang/UnsupportedOperationException" "java/lang/UnsupportedOperationException"), (Jvm.Cond.selects "java/lang/UnsupportedOperationException" ({ cls := "java/lang/Throwable", name := "fillInStackTrace", desc := "(I)Ljava/lang/Throwable;" } : Jvm.MethodName) ({ cls := "java/lang/Throwable", name := "fillInStackTrace", desc := "(I)Ljava/lang/Throwable;" } : Jvm.MethodName)), (Jvm.Cond.lays "java/lang/UnsupportedOperationException" "java/lang/Throwable" "cause" "Ljava/lang/Throwable;"), (Jvm.Cond.lays "java/lang/UnsupportedOperationException" "java/lang/Throwable" "stackTrace" "[Ljava/lang/StackTraceElement;"), (Jvm.Cond.lays "java/lang/UnsupportedOperationException" "java/lang/Throwable" "suppressedExceptions" "Ljava/util/List;"), (Jvm.Cond.lays "java/lang/UnsupportedOperationException" "java/lang/Throwable" "detailMessage" "Ljava/lang/String;"), (Jvm.Cond.lays "java/lang/UnsupportedOperationException" "java/lang/Throwable" "backtrace" "Ljava/lang/Object;"), (Jvm.Cond.methodLink "KeptWell" (130 : Nat) ({ cls := "java/lang/UnsupportedOperationException", name := "<init>", desc := "()V" } : Jvm.MethodName)), (Jvm.Cond.instanceMethod ({ cls := "java/lang/UnsupportedOperationException", name := "<init>", desc := "()V" } : Jvm.MethodName)), (Jvm.Cond.code ({ cls := "java/lang/UnsupportedOperationException", name := "<init>", desc := "()V" } : Jvm.MethodName) prog_29_method_1_code (1 : Nat) (Option.none : Option Jvm.ClassFile.FieldType)), (Jvm.Cond.methodLink "java/lang/UnsupportedOperationException" (1 : Nat) ({ cls := "java/lang/RuntimeException", name := "<init>", desc := "()V" } : Jvm.MethodName)), (Jvm.Cond.lays "java/lang/UnsupportedOperationException" "java/lang/Throwable" "depth" "I"), (Jvm.Cond.superclass "java/lang/UnsupportedOperationException" "java/lang/RuntimeException"), (Jvm.Cond.sameMethod "java/lang/Throwable" "java/lang/Throwable" "fillInStackTrace" "(I)Ljava/lang/Throwable;"), (Jvm.Cond.castable "java/lang/UnsupportedOperationException" "java/lang/Object"), (Jvm.Cond.castable "java/lang/Throwable" "java/lang/Object")] : List Cond), w ∈ lw_tbl := List.forall_mem_cons.mpr ⟨tb_1 (List.mem_of_getElem? (i := 15) rfl), List.forall_mem_cons.mpr ⟨tb_1 (List.mem_of_getElem? (i := 16) rfl), List.forall_mem_cons.mpr ⟨tb_1 (List.mem_of_getElem? (i := 17) rfl), List.forall_mem_cons.mpr ⟨tb_1 (List.mem_of_getElem? (i := 24) rfl), List.forall_mem_cons.mpr ⟨tb_1 (List.mem_of_getElem? (i := 34) rfl), List.forall_mem_cons.mpr ⟨tb_1 (List.mem_of_getElem? (i := 35) rfl), List.forall_mem_cons.mpr ⟨tb_3 (List.mem_of_getElem? (i := 181) rfl), List.forall_mem_cons.mpr ⟨tb_3 (List.mem_of_getElem? (i := 182) rfl), List.forall_mem_cons.mpr ⟨tb_3 (List.mem_of_getElem? (i := 183) rfl), List.forall_mem_cons.mpr ⟨tb_3 (List.mem_of_getElem? (i := 184) rfl), List.forall_mem_cons.mpr ⟨tb_3 (List.mem_of_getElem? (i := 185) rfl), List.forall_mem_cons.mpr ⟨tb_3 (List.mem_of_getElem? (i := 186) rfl), List.forall_mem_cons.mpr ⟨tb_3 (List.mem_of_getElem? (i := 190) rfl), List.forall_mem_cons.mpr ⟨tb_3 (List.mem_of_getElem? (i := 192) rfl), List.forall_mem_cons.mpr ⟨tb_3 (List.mem_of_getElem? (i := 194) rfl), List.forall_mem_cons.mpr ⟨tb_3 (List.mem_of_getElem? (i := 196) rfl), List.forall_mem_cons.mpr ⟨tb_3 (List.mem_of_getElem? (i := 198) rfl), List.forall_mem_cons.mpr ⟨tb_3 (List.mem_of_getElem? (i := 199) rfl), List.forall_mem_cons.mpr ⟨tb_3 (List.mem_of_getElem? (i := 200) rfl), List.forall_mem_cons.mpr ⟨tb_3 (List.mem_of_getElem? (i := 201) rfl), List.forall_mem_cons.mpr ⟨tb_3 (List.mem_of_getElem? (i := 202) rfl), List.forall_mem_cons.mpr ⟨tb_3 (List.mem_of_getElem? (i := 203) rfl), List.forall_mem_cons.mpr ⟨tb_3 (List.mem_of_getElem? (i := 204) rfl), List.forall_mem_cons.mpr ⟨tb_3 (List.mem_of_getElem? (i := 205) rfl), List.forall_mem_cons.mpr ⟨tb_3 (List.mem_of_getElem? (i := 206) rfl), List.forall_mem_cons.mpr ⟨tb_3 (List.mem_of_getElem? (i := 207) rfl), List.forall_mem_cons.mpr ⟨tb_3 (List.mem_of_getElem? (i := 208) rfl), List.forall_mem_cons.mpr ⟨tb_3 (List.mem_of_getElem? (i := 209) rfl), List.forall_mem_cons.mpr ⟨tb_3 (List.mem_of_getElem? (i := 210) rfl), List.forall_mem_cons.mpr ⟨tb_3 (List.mem_of_getElem? (i := 213) rfl), List.forall_mem_cons.mpr ⟨tb_3 (List.mem_of_getElem? (i := 215) rfl), List.forall_mem_cons.mpr ⟨tb_3 (List.mem_of_getElem? (i := 216) rfl), List.forall_mem_cons.mpr ⟨tb_3 (List.mem_of_getElem? (i := 217) rfl), List.forall_mem_cons.mpr ⟨tb_3 (List.mem_of_getElem? (i := 218) rfl), List.forall_mem_cons.mpr ⟨tb_3 (List.mem_of_getElem? (i := 219) rfl), List.forall_mem_cons.mpr ⟨tb_3 (List.mem_of_getElem? (i := 220) rfl), List.forall_mem_cons.mpr ⟨tb_3 (List.mem_of_getElem? (i := 225) rfl), List.forall_mem_cons.mpr ⟨tb_3 (List.mem_of_getElem? (i := 226) rfl), List.forall_mem_cons.mpr ⟨tb_3 (List.mem_of_getElem? (i := 227) rfl), List.forall_mem_cons.mpr ⟨tb_3 (List.mem_of_getElem? (i := 228) rfl), List.forall_mem_cons.mpr ⟨tb_3 (List.mem_of_getElem? (i := 229) rfl), List.forall_mem_cons.mpr ⟨tb_3 (List.mem_of_getElem? (i := 230) rfl), List.forall_mem_cons.mpr ⟨tb_3 (List.mem_of_getElem? (i := 231) rfl), List.forall_mem_cons.mpr ⟨tb_3 (List.mem_of_getElem? (i := 232) rfl), List.forall_mem_cons.mpr ⟨tb_3 (List.mem_of_getElem? (i := 233) rfl), List.forall_mem_cons.mpr ⟨tb_3 (List.mem_of_getElem? (i := 234) rfl), List.forall_mem_cons.mpr ⟨tb_3 (List.mem_of_getElem? (i := 235) rfl), List.forall_mem_cons.mpr ⟨tb_3 (List.mem_of_getElem? (i := 236) rfl), List.forall_mem_cons.mpr ⟨tb_3 (List.mem_of_getElem? (i := 237) rfl), List.forall_mem_cons.mpr ⟨tb_3 (List.mem_of_getElem? (i := 238) rfl), List.forall_mem_cons.mpr ⟨tb_4 (List.mem_of_getElem? (i := 0) rfl), List.forall_mem_cons.mpr ⟨tb_4 (List.mem_of_getElem? (i := 1) rfl), List.forall_mem_cons.mpr ⟨tb_4 (List.mem_of_getElem? (i := 150) rfl), List.forall_mem_cons.mpr ⟨tb_4 (List.mem_of_getElem? (i := 151) rfl), List.forall_mem_cons.mpr ⟨tb_4 (List.mem_of_getElem? (i := 152) rfl), List.forall_mem_cons.mpr ⟨tb_4 (List.mem_of_getElem? (i := 153) rfl), List.forall_mem_cons.mpr ⟨tb_4 (List.mem_of_getElem? (i := 154) rfl), List.forall_mem_cons.mpr ⟨tb_4 (List.mem_of_getElem? (i := 155) rfl), List.forall_mem_cons.mpr ⟨tb_4 (List.mem_of_getElem? (i := 156) rfl), List.forall_mem_cons.mpr ⟨tb_4 (List.mem_of_getElem? (i := 157) rfl), List.forall_mem_cons.mpr ⟨tb_4 (List.mem_of_getElem? (i := 158) rfl), List.forall_mem_cons.mpr ⟨tb_4 (List.mem_of_getElem? (i := 159) rfl), List.forall_mem_cons.mpr ⟨tb_4 (List.mem_of_getElem? (i := 160) rfl), List.forall_mem_cons.mpr ⟨tb_4 (List.mem_of_getElem? (i := 161) rfl), List.forall_mem_cons.mpr ⟨tb_4 (List.mem_of_getElem? (i := 162) rfl), List.forall_mem_cons.mpr ⟨tb_4 (List.mem_of_getElem? (i := 163) rfl), List.forall_mem_cons.mpr ⟨tb_9 (List.mem_of_getElem? (i := 103) rfl), List.forall_mem_cons.mpr ⟨tb_9 (List.mem_of_getElem? (i := 119) rfl), List.forall_mem_cons.mpr ⟨tb_9 (List.mem_of_getElem? (i := 122) rfl), fun _ h => absurd h List.not_mem_nil⟩⟩⟩⟩⟩⟩⟩⟩⟩⟩⟩⟩⟩⟩⟩⟩⟩⟩⟩⟩⟩⟩⟩⟩⟩⟩⟩⟩⟩⟩⟩⟩⟩⟩⟩⟩⟩⟩⟩⟩⟩⟩⟩⟩⟩⟩⟩⟩⟩⟩⟩⟩⟩⟩⟩⟩⟩⟩⟩⟩⟩⟩⟩⟩⟩⟩⟩⟩⟩
theorem ex_128_130 : ExOK "KeptWell" 128 130 "java/lang/UnsupportedOperationException" := ⟨by decide +kernel, by decide +kernel, wd_869, wd_24, memS ex_128_130S (by decide +kernel), by decide +kernel, by decide +kernel⟩
def on_X11_way : Nat := 0xac64047d00b40a00b42a7d00b560047d00b4590a00b42a8700b68300b41a00b42a7d00b40a00b42a0a00b42abf8200b7598000bb0b00a108107d00b40a00b42abf7c00b7597a00bb0b009f021e00b42a5f00b5031a00b42a1e00b57600b61a00b42a2a
theorem ob_X11_way : OKB cX11_way on_X11_way 99 := ⟨by decide +kernel, by decide +kernel⟩
theorem dX11_way_0 : dc cX11_way 0 1 (.aload_n 0) 1 := o_42 ob_X11_way rfl rfl rfl
theorem dX11_way_1 : dc cX11_way 1 2 (.aload_n 0) 1 := o_42 ob_X11_way rfl rfl rfl
theorem dX11_way_2 : dc cX11_way 2 5 (.getfield 26) 3 := o_180 ob_X11_way rfl rfl rfl rfl
theorem dX11_way_5 : dc cX11_way 5 8 (.invokevirtual 118) 3 := o_182 ob_X11_way rfl rfl rfl rfl
theorem dX11_way_8 : dc cX11_way 8 11 (.putfield 30) 3 := o_181 ob_X11_way rfl rfl rfl rfl
theorem dX11_way_11 : dc cX11_way 11 12 (.aload_n 0) 1 := o_42 ob_X11_way rfl rfl rfl
theorem dX11_way_12 : dc cX11_way 12 15 (.getfield 26) 3 := o_180 ob_X11_way rfl rfl rfl rfl
theorem dX11_way_15 : dc cX11_way 15 16 (.iconst 0) 1 := o_3 ob_X11_way rfl rfl rfl
theorem dX11_way_16 : dc cX11_way 16 19 (.putfield 95) 3 := o_181 ob_X11_way rfl rfl rfl rfl
theorem dX11_way_19 : dc cX11_way 19 20 (.aload_n 0) 1 := o_42 ob_X11_way rfl rfl rfl
theorem dX11_way_20 : dc cX11_way 20 23 (.getfield 30) 3 := o_180 ob_X11_way rfl rfl rfl rfl
theorem dX11_way_23 : dc cX11_way 23 24 (.iconst (-1)) 1 := o_2 ob_X11_way rfl rfl rfl
theorem dX11_way_24 : dc cX11_way 24 27 (.if_icmp .eq 11) 3 := o_159 ob_X11_way rfl rfl rfl rfl
theorem dX11_way_27 : dc cX11_way 27 30 (.new 122) 3 := o_187 ob_X11_way rfl rfl rfl rfl
theorem dX11_way_30 : dc cX11_way 30 31 .dup 1 := o_89 ob_X11_way rfl rfl rfl
theorem dX11_way_31 : dc cX11_way 31 34 (.invokespecial 124) 3 := o_183 ob_X11_way rfl rfl rfl rfl
theorem dX11_way_34 : dc cX11_way 34 35 .athrow 1 := o_191 ob_X11_way rfl rfl rfl
theorem dX11_way_35 : dc cX11_way 35 36 (.aload_n 0) 1 := o_42 ob_X11_way rfl rfl rfl
theorem dX11_way_36 : dc cX11_way 36 39 (.getfield 10) 3 := o_180 ob_X11_way rfl rfl rfl rfl
theorem dX11_way_39 : dc cX11_way 39 42 (.getfield 125) 3 := o_180 ob_X11_way rfl rfl rfl rfl
theorem dX11_way_42 : dc cX11_way 42 44 (.bipush 8) 2 := o_16 ob_X11_way rfl rfl rfl rfl
theorem dX11_way_44 : dc cX11_way 44 47 (.if_icmp .lt 11) 3 := o_161 ob_X11_way rfl rfl rfl rfl
theorem dX11_way_47 : dc cX11_way 47 50 (.new 128) 3 := o_187 ob_X11_way rfl rfl rfl rfl
theorem dX11_way_50 : dc cX11_way 50 51 .dup 1 := o_89 ob_X11_way rfl rfl rfl
theorem dX11_way_51 : dc cX11_way 51 54 (.invokespecial 130) 3 := o_183 ob_X11_way rfl rfl rfl rfl
theorem dX11_way_54 : dc cX11_way 54 55 .athrow 1 := o_191 ob_X11_way rfl rfl rfl
theorem dX11_way_55 : dc cX11_way 55 56 (.aload_n 0) 1 := o_42 ob_X11_way rfl rfl rfl
theorem dX11_way_56 : dc cX11_way 56 59 (.getfield 10) 3 := o_180 ob_X11_way rfl rfl rfl rfl
theorem dX11_way_59 : dc cX11_way 59 60 (.aload_n 0) 1 := o_42 ob_X11_way rfl rfl rfl
theorem dX11_way_60 : dc cX11_way 60 63 (.getfield 10) 3 := o_180 ob_X11_way rfl rfl rfl rfl
theorem dX11_way_63 : dc cX11_way 63 66 (.getfield 125) 3 := o_180 ob_X11_way rfl rfl rfl rfl
theorem dX11_way_66 : dc cX11_way 66 67 (.aload_n 0) 1 := o_42 ob_X11_way rfl rfl rfl
theorem dX11_way_67 : dc cX11_way 67 70 (.getfield 26) 3 := o_180 ob_X11_way rfl rfl rfl rfl
theorem dX11_way_70 : dc cX11_way 70 73 (.getfield 131) 3 := o_180 ob_X11_way rfl rfl rfl rfl
theorem dX11_way_73 : dc cX11_way 73 76 (.invokevirtual 135) 3 := o_182 ob_X11_way rfl rfl rfl rfl
theorem dX11_way_76 : dc cX11_way 76 77 (.aload_n 0) 1 := o_42 ob_X11_way rfl rfl rfl
theorem dX11_way_77 : dc cX11_way 77 80 (.getfield 10) 3 := o_180 ob_X11_way rfl rfl rfl rfl
theorem dX11_way_80 : dc cX11_way 80 81 .dup 1 := o_89 ob_X11_way rfl rfl rfl
theorem dX11_way_81 : dc cX11_way 81 84 (.getfield 125) 3 := o_180 ob_X11_way rfl rfl rfl rfl
theorem dX11_way_84 : dc cX11_way 84 85 (.iconst 1) 1 := o_4 ob_X11_way rfl rfl rfl
theorem dX11_way_85 : dc cX11_way 85 86 .iadd 1 := o_96 ob_X11_way rfl rfl rfl
theorem dX11_way_86 : dc cX11_way 86 89 (.putfield 125) 3 := o_181 ob_X11_way rfl rfl rfl rfl
theorem dX11_way_89 : dc cX11_way 89 90 (.aload_n 0) 1 := o_42 ob_X11_way rfl rfl rfl
theorem dX11_way_90 : dc cX11_way 90 93 (.getfield 10) 3 := o_180 ob_X11_way rfl rfl rfl rfl
theorem dX11_way_93 : dc cX11_way 93 96 (.getfield 125) 3 := o_180 ob_X11_way rfl rfl rfl rfl
theorem dX11_way_96 : dc cX11_way 96 97 (.iconst 1) 1 := o_4 ob_X11_way rfl rfl rfl
theorem dX11_way_97 : dc cX11_way 97 98 .isub 1 := o_100 ob_X11_way rfl rfl rfl
theorem dX11_way_98 : dc cX11_way 98 99 .ireturn 1 := o_172 ob_X11_way rfl rfl rfl
def F_KW_way (M : Mem) : Option ((String ⊕ Int32) × Mem) :=
  (F_Tape_readWay M).bind fun r1 => if ((mSI (mSI r1.2 0 4 r1.1) 27 1 0).1 0 4) = ((-1)) then if ((mSI (mSI r1.2 0 4 r1.1) 27 1 0).1 1 6) < 8 then (F_Well_putWay 31 13 ((mSI (mSI r1.2 0 4 r1.1) 27 1 0).1 1 6) (mSI (mSI r1.2 0 4 r1.1) 27 1 0)).bind fun r2 => some ((.inr (((mSI r2 1 6 ((r2.1 1 6) + 1)).1 1 6) - 1), mSI r2 1 6 ((r2.1 1 6) + 1))) else some ((.inl "java/lang/UnsupportedOperationException", mSI (mSI r1.2 0 4 r1.1) 27 1 0)) else some ((.inl "java/lang/IllegalArgumentException", mSI (mSI r1.2 0 4 r1.1) 27 1 0))
set_option maxRecDepth 100000 in
set_option maxHeartbeats 4000000 in
theorem K_KW_way (l : Launch) (g : GB) (htr : l.stackTraces = false) (M : Mem) (rr : String ⊕ Int32) (MZ : Mem) (h : F_KW_way M = some (rr, MZ)) : CT l g yX11_way (.code yX11_way cX11_way 1 (some .int) :: wAll) { frames := 8, cells := 1, slots := 6, locals := 177 } [.ref (g.2.1 0)] M (rvI rr) MZ := by
  refine CT.of [(0, .ref (g.2.1 0))] (by decide +kernel) (Nat.le_of_ble_eq_true rfl) rfl htr ?_
  intro p e s m args below meth c K hr ht
  skip
  obtain ⟨PHI, hPHI, h⟩ : ∃ PHI : (String ⊕ Int32) × Mem → Prop, (∀ a, PHI a → a = (rr, MZ)) ∧ wpO (F_KW_way M) PHI := ⟨fun a => a = (rr, MZ), fun _ h => h, _, h, rfl⟩
  unfold F_KW_way at h
  refine G_aload_n rfl 0 rfl K dX11_way_0 ?_
  refine G_aload_n rfl 0 rfl K dX11_way_1 ?_
  refine G_get (ci := 11) (k := 3) K rfl in_X11 wd_405 rfl dX11_way_2 (Nat.le_of_ble_eq_true rfl) (sh_0 _ _) (Nat.le_of_ble_eq_true rfl) rfl ?_
  obtain ⟨r1, e1, h⟩ := wpO_bind h
  refine G_callVi (ci := 8) [] [.ref (g.2.1 0)] K dX11_way_5 wv_770 yd_X8_readWay (Nat.le_of_ble_eq_true rfl) (sh_27 _ _) rfl (by decide) (by decide) rfl rfl (Nat.le_of_ble_eq_true rfl) (K_Tape_readWay l g htr  M _ _ e1) ?_
  refine G_putI (ci := 11) (k := 4) (ty := .int) K rfl in_X11 tyX11 tyX11_ok nmX11 wd_406 rfl rfl rfl rfl rfl dX11_way_8 (Nat.le_of_ble_eq_true rfl) (sh_0 _ _) (sh_0 _ _) (Nat.le_of_ble_eq_true rfl) (Nat.le_of_ble_eq_true rfl) rfl ?_
  refine G_aload_n rfl 0 rfl K dX11_way_11 ?_
  refine G_get (ci := 11) (k := 3) K rfl in_X11 wd_405 rfl dX11_way_12 (Nat.le_of_ble_eq_true rfl) (sh_0 _ _) (Nat.le_of_ble_eq_true rfl) rfl ?_
  refine G_iconst (v := 0) rfl K dX11_way_15 ?_
  refine G_putI (ci := 8) (k := 1) (ty := .int) K rfl in_X8 tyX8 tyX8_ok nmX8 wd_150 rfl rfl rfl rfl rfl dX11_way_16 (Nat.le_of_ble_eq_true rfl) (sh_27 _ _) (sh_27 _ _) (Nat.le_of_ble_eq_true rfl) (Nat.le_of_ble_eq_true rfl) rfl ?_
  refine G_aload_n rfl 0 rfl K dX11_way_19 ?_
  refine G_get (ci := 11) (k := 4) K rfl in_X11 wd_406 rfl dX11_way_20 (Nat.le_of_ble_eq_true rfl) (sh_0 _ _) (Nat.le_of_ble_eq_true rfl) rfl ?_
  refine G_iconst (v := (-1)) rfl K dX11_way_23 ?_
  refine G_icmp_eq (tgt := 35) K dX11_way_24 (by decide) (fun hc => ?_) (fun hc => ?_)
  · have h := wpO_t h hc
    refine G_aload_n rfl 0 rfl K dX11_way_35 ?_
    refine G_get (ci := 11) (k := 0) K rfl in_X11 wd_402 rfl dX11_way_36 (Nat.le_of_ble_eq_true rfl) (sh_0 _ _) (Nat.le_of_ble_eq_true rfl) rfl ?_
    refine G_get (ci := 10) (k := 6) K rfl in_X10 wd_86 rfl dX11_way_39 (Nat.le_of_ble_eq_true rfl) (sh_1 _ _) (Nat.le_of_ble_eq_true rfl) rfl ?_
    refine G_bipush (v := 8) rfl K dX11_way_42 ?_
    refine G_icmp_lt (tgt := 55) K dX11_way_44 (by decide) (fun hc => ?_) (fun hc => ?_)
    · have h := wpO_t h hc
      refine G_aload_n rfl 0 rfl K dX11_way_55 ?_
      refine G_get (ci := 11) (k := 0) K rfl in_X11 wd_402 rfl dX11_way_56 (Nat.le_of_ble_eq_true rfl) (sh_0 _ _) (Nat.le_of_ble_eq_true rfl) rfl ?_
      refine G_aload_n rfl 0 rfl K dX11_way_59 ?_
      refine G_get (ci := 11) (k := 0) K rfl in_X11 wd_402 rfl dX11_way_60 (Nat.le_of_ble_eq_true rfl) (sh_0 _ _) (Nat.le_of_ble_eq_true rfl) rfl ?_
      refine G_get (ci := 10) (k := 6) K rfl in_X10 wd_86 rfl dX11_way_63 (Nat.le_of_ble_eq_true rfl) (sh_1 _ _) (Nat.le_of_ble_eq_true rfl) rfl ?_
      refine G_aload_n rfl 0 rfl K dX11_way_66 ?_
      refine G_get (ci := 11) (k := 3) K rfl in_X11 wd_405 rfl dX11_way_67 (Nat.le_of_ble_eq_true rfl) (sh_0 _ _) (Nat.le_of_ble_eq_true rfl) rfl ?_
      refine G_get (ci := 8) (k := 2) K rfl in_X8 wd_152 rfl dX11_way_70 (Nat.le_of_ble_eq_true rfl) (sh_27 _ _) (Nat.le_of_ble_eq_true rfl) rfl ?_
      obtain ⟨r2, e2, h⟩ := wpO_bind h
      refine G_callVv (ci := 10) [.int ((mSI (mSI r1.2 0 4 r1.1) 27 1 0).1 1 6), .ref (g.2.1 30)] [] K dX11_way_73 wv_885 yd_X10_putWay (Nat.le_of_ble_eq_true rfl) (sh_1 _ _) rfl (by decide) (by decide) rfl rfl (Nat.le_of_ble_eq_true rfl) (K_Well_putWay l g htr 30 31 13 isRow_30 ((mSI (mSI r1.2 0 4 r1.1) 27 1 0).1 1 6) (mSI (mSI r1.2 0 4 r1.1) 27 1 0) _ e2) ?_
      refine G_aload_n rfl 0 rfl K dX11_way_76 ?_
      refine G_get (ci := 11) (k := 0) K rfl in_X11 wd_402 rfl dX11_way_77 (Nat.le_of_ble_eq_true rfl) (sh_0 _ _) (Nat.le_of_ble_eq_true rfl) rfl ?_
      refine G_dup rfl K dX11_way_80 ?_
      refine G_get (ci := 10) (k := 6) K rfl in_X10 wd_86 rfl dX11_way_81 (Nat.le_of_ble_eq_true rfl) (sh_1 _ _) (Nat.le_of_ble_eq_true rfl) rfl ?_
      refine G_iconst (v := 1) rfl K dX11_way_84 ?_
      refine G_iadd K dX11_way_85 ?_
      refine G_putI (ci := 10) (k := 6) (ty := .int) K rfl in_X10 tyX10 tyX10_ok nmX10 wd_86 rfl rfl rfl rfl rfl dX11_way_86 (Nat.le_of_ble_eq_true rfl) (sh_1 _ _) (sh_1 _ _) (Nat.le_of_ble_eq_true rfl) (Nat.le_of_ble_eq_true rfl) rfl ?_
      refine G_aload_n rfl 0 rfl K dX11_way_89 ?_
      refine G_get (ci := 11) (k := 0) K rfl in_X11 wd_402 rfl dX11_way_90 (Nat.le_of_ble_eq_true rfl) (sh_0 _ _) (Nat.le_of_ble_eq_true rfl) rfl ?_
      refine G_get (ci := 10) (k := 6) K rfl in_X10 wd_86 rfl dX11_way_93 (Nat.le_of_ble_eq_true rfl) (sh_1 _ _) (Nat.le_of_ble_eq_true rfl) rfl ?_
      refine G_iconst (v := 1) rfl K dX11_way_96 ?_
      refine G_isub K dX11_way_97 ?_
      cases hPHI _ (wpO_some h)
      exact G_iret K hr rfl dX11_way_98 (Nat.le_of_ble_eq_true rfl) (Nat.le_of_ble_eq_true rfl) ⟨rfl, rfl⟩
    · have h := wpO_f h hc
      cases hPHI _ (wpO_some h)
      exact G_throw K ex_128_130 (fun ls h => h.trans K.1.2.2.1.symm) dX11_way_47 dX11_way_50 dX11_way_51 dX11_way_54 ht (by decide) (Nat.le_of_ble_eq_true rfl) (Nat.le_of_ble_eq_true rfl) (Nat.le_of_ble_eq_true rfl) (by decide) (by decide) ⟨rfl, rfl⟩
  · have h := wpO_f h hc
    cases hPHI _ (wpO_some h)
    exact G_throw K ex_122_124 (fun ls h => h.trans K.1.2.2.1.symm) dX11_way_27 dX11_way_30 dX11_way_31 dX11_way_34 ht (by decide) (Nat.le_of_ble_eq_true rfl) (Nat.le_of_ble_eq_true rfl) (Nat.le_of_ble_eq_true rfl) (by decide) (by decide) ⟨rfl, rfl⟩
def on_X11_fault : Nat := 0xac1e00b42a
theorem ob_X11_fault : OKB cX11_fault on_X11_fault 5 := ⟨by decide +kernel, by decide +kernel⟩
theorem dX11_fault_0 : dc cX11_fault 0 1 (.aload_n 0) 1 := o_42 ob_X11_fault rfl rfl rfl
theorem dX11_fault_1 : dc cX11_fault 1 4 (.getfield 30) 3 := o_180 ob_X11_fault rfl rfl rfl rfl
theorem dX11_fault_4 : dc cX11_fault 4 5 .ireturn 1 := o_172 ob_X11_fault rfl rfl rfl
def F_KW_fault (M : Mem) : Option (Int32) :=
  some (M.1 0 4)
set_option maxRecDepth 100000 in
set_option maxHeartbeats 4000000 in
theorem K_KW_fault (l : Launch) (g : GB) (htr : l.stackTraces = false) (M : Mem) (rr : Int32) (h : F_KW_fault M = some rr) : CT l g yX11_fault (.code yX11_fault cX11_fault 1 (some .int) :: wAll) { frames := 0, cells := 0, slots := 0, locals := 0 } [.ref (g.2.1 0)] M (.inl (some (.int rr))) M := by
  refine CT.of [(0, .ref (g.2.1 0))] (by decide +kernel) (Nat.le_of_ble_eq_true rfl) rfl htr ?_
  intro p e s m args below meth c K hr ht
  skip
  obtain ⟨PHI, hPHI, h⟩ : ∃ PHI : Int32 → Prop, (∀ a, PHI a → a = rr) ∧ wpO (F_KW_fault M) PHI := ⟨fun a => a = rr, fun _ h => h, _, h, rfl⟩
  unfold F_KW_fault at h
  refine G_aload_n rfl 0 rfl K dX11_fault_0 ?_
  refine G_get (ci := 11) (k := 4) K rfl in_X11 wd_406 rfl dX11_fault_1 (Nat.le_of_ble_eq_true rfl) (sh_0 _ _) (Nat.le_of_ble_eq_true rfl) rfl ?_
  cases hPHI _ (wpO_some h)
  exact G_iret K hr rfl dX11_fault_4 (Nat.le_of_ble_eq_true rfl) (Nat.le_of_ble_eq_true rfl) ⟨rfl, rfl⟩
def on_X11_needWay : Nat := 0xb1bf5601b7595401bb0b00a17d00b40a00b42a1b0e009b1b
theorem ob_X11_needWay : OKB cX11_needWay on_X11_needWay 24 := ⟨by decide +kernel, by decide +kernel⟩
theorem dX11_needWay_0 : dc cX11_needWay 0 1 (.iload_n 1) 1 := o_27 ob_X11_needWay rfl rfl rfl
theorem dX11_needWay_1 : dc cX11_needWay 1 4 (.ifCond .lt 14) 3 := o_155 ob_X11_needWay rfl rfl rfl rfl
theorem dX11_needWay_4 : dc cX11_needWay 4 5 (.iload_n 1) 1 := o_27 ob_X11_needWay rfl rfl rfl
theorem dX11_needWay_5 : dc cX11_needWay 5 6 (.aload_n 0) 1 := o_42 ob_X11_needWay rfl rfl rfl
theorem dX11_needWay_6 : dc cX11_needWay 6 9 (.getfield 10) 3 := o_180 ob_X11_needWay rfl rfl rfl rfl
theorem dX11_needWay_9 : dc cX11_needWay 9 12 (.getfield 125) 3 := o_180 ob_X11_needWay rfl rfl rfl rfl
theorem dX11_needWay_12 : dc cX11_needWay 12 15 (.if_icmp .lt 11) 3 := o_161 ob_X11_needWay rfl rfl rfl rfl
theorem dX11_needWay_15 : dc cX11_needWay 15 18 (.new 340) 3 := o_187 ob_X11_needWay rfl rfl rfl rfl
theorem dX11_needWay_18 : dc cX11_needWay 18 19 .dup 1 := o_89 ob_X11_needWay rfl rfl rfl
theorem dX11_needWay_19 : dc cX11_needWay 19 22 (.invokespecial 342) 3 := o_183 ob_X11_needWay rfl rfl rfl rfl
theorem dX11_needWay_22 : dc cX11_needWay 22 23 .athrow 1 := o_191 ob_X11_needWay rfl rfl rfl
theorem dX11_needWay_23 : dc cX11_needWay 23 24 .return_ 1 := o_177 ob_X11_needWay rfl rfl rfl
def F_KW_needWay (x1 : Int32) (M : Mem) : Option ((String ⊕ Unit) × Mem) :=
  if x1 < 0 then some ((.inl "java/lang/IndexOutOfBoundsException", M)) else if x1 < (M.1 1 6) then some ((.inr (), M)) else some ((.inl "java/lang/IndexOutOfBoundsException", M))
set_option maxRecDepth 100000 in
set_option maxHeartbeats 4000000 in
theorem K_KW_needWay (l : Launch) (g : GB) (htr : l.stackTraces = false) (x1 : Int32) (M : Mem) (rr : String ⊕ Unit) (MZ : Mem) (h : F_KW_needWay x1 M = some (rr, MZ)) : CT l g yX11_needWay (.code yX11_needWay cX11_needWay 2 none :: wAll) { frames := 6, cells := 1, slots := 6, locals := 100 } [.ref (g.2.1 0), .int x1] M (rvU rr) MZ := by
  refine CT.of [(0, .ref (g.2.1 0)), (1, .int x1)] (by decide +kernel) (Nat.le_of_ble_eq_true rfl) rfl htr ?_
  intro p e s m args below meth c K hr ht
  skip
  obtain ⟨PHI, hPHI, h⟩ : ∃ PHI : (String ⊕ Unit) × Mem → Prop, (∀ a, PHI a → a = (rr, MZ)) ∧ wpO (F_KW_needWay x1 M) PHI := ⟨fun a => a = (rr, MZ), fun _ h => h, _, h, rfl⟩
  unfold F_KW_needWay at h
  refine G_iload_n rfl 1 rfl K dX11_needWay_0 ?_
  refine G_if_lt (tgt := 15) K dX11_needWay_1 (by decide) (fun hc => ?_) (fun hc => ?_)
  · have h := wpO_t h hc
    cases hPHI _ (wpO_some h)
    exact G_throw K ex_340_342 (fun ls h => h.trans K.1.2.2.1.symm) dX11_needWay_15 dX11_needWay_18 dX11_needWay_19 dX11_needWay_22 ht (by decide) (Nat.le_of_ble_eq_true rfl) (Nat.le_of_ble_eq_true rfl) (Nat.le_of_ble_eq_true rfl) (by decide) (by decide) ⟨rfl, rfl⟩
  · have h := wpO_f h hc
    refine G_iload_n rfl 1 rfl K dX11_needWay_4 ?_
    refine G_aload_n rfl 0 rfl K dX11_needWay_5 ?_
    refine G_get (ci := 11) (k := 0) K rfl in_X11 wd_402 rfl dX11_needWay_6 (Nat.le_of_ble_eq_true rfl) (sh_0 _ _) (Nat.le_of_ble_eq_true rfl) rfl ?_
    refine G_get (ci := 10) (k := 6) K rfl in_X10 wd_86 rfl dX11_needWay_9 (Nat.le_of_ble_eq_true rfl) (sh_1 _ _) (Nat.le_of_ble_eq_true rfl) rfl ?_
    refine G_icmp_lt (tgt := 23) K dX11_needWay_12 (by decide) (fun hc => ?_) (fun hc => ?_)
    · have h := wpO_t h hc
      cases hPHI _ (wpO_some h)
      exact G_vret K hr dX11_needWay_23 (Nat.le_of_ble_eq_true rfl) (Nat.le_of_ble_eq_true rfl) ⟨rfl, rfl⟩
    · have h := wpO_f h hc
      cases hPHI _ (wpO_some h)
      exact G_throw K ex_340_342 (fun ls h => h.trans K.1.2.2.1.symm) dX11_needWay_15 dX11_needWay_18 dX11_needWay_19 dX11_needWay_22 ht (by decide) (Nat.le_of_ble_eq_true rfl) (Nat.le_of_ble_eq_true rfl) (Nat.le_of_ble_eq_true rfl) (by decide) (by decide) ⟨rfl, rfl⟩
theorem ex_364_366S : ∀ w ∈ ([(Jvm.Cond.initialized "java/lang/Throwable"), (Jvm.Cond.initialized "java/lang/Exception"), (Jvm.Cond.initialized "java/lang/RuntimeException"), (Jvm.Cond.initialized "java/util/NoSuchElementException"), (Jvm.Cond.instanceMethod ({ cls := "java/lang/Object", name := "<init>", desc := "()V" } : Jvm.MethodName)), (Jvm.Cond.code ({ cls := "java/lang/Object", name := "<init>", desc := "()V" } : Jvm.MethodName) object_method_1_code (1 : Nat) (Option.none : Option Jvm.ClassFile.FieldType)), (Jvm.Cond.declares ({ cls := "java/lang/RuntimeException", name := "<init>", desc := "()V" } : Jvm.MethodName)), (Jvm.Cond.declares ({ cls := "java/lang/RuntimeException", name := "<init>", desc := "(Ljava/lang/String;)V" } : Jvm.MethodName)), (Jvm.Cond.declares ({ cls := "java/lang/Exception", name := "<init>", desc := "()V" } : Jvm.MethodName)), (Jvm.Cond.declares ({ cls := "java/lang/Exception", name := "<init>", desc := "(Ljava/lang/String;)V" } : Jvm.MethodName)), (Jvm.Cond.declares ({ cls := "java/lang/Throwable", name := "<init>", desc := "()V" } : Jvm.MethodName)), (Jvm.Cond.declares ({ cls := "java/lang/Throwable", name := "<init>", desc := "(Ljava/lang/String;)V" } : Jvm.MethodName)), (Jvm.Cond.lays "java/lang/Throwable" "java/lang/Throwable" "cause" "Ljava/lang/Throwable;"), (Jvm.Cond.lays "java/lang/Throwable" "java/lang/Throwable" "stackTrace" "[Ljava/lang/StackTraceElement;"), (Jvm.Cond.lays "java/lang/Throwable" "java/lang/Throwable" "suppressedExceptions" "Ljava/util/List;"), (Jvm.Cond.lays "java/lang/Throwable" "java/lang/Throwable" "detailMessage" "Ljava/lang/String;"), (Jvm.Cond.lays "java/lang/Throwable" "java/lang/Throwable" "backtrace" "Ljava/lang/Object;"), (Jvm.Cond.fieldLink "java/lang/Throwable" (198 : Nat) "java/lang/Throwable" "backtrace" "Ljava/lang/Object;"), (Jvm.Cond.superclass "java/lang/Throwable" "java/lang/Object"), (Jvm.Cond.instanceMethod ({ cls := "java/lang/Throwable", name := "<init>", desc := "()V" } : Jvm.MethodName)), (Jvm.Cond.code ({ cls := "java/lang/Throwable", name := "<init>", desc := "()V" } : Jvm.MethodName) prog_28_method_1_code (1 : Nat) (Option.none : Option Jvm.ClassFile.FieldType)), (Jvm.Cond.methodLink "java/lang/Throwable" (1 : Nat) ({ cls := "java/lang/Object", name := "<init>", desc := "()V" } : Jvm.MethodName)), (Jvm.Cond.fieldLink "java/lang/Throwable" (13 : Nat) "java/lang/Throwable" "UNASSIGNED_STACK" "[Ljava/lang/StackTraceElement;"), (Jvm.Cond.laysStatic "java/lang/Throwable" "UNASSIGNED_STACK" "[Ljava/lang/StackTraceElement;"), (Jvm.Cond.fieldLink "java/lang/Throwable" (20 : Nat) "java/lang/Throwable" "SUPPRESSED_SENTINEL" "Ljava/util/List;"), (Jvm.Cond.laysStatic "java/lang/Throwable" "SUPPRESSED_SENTINEL" "Ljava/util/List;"), (Jvm.Cond.methodLink "java/lang/Throwable" (27 : Nat) ({ cls := "java/lang/Throwable", name := "fillInStackTrace", desc := "()Ljava/lang/Throwable;" } : Jvm.MethodName)), (Jvm.Cond.instanceMethod ({ cls := "java/lang/Throwable", name := "fillInStackTrace", desc := "()Ljava/lang/Throwable;" } : Jvm.MethodName)), (Jvm.Cond.sameMethod "java/lang/Throwable" "java/lang/Throwable" "fillInStackTrace" "()Ljava/lang/Throwable;"), (Jvm.Cond.selects "java/util/NoSuchElementException" ({ cls := "java/lang/Throwable", name := "fillInStackTrace", desc := "()Ljava/lang/Throwable;" } : Jvm.MethodName) ({ cls := "java/lang/Throwable", name := "fillInStackTrace", desc := "()Ljava/lang/Throwable;" } : Jvm.MethodName)), (Jvm.Cond.codeSync ({ cls := "java/lang/Throwable", name := "fillInStackTrace", desc := "()Ljava/lang/Throwable;" } : Jvm.MethodName) prog_28_method_18_code (1 : Nat) (Option.some (Jvm.ClassFile.FieldType.object "java/lang/Throwable"))), (Jvm.Cond.methodLink "java/lang/Throwable" (202 : Nat) ({ cls := "java/lang/Throwable", name := "fillInStackTrace", desc := "(I)Ljava/lang/Throwable;" } : Jvm.MethodName)), (Jvm.Cond.privateMethod ({ cls := "java/lang/Throwable", name := "fillInStackTrace", desc := "(I)Ljava/lang/Throwable;" } : Jvm.MethodName)), (Jvm.Cond.instanceMethod ({ cls := "java/lang/Throwable", name := "fillInStackTrace", desc := "(I)Ljava/lang/Throwable;" } : Jvm.MethodName)), (Jvm.Cond.instantiable "java/lang/Throwable" (6 : Nat)), (Jvm.Cond.native ({ cls := "java/lang/Throwable", name := "fillInStackTrace", desc := "(I)Ljava/lang/Throwable;" } : Jvm.MethodName)), (Jvm.Cond.instanceMethod ({ cls := "java/lang/RuntimeException", name := "<init>", desc := "()V" } : Jvm.MethodName)), (Jvm.Cond.code ({ cls := "java/lang/RuntimeException", name := "<init>", desc := "()V" } : Jvm.MethodName) prog_24_method_1_code (1 : Nat) (Option.none : Option Jvm.ClassFile.FieldType)), (Jvm.Cond.methodLink "java/lang/RuntimeException" (1 : Nat) ({ cls := "java/lang/Exception", name := "<init>", desc := "()V" } : Jvm.MethodName)), (Jvm.Cond.instanceMethod ({ cls := "java/lang/Exception", name := "<init>", desc := "()V" } : Jvm.MethodName)), (Jvm.Cond.code ({ cls := "java/lang/Exception", name := "<init>", desc := "()V" } : Jvm.MethodName) prog_18_method_1_code (1 : Nat) (Option.none : Option Jvm.ClassFile.FieldType)), (Jvm.Cond.methodLink "java/lang/Exception" (1 : Nat) ({ cls := "java/lang/Throwable", name := "<init>", desc := "()V" } : Jvm.MethodName)), (Jvm.Cond.fieldLink "java/lang/Throwable" (198 : Nat) "java/lang/Throwable" "backtrace" "Ljava/lang/Object;"), (Jvm.Cond.fieldLink "java/lang/Throwable" (7 : Nat) "java/lang/Throwable" "cause" "Ljava/lang/Throwable;"), (Jvm.Cond.fieldLink "java/lang/Throwable" (17 : Nat) "java/lang/Throwable" "stackTrace" "[Ljava/lang/StackTraceElement;"), (Jvm.Cond.fieldLink "java/lang/Throwable" (24 : Nat) "java/lang/Throwable" "suppressedExceptions" "Ljava/util/List;"), (Jvm.Cond.soleField "java/lang/Throwable" "backtrace"), (Jvm.Cond.soleField "java/lang/Throwable" "detailMessage"), (Jvm.Cond.soleField "java/lang/Throwable" "cause"), (Jvm.Cond.soleField "java/lang/Throwable" "stackTrace"), (Jvm.Cond.soleField "java/lang/Throwable" "depth"), (Jvm.Cond.soleField "java/lang/Throwable" "suppressedExceptions"), (Jvm.Cond.instantiable "java/util/NoSuchElementException" (6 : Nat)), (Jvm.Cond.castable "java/util/NoSuchElementException" "java/util/NoSuchElementException"), (Jvm.Cond.selects "java/util/NoSuchElementException" ({ cls := "java/lang/Throwable", name := "fillInStackTrace", desc := "(I)Ljava/lang/Throwable;" } : Jvm.MethodName) ({ cls := "java/lang/Throwable", name := "fillInStackTrace", desc := "(I)Ljava/lang/Throwable;" } : Jvm.MethodName)), (Jvm.Cond.lays "java/util/NoSuchElementException" "java/lang/Throwable" "cause" "Ljava/lang/Throwable;"), (Jvm.Cond.lays "java/util/NoSuchElementException" "java/lang/Throwable" "stackTrace" "[Ljava/lang/StackTraceElement;"), (Jvm.Cond.lays "java/util/NoSuchElementException" "java/lang/Throwable" "suppressedExceptions" "Ljava/util/List;"), (Jvm.Cond.lays "java/util/NoSuchElementException" "java/lang/Throwable" "detailMessage" "Ljava/lang/String;"), (Jvm.Cond.lays "java/util/NoSuchElementException" "java/lang/Throwable" "backtrace" "Ljava/lang/Object;"), (Jvm.Cond.methodLink "KeptWell" (366 : Nat) ({ cls := "java/util/NoSuchElementException", name := "<init>", desc := "()V" } : Jvm.MethodName)), (Jvm.Cond.instanceMethod ({ cls := "java/util/NoSuchElementException", name := "<init>", desc := "()V" } : Jvm.MethodName)), (Jvm.Cond.code ({ cls := "java/util/NoSuchElementException", name := "<init>", desc := "()V" } : Jvm.MethodName) prog_32_method_1_code (1 : Nat) (Option.none : Option Jvm.ClassFile.FieldType)), (Jvm.Cond.methodLink "java/util/NoSuchElementException" (1 : Nat) ({ cls := "java/lang/RuntimeException", name := "<init>", desc := "()V" } : Jvm.MethodName)), (Jvm.Cond.lays "java/util/NoSuchElementException" "java/lang/Throwable" "depth" "I"), (Jvm.Cond.superclass "java/util/NoSuchElementException" "java/lang/RuntimeException"), (Jvm.Cond.sameMethod "java/lang/Throwable" "java/lang/Throwable" "fillInStackTrace" "(I)Ljava/lang/Throwable;"), (Jvm.Cond.castable "java/util/NoSuchElementException" "java/lang/Object"), (Jvm.Cond.castable "java/lang/Throwable" "java/lang/Object")] : List Cond), w ∈ lw_tbl := List.forall_mem_cons.mpr ⟨tb_1 (List.mem_of_getElem? (i := 15) rfl), List.forall_mem_cons.mpr ⟨tb_1 (List.mem_of_getElem? (i := 16) rfl), List.forall_mem_cons.mpr ⟨tb_1 (List.mem_of_getElem? (i := 17) rfl), List.forall_mem_cons.mpr ⟨tb_1 (List.mem_of_getElem? (i := 25) rfl), List.forall_mem_cons.mpr ⟨tb_1 (List.mem_of_getElem? (i := 34) rfl), List.forall_mem_cons.mpr ⟨tb_1 (List.mem_of_getElem? (i := 35) rfl), List.forall_mem_cons.mpr ⟨tb_3 (List.mem_of_getElem? (i := 181) rfl), List.forall_mem_cons.mpr ⟨tb_3 (List.mem_of_getElem? (i := 182) rfl), List.forall_mem_cons.mpr ⟨tb_3 (List.mem_of_getElem? (i := 183) rfl), List.forall_mem_cons.mpr ⟨tb_3 (List.mem_of_getElem? (i := 184) rfl), List.forall_mem_cons.mpr ⟨tb_3 (List.mem_of_getElem? (i := 185) rfl), List.forall_mem_cons.mpr ⟨tb_3 (List.mem_of_getElem? (i := 186) rfl), List.forall_mem_cons.mpr ⟨tb_3 (List.mem_of_getElem? (i := 190) rfl), List.forall_mem_cons.mpr ⟨tb_3 (List.mem_of_getElem? (i := 192) rfl), List.forall_mem_cons.mpr ⟨tb_3 (List.mem_of_getElem? (i := 194) rfl), List.forall_mem_cons.mpr ⟨tb_3 (List.mem_of_getElem? (i := 196) rfl), List.forall_mem_cons.mpr ⟨tb_3 (List.mem_of_getElem? (i := 198) rfl), List.forall_mem_cons.mpr ⟨tb_3 (List.mem_of_getElem? (i := 199) rfl), List.forall_mem_cons.mpr ⟨tb_3 (List.mem_of_getElem? (i := 200) rfl), List.forall_mem_cons.mpr ⟨tb_3 (List.mem_of_getElem? (i := 201) rfl), List.forall_mem_cons.mpr ⟨tb_3 (List.mem_of_getElem? (i := 202) rfl), List.forall_mem_cons.mpr ⟨tb_3 (List.mem_of_getElem? (i := 203) rfl), List.forall_mem_cons.mpr ⟨tb_3 (List.mem_of_getElem? (i := 204) rfl), List.forall_mem_cons.mpr ⟨tb_3 (List.mem_of_getElem? (i := 205) rfl), List.forall_mem_cons.mpr ⟨tb_3 (List.mem_of_getElem? (i := 206) rfl), List.forall_mem_cons.mpr ⟨tb_3 (List.mem_of_getElem? (i := 207) rfl), List.forall_mem_cons.mpr ⟨tb_3 (List.mem_of_getElem? (i := 208) rfl), List.forall_mem_cons.mpr ⟨tb_3 (List.mem_of_getElem? (i := 209) rfl), List.forall_mem_cons.mpr ⟨tb_3 (List.mem_of_getElem? (i := 210) rfl), List.forall_mem_cons.mpr ⟨tb_3 (List.mem_of_getElem? (i := 214) rfl), List.forall_mem_cons.mpr ⟨tb_3 (List.mem_of_getElem? (i := 215) rfl), List.forall_mem_cons.mpr ⟨tb_3 (List.mem_of_getElem? (i := 216) rfl), List.forall_mem_cons.mpr ⟨tb_3 (List.mem_of_getElem? (i := 217) rfl), List.forall_mem_cons.mpr ⟨tb_3 (List.mem_of_getElem? (i := 218) rfl), List.forall_mem_cons.mpr ⟨tb_3 (List.mem_of_getElem? (i := 219) rfl), List.forall_mem_cons.mpr ⟨tb_3 (List.mem_of_getElem? (i := 220) rfl), List.forall_mem_cons.mpr ⟨tb_3 (List.mem_of_getElem? (i := 225) rfl), List.forall_mem_cons.mpr ⟨tb_3 (List.mem_of_getElem? (i := 226) rfl), List.forall_mem_cons.mpr ⟨tb_3 (List.mem_of_getElem? (i := 227) rfl), List.forall_mem_cons.mpr ⟨tb_3 (List.mem_of_getElem? (i := 228) rfl), List.forall_mem_cons.mpr ⟨tb_3 (List.mem_of_getElem? (i := 229) rfl), List.forall_mem_cons.mpr ⟨tb_3 (List.mem_of_getElem? (i := 230) rfl), List.forall_mem_cons.mpr ⟨tb_3 (List.mem_of_getElem? (i := 231) rfl), List.forall_mem_cons.mpr ⟨tb_3 (List.mem_of_getElem? (i := 232) rfl), List.forall_mem_cons.mpr ⟨tb_3 (List.mem_of_getElem? (i := 233) rfl), List.forall_mem_cons.mpr ⟨tb_3 (List.mem_of_getElem? (i := 234) rfl), List.forall_mem_cons.mpr ⟨tb_3 (List.mem_of_getElem? (i := 235) rfl), List.forall_mem_cons.mpr ⟨tb_3 (List.mem_of_getElem? (i := 236) rfl), List.forall_mem_cons.mpr ⟨tb_3 (List.mem_of_getElem? (i := 237) rfl), List.forall_mem_cons.mpr ⟨tb_3 (List.mem_of_getElem? (i := 238) rfl), List.forall_mem_cons.mpr ⟨tb_4 (List.mem_of_getElem? (i := 0) rfl), List.forall_mem_cons.mpr ⟨tb_4 (List.mem_of_getElem? (i := 1) rfl), List.forall_mem_cons.mpr ⟨tb_4 (List.mem_of_getElem? (i := 189) rfl), List.forall_mem_cons.mpr ⟨tb_4 (List.mem_of_getElem? (i := 190) rfl), List.forall_mem_cons.mpr ⟨tb_4 (List.mem_of_getElem? (i := 191) rfl), List.forall_mem_cons.mpr ⟨tb_4 (List.mem_of_getElem? (i := 192) rfl), List.forall_mem_cons.mpr ⟨tb_4 (List.mem_of_getElem? (i := 193) rfl), List.forall_mem_cons.mpr ⟨tb_4 (List.mem_of_getElem? (i := 194) rfl), List.forall_mem_cons.mpr ⟨tb_4 (List.mem_of_getElem? (i := 195) rfl), List.forall_mem_cons.mpr ⟨tb_4 (List.mem_of_getElem? (i := 196) rfl), List.forall_mem_cons.mpr ⟨tb_4 (List.mem_of_getElem? (i := 197) rfl), List.forall_mem_cons.mpr ⟨tb_4 (List.mem_of_getElem? (i := 198) rfl), List.forall_mem_cons.mpr ⟨tb_4 (List.mem_of_getElem? (i := 199) rfl), List.forall_mem_cons.mpr ⟨tb_4 (List.mem_of_getElem? (i := 200) rfl), List.forall_mem_cons.mpr ⟨tb_4 (List.mem_of_getElem? (i := 201) rfl), List.forall_mem_cons.mpr ⟨tb_4 (List.mem_of_getElem? (i := 202) rfl), List.forall_mem_cons.mpr ⟨tb_9 (List.mem_of_getElem? (i := 103) rfl), List.forall_mem_cons.mpr ⟨tb_9 (List.mem_of_getElem? (i := 120) rfl), List.forall_mem_cons.mpr ⟨tb_9 (List.mem_of_getElem? (i := 122) rfl), fun _ h => absurd h List.not_mem_nil⟩⟩⟩⟩⟩⟩⟩⟩⟩⟩⟩⟩⟩⟩⟩⟩⟩⟩⟩⟩⟩⟩⟩⟩⟩⟩⟩⟩⟩⟩⟩⟩⟩⟩⟩⟩⟩⟩⟩⟩⟩⟩⟩⟩⟩⟩⟩⟩⟩⟩⟩⟩⟩⟩⟩⟩⟩⟩⟩⟩⟩⟩⟩⟩⟩⟩⟩⟩⟩
theorem ex_364_366 : ExOK "KeptWell" 364 366 "java/util/NoSuchElementException" := ⟨by decide +kernel, by decide +kernel, wd_908, wd_25, memS ex_364_366S (by decide +kernel), by decide +kernel, by decide +kernel⟩
def on_X11_needWhat : Nat := 0xb1bf6e01b7596c01bb0b00a41c1b08009b1b
theorem ob_X11_needWhat : OKB cX11_needWhat on_X11_needWhat 18 := ⟨by decide +kernel, by decide +kernel⟩
theorem dX11_needWhat_0 : dc cX11_needWhat 0 1 (.iload_n 1) 1 := o_27 ob_X11_needWhat rfl rfl rfl
theorem dX11_needWhat_1 : dc cX11_needWhat 1 4 (.ifCond .lt 8) 3 := o_155 ob_X11_needWhat rfl rfl rfl rfl
theorem dX11_needWhat_4 : dc cX11_needWhat 4 5 (.iload_n 1) 1 := o_27 ob_X11_needWhat rfl rfl rfl
theorem dX11_needWhat_5 : dc cX11_needWhat 5 6 (.iload_n 2) 1 := o_28 ob_X11_needWhat rfl rfl rfl
theorem dX11_needWhat_6 : dc cX11_needWhat 6 9 (.if_icmp .le 11) 3 := o_164 ob_X11_needWhat rfl rfl rfl rfl
theorem dX11_needWhat_9 : dc cX11_needWhat 9 12 (.new 364) 3 := o_187 ob_X11_needWhat rfl rfl rfl rfl
theorem dX11_needWhat_12 : dc cX11_needWhat 12 13 .dup 1 := o_89 ob_X11_needWhat rfl rfl rfl
theorem dX11_needWhat_13 : dc cX11_needWhat 13 16 (.invokespecial 366) 3 := o_183 ob_X11_needWhat rfl rfl rfl rfl
theorem dX11_needWhat_16 : dc cX11_needWhat 16 17 .athrow 1 := o_191 ob_X11_needWhat rfl rfl rfl
theorem dX11_needWhat_17 : dc cX11_needWhat 17 18 .return_ 1 := o_177 ob_X11_needWhat rfl rfl rfl
def F_KW_needWhat (x1 : Int32) (x2 : Int32) (M : Mem) : Option ((String ⊕ Unit) × Mem) :=
  if x1 < 0 then some ((.inl "java/util/NoSuchElementException", M)) else if x1 ≤ x2 then some ((.inr (), M)) else some ((.inl "java/util/NoSuchElementException", M))
set_option maxRecDepth 100000 in
set_option maxHeartbeats 4000000 in
theorem K_KW_needWhat (l : Launch) (g : GB) (htr : l.stackTraces = false) (x1 : Int32) (x2 : Int32) (M : Mem) (rr : String ⊕ Unit) (MZ : Mem) (h : F_KW_needWhat x1 x2 M = some (rr, MZ)) : CT l g yX11_needWhat (.code yX11_needWhat cX11_needWhat 3 none :: wAll) { frames := 6, cells := 1, slots := 6, locals := 100 } [.ref (g.2.1 0), .int x1, .int x2] M (rvU rr) MZ := by
  refine CT.of [(0, .ref (g.2.1 0)), (1, .int x1), (2, .int x2)] (by decide +kernel) (Nat.le_of_ble_eq_true rfl) rfl htr ?_
  intro p e s m args below meth c K hr ht
  skip
  obtain ⟨PHI, hPHI, h⟩ : ∃ PHI : (String ⊕ Unit) × Mem → Prop, (∀ a, PHI a → a = (rr, MZ)) ∧ wpO (F_KW_needWhat x1 x2 M) PHI := ⟨fun a => a = (rr, MZ), fun _ h => h, _, h, rfl⟩
  unfold F_KW_needWhat at h
  refine G_iload_n rfl 1 rfl K dX11_needWhat_0 ?_
  refine G_if_lt (tgt := 9) K dX11_needWhat_1 (by decide) (fun hc => ?_) (fun hc => ?_)
  · have h := wpO_t h hc
    cases hPHI _ (wpO_some h)
    exact G_throw K ex_364_366 (fun ls h => h.trans K.1.2.2.1.symm) dX11_needWhat_9 dX11_needWhat_12 dX11_needWhat_13 dX11_needWhat_16 ht (by decide) (Nat.le_of_ble_eq_true rfl) (Nat.le_of_ble_eq_true rfl) (Nat.le_of_ble_eq_true rfl) (by decide) (by decide) ⟨rfl, rfl⟩
  · have h := wpO_f h hc
    refine G_iload_n rfl 1 rfl K dX11_needWhat_4 ?_
    refine G_iload_n rfl 2 rfl K dX11_needWhat_5 ?_
    refine G_icmp_le (tgt := 17) K dX11_needWhat_6 (by decide) (fun hc => ?_) (fun hc => ?_)
    · have h := wpO_t h hc
      cases hPHI _ (wpO_some h)
      exact G_vret K hr dX11_needWhat_17 (Nat.le_of_ble_eq_true rfl) (Nat.le_of_ble_eq_true rfl) ⟨rfl, rfl⟩
    · have h := wpO_f h hc
      cases hPHI _ (wpO_some h)
      exact G_throw K ex_364_366 (fun ls h => h.trans K.1.2.2.1.symm) dX11_needWhat_9 dX11_needWhat_12 dX11_needWhat_13 dX11_needWhat_16 ht (by decide) (Nat.le_of_ble_eq_true rfl) (Nat.le_of_ble_eq_true rfl) (Nat.le_of_ble_eq_true rfl) (by decide) (by decide) ⟨rfl, rfl⟩
theorem wv_902 : wdV "KeptWell" 142 yX10_moodsOf cX10_moodsOf 2 (some .int) := ⟨wd_902, wd_476, wd_477, wd_2, wd_478⟩
def on_X11_needMood : Nat := 0xb1bf5601b7595401bb0b00a18e00b61b0a00b42a1c0f009b1c
theorem ob_X11_needMood : OKB cX11_needMood on_X11_needMood 25 := ⟨by decide +kernel, by decide +kernel⟩
theorem dX11_needMood_0 : dc cX11_needMood 0 1 (.iload_n 2) 1 := o_28 ob_X11_needMood rfl rfl rfl
theorem dX11_needMood_1 : dc cX11_needMood 1 4 (.ifCond .lt 15) 3 := o_155 ob_X11_needMood rfl rfl rfl rfl
theorem dX11_needMood_4 : dc cX11_needMood 4 5 (.iload_n 2) 1 := o_28 ob_X11_needMood rfl rfl rfl
theorem dX11_needMood_5 : dc cX11_needMood 5 6 (.aload_n 0) 1 := o_42 ob_X11_needMood rfl rfl rfl
theorem dX11_needMood_6 : dc cX11_needMood 6 9 (.getfield 10) 3 := o_180 ob_X11_needMood rfl rfl rfl rfl
theorem dX11_needMood_9 : dc cX11_needMood 9 10 (.iload_n 1) 1 := o_27 ob_X11_needMood rfl rfl rfl
theorem dX11_needMood_10 : dc cX11_needMood 10 13 (.invokevirtual 142) 3 := o_182 ob_X11_needMood rfl rfl rfl rfl
theorem dX11_needMood_13 : dc cX11_needMood 13 16 (.if_icmp .lt 11) 3 := o_161 ob_X11_needMood rfl rfl rfl rfl
theorem dX11_needMood_16 : dc cX11_needMood 16 19 (.new 340) 3 := o_187 ob_X11_needMood rfl rfl rfl rfl
theorem dX11_needMood_19 : dc cX11_needMood 19 20 .dup 1 := o_89 ob_X11_needMood rfl rfl rfl
theorem dX11_needMood_20 : dc cX11_needMood 20 23 (.invokespecial 342) 3 := o_183 ob_X11_needMood rfl rfl rfl rfl
theorem dX11_needMood_23 : dc cX11_needMood 23 24 .athrow 1 := o_191 ob_X11_needMood rfl rfl rfl
theorem dX11_needMood_24 : dc cX11_needMood 24 25 .return_ 1 := o_177 ob_X11_needMood rfl rfl rfl
def F_KW_needMood (x1 : Int32) (x2 : Int32) (M : Mem) : Option ((String ⊕ Unit) × Mem) :=
  if x2 < 0 then some ((.inl "java/lang/IndexOutOfBoundsException", M)) else (F_Well_moodsOf x1 M).bind fun r1 => if x2 < r1 then some ((.inr (), M)) else some ((.inl "java/lang/IndexOutOfBoundsException", M))
set_option maxRecDepth 100000 in
set_option maxHeartbeats 4000000 in
theorem K_KW_needMood (l : Launch) (g : GB) (htr : l.stackTraces = false) (x1 : Int32) (x2 : Int32) (M : Mem) (rr : String ⊕ Unit) (MZ : Mem) (h : F_KW_needMood x1 x2 M = some (rr, MZ)) : CT l g yX11_needMood (.code yX11_needMood cX11_needMood 3 none :: wAll) { frames := 6, cells := 1, slots := 6, locals := 100 } [.ref (g.2.1 0), .int x1, .int x2] M (rvU rr) MZ := by
  refine CT.of [(0, .ref (g.2.1 0)), (1, .int x1), (2, .int x2)] (by decide +kernel) (Nat.le_of_ble_eq_true rfl) rfl htr ?_
  intro p e s m args below meth c K hr ht
  skip
  obtain ⟨PHI, hPHI, h⟩ : ∃ PHI : (String ⊕ Unit) × Mem → Prop, (∀ a, PHI a → a = (rr, MZ)) ∧ wpO (F_KW_needMood x1 x2 M) PHI := ⟨fun a => a = (rr, MZ), fun _ h => h, _, h, rfl⟩
  unfold F_KW_needMood at h
  refine G_iload_n rfl 2 rfl K dX11_needMood_0 ?_
  refine G_if_lt (tgt := 16) K dX11_needMood_1 (by decide) (fun hc => ?_) (fun hc => ?_)
  · have h := wpO_t h hc
    cases hPHI _ (wpO_some h)
    exact G_throw K ex_340_342 (fun ls h => h.trans K.1.2.2.1.symm) dX11_needMood_16 dX11_needMood_19 dX11_needMood_20 dX11_needMood_23 ht (by decide) (Nat.le_of_ble_eq_true rfl) (Nat.le_of_ble_eq_true rfl) (Nat.le_of_ble_eq_true rfl) (by decide) (by decide) ⟨rfl, rfl⟩
  · have h := wpO_f h hc
    refine G_iload_n rfl 2 rfl K dX11_needMood_4 ?_
    refine G_aload_n rfl 0 rfl K dX11_needMood_5 ?_
    refine G_get (ci := 11) (k := 0) K rfl in_X11 wd_402 rfl dX11_needMood_6 (Nat.le_of_ble_eq_true rfl) (sh_0 _ _) (Nat.le_of_ble_eq_true rfl) rfl ?_
    refine G_iload_n rfl 1 rfl K dX11_needMood_9 ?_
    obtain ⟨r1, e1, h⟩ := wpO_bind h
    refine G_callVi (ci := 10) [.int x1] [.int x2] K dX11_needMood_10 wv_902 yd_X10_moodsOf (Nat.le_of_ble_eq_true rfl) (sh_1 _ _) rfl (by decide) (by decide) rfl rfl (Nat.le_of_ble_eq_true rfl) (K_Well_moodsOf l g htr x1 M _ e1) ?_
    refine G_icmp_lt (tgt := 24) K dX11_needMood_13 (by decide) (fun hc => ?_) (fun hc => ?_)
    · have h := wpO_t h hc
      cases hPHI _ (wpO_some h)
      exact G_vret K hr dX11_needMood_24 (Nat.le_of_ble_eq_true rfl) (Nat.le_of_ble_eq_true rfl) ⟨rfl, rfl⟩
    · have h := wpO_f h hc
      cases hPHI _ (wpO_some h)
      exact G_throw K ex_340_342 (fun ls h => h.trans K.1.2.2.1.symm) dX11_needMood_16 dX11_needMood_19 dX11_needMood_20 dX11_needMood_23 ht (by decide) (Nat.le_of_ble_eq_true rfl) (Nat.le_of_ble_eq_true rfl) (Nat.le_of_ble_eq_true rfl) (by decide) (by decide) ⟨rfl, rfl⟩
theorem yd_X11_needWay : ydN yX11_needWay 1 := ⟨by decide, by decide, by decide +kernel⟩
theorem yd_X11_needMood : ydN yX11_needMood 2 := ⟨by decide, by decide, by decide +kernel⟩
theorem yd_X11_needWhat : ydN yX11_needWhat 2 := ⟨by decide, by decide, by decide +kernel⟩
theorem wv_898 : wdV "KeptWell" 139 yX11_needWay cX11_needWay 2 none := ⟨wd_898, wd_900, ws_X11_needWay, wd_1, wd_901⟩
theorem wv_904 : wdV "KeptWell" 150 yX11_needWhat cX11_needWhat 3 none := ⟨wd_904, wd_906, ws_X11_needWhat, wd_1, wd_907⟩
theorem wv_923 : wdV "KeptWell" 154 yX11_needMood cX11_needMood 3 none := ⟨wd_923, wd_925, ws_X11_needMood, wd_1, wd_926⟩
theorem wv_928 : wdV "KeptWell" 161 yX10_nextOf cX10_nextOf 4 (some .int) := ⟨wd_928, wd_511, wd_512, wd_2, wd_513⟩
theorem wv_927 : wdV "KeptWell" 157 yX10_actOf cX10_actOf 3 (some .int) := ⟨wd_927, wd_487, wd_488, wd_2, wd_489⟩
theorem wv_903 : wdV "KeptWell" 146 yX10_isBarred cX10_isBarred 4 (some .boolean) := ⟨wd_903, wd_472, wd_473, wd_2, wd_474⟩
def on_X11_mood : Nat := 0xaca100b664061d1c1b0a00b42a0f00a79d00b61c1b0a00b42a0f00a0051d9a00b61c1b2a9600b6081d2aac030400a7040700999200b61b0a00b42a1400a0041dac8e00b61b0a00b42a0c009a1d8b00b61b2a
theorem ob_X11_mood : OKB cX11_mood on_X11_mood 82 := ⟨by decide +kernel, by decide +kernel⟩
theorem dX11_mood_0 : dc cX11_mood 0 1 (.aload_n 0) 1 := o_42 ob_X11_mood rfl rfl rfl
theorem dX11_mood_1 : dc cX11_mood 1 2 (.iload_n 1) 1 := o_27 ob_X11_mood rfl rfl rfl
theorem dX11_mood_2 : dc cX11_mood 2 5 (.invokevirtual 139) 3 := o_182 ob_X11_mood rfl rfl rfl rfl
theorem dX11_mood_5 : dc cX11_mood 5 6 (.iload_n 3) 1 := o_29 ob_X11_mood rfl rfl rfl
theorem dX11_mood_6 : dc cX11_mood 6 9 (.ifCond .ne 12) 3 := o_154 ob_X11_mood rfl rfl rfl rfl
theorem dX11_mood_9 : dc cX11_mood 9 10 (.aload_n 0) 1 := o_42 ob_X11_mood rfl rfl rfl
theorem dX11_mood_10 : dc cX11_mood 10 13 (.getfield 10) 3 := o_180 ob_X11_mood rfl rfl rfl rfl
theorem dX11_mood_13 : dc cX11_mood 13 14 (.iload_n 1) 1 := o_27 ob_X11_mood rfl rfl rfl
theorem dX11_mood_14 : dc cX11_mood 14 17 (.invokevirtual 142) 3 := o_182 ob_X11_mood rfl rfl rfl rfl
theorem dX11_mood_17 : dc cX11_mood 17 18 .ireturn 1 := o_172 ob_X11_mood rfl rfl rfl
theorem dX11_mood_18 : dc cX11_mood 18 19 (.iload_n 3) 1 := o_29 ob_X11_mood rfl rfl rfl
theorem dX11_mood_19 : dc cX11_mood 19 20 (.iconst 1) 1 := o_4 ob_X11_mood rfl rfl rfl
theorem dX11_mood_20 : dc cX11_mood 20 23 (.if_icmp .ne 20) 3 := o_160 ob_X11_mood rfl rfl rfl rfl
theorem dX11_mood_23 : dc cX11_mood 23 24 (.aload_n 0) 1 := o_42 ob_X11_mood rfl rfl rfl
theorem dX11_mood_24 : dc cX11_mood 24 27 (.getfield 10) 3 := o_180 ob_X11_mood rfl rfl rfl rfl
theorem dX11_mood_27 : dc cX11_mood 27 28 (.iload_n 1) 1 := o_27 ob_X11_mood rfl rfl rfl
theorem dX11_mood_28 : dc cX11_mood 28 31 (.invokevirtual 146) 3 := o_182 ob_X11_mood rfl rfl rfl rfl
theorem dX11_mood_31 : dc cX11_mood 31 34 (.ifCond .eq 7) 3 := o_153 ob_X11_mood rfl rfl rfl rfl
theorem dX11_mood_34 : dc cX11_mood 34 35 (.iconst 1) 1 := o_4 ob_X11_mood rfl rfl rfl
theorem dX11_mood_35 : dc cX11_mood 35 38 (.goto 4) 3 := o_167 ob_X11_mood rfl rfl rfl rfl
theorem dX11_mood_38 : dc cX11_mood 38 39 (.iconst 0) 1 := o_3 ob_X11_mood rfl rfl rfl
theorem dX11_mood_39 : dc cX11_mood 39 40 .ireturn 1 := o_172 ob_X11_mood rfl rfl rfl
theorem dX11_mood_40 : dc cX11_mood 40 41 (.aload_n 0) 1 := o_42 ob_X11_mood rfl rfl rfl
theorem dX11_mood_41 : dc cX11_mood 41 42 (.iload_n 3) 1 := o_29 ob_X11_mood rfl rfl rfl
theorem dX11_mood_42 : dc cX11_mood 42 43 (.iconst 5) 1 := o_8 ob_X11_mood rfl rfl rfl
theorem dX11_mood_43 : dc cX11_mood 43 46 (.invokevirtual 150) 3 := o_182 ob_X11_mood rfl rfl rfl rfl
theorem dX11_mood_46 : dc cX11_mood 46 47 (.aload_n 0) 1 := o_42 ob_X11_mood rfl rfl rfl
theorem dX11_mood_47 : dc cX11_mood 47 48 (.iload_n 1) 1 := o_27 ob_X11_mood rfl rfl rfl
theorem dX11_mood_48 : dc cX11_mood 48 49 (.iload_n 2) 1 := o_28 ob_X11_mood rfl rfl rfl
theorem dX11_mood_49 : dc cX11_mood 49 52 (.invokevirtual 154) 3 := o_182 ob_X11_mood rfl rfl rfl rfl
theorem dX11_mood_52 : dc cX11_mood 52 53 (.iload_n 3) 1 := o_29 ob_X11_mood rfl rfl rfl
theorem dX11_mood_53 : dc cX11_mood 53 54 (.iconst 2) 1 := o_5 ob_X11_mood rfl rfl rfl
theorem dX11_mood_54 : dc cX11_mood 54 57 (.if_icmp .ne 15) 3 := o_160 ob_X11_mood rfl rfl rfl rfl
theorem dX11_mood_57 : dc cX11_mood 57 58 (.aload_n 0) 1 := o_42 ob_X11_mood rfl rfl rfl
theorem dX11_mood_58 : dc cX11_mood 58 61 (.getfield 10) 3 := o_180 ob_X11_mood rfl rfl rfl rfl
theorem dX11_mood_61 : dc cX11_mood 61 62 (.iload_n 1) 1 := o_27 ob_X11_mood rfl rfl rfl
theorem dX11_mood_62 : dc cX11_mood 62 63 (.iload_n 2) 1 := o_28 ob_X11_mood rfl rfl rfl
theorem dX11_mood_63 : dc cX11_mood 63 66 (.invokevirtual 157) 3 := o_182 ob_X11_mood rfl rfl rfl rfl
theorem dX11_mood_66 : dc cX11_mood 66 69 (.goto 15) 3 := o_167 ob_X11_mood rfl rfl rfl rfl
theorem dX11_mood_69 : dc cX11_mood 69 70 (.aload_n 0) 1 := o_42 ob_X11_mood rfl rfl rfl
theorem dX11_mood_70 : dc cX11_mood 70 73 (.getfield 10) 3 := o_180 ob_X11_mood rfl rfl rfl rfl
theorem dX11_mood_73 : dc cX11_mood 73 74 (.iload_n 1) 1 := o_27 ob_X11_mood rfl rfl rfl
theorem dX11_mood_74 : dc cX11_mood 74 75 (.iload_n 2) 1 := o_28 ob_X11_mood rfl rfl rfl
theorem dX11_mood_75 : dc cX11_mood 75 76 (.iload_n 3) 1 := o_29 ob_X11_mood rfl rfl rfl
theorem dX11_mood_76 : dc cX11_mood 76 77 (.iconst 3) 1 := o_6 ob_X11_mood rfl rfl rfl
theorem dX11_mood_77 : dc cX11_mood 77 78 .isub 1 := o_100 ob_X11_mood rfl rfl rfl
theorem dX11_mood_78 : dc cX11_mood 78 81 (.invokevirtual 161) 3 := o_182 ob_X11_mood rfl rfl rfl rfl
theorem dX11_mood_81 : dc cX11_mood 81 82 .ireturn 1 := o_172 ob_X11_mood rfl rfl rfl
def F_KW_mood (x1 : Int32) (x2 : Int32) (x3 : Int32) (M : Mem) : Option ((String ⊕ Int32) × Mem) :=
  xbind (F_KW_needWay x1 M) fun _ M1 => if x3 = 0 then (F_Well_moodsOf x1 M1).bind fun r7 => some ((.inr r7, M1)) else if x3 = 1 then (F_Well_isBarred x1 M1).bind fun r6 => if r6 = true then some ((.inr 1, M1)) else some ((.inr 0, M1)) else xbind (F_KW_needWhat x3 5 M1) fun _ M2 => xbind (F_KW_needMood x1 x2 M2) fun _ M3 => if x3 = 2 then (F_Well_actOf x1 x2 M3).bind fun r5 => some ((.inr r5, M3)) else (F_Well_nextOf x1 x2 (x3 - 3) M3).bind fun r4 => some ((.inr r4, M3))
set_option maxRecDepth 100000 in
set_option maxHeartbeats 4000000 in
theorem K_KW_mood (l : Launch) (g : GB) (htr : l.stackTraces = false) (x1 : Int32) (x2 : Int32) (x3 : Int32) (M : Mem) (rr : String ⊕ Int32) (MZ : Mem) (h : F_KW_mood x1 x2 x3 M = some (rr, MZ)) : CT l g yX11_mood (.code yX11_mood cX11_mood 4 (some .int) :: wAll) { frames := 7, cells := 3, slots := 18, locals := 122 } [.ref (g.2.1 0), .int x1, .int x2, .int x3] M (rvI rr) MZ := by
  refine CT.of [(0, .ref (g.2.1 0)), (1, .int x1), (2, .int x2), (3, .int x3)] (by decide +kernel) (Nat.le_of_ble_eq_true rfl) rfl htr ?_
  intro p e s m args below meth c K hr ht
  skip
  obtain ⟨PHI, hPHI, h⟩ : ∃ PHI : (String ⊕ Int32) × Mem → Prop, (∀ a, PHI a → a = (rr, MZ)) ∧ wpO (F_KW_mood x1 x2 x3 M) PHI := ⟨fun a => a = (rr, MZ), fun _ h => h, _, h, rfl⟩
  unfold F_KW_mood at h
  refine G_aload_n rfl 0 rfl K dX11_mood_0 ?_
  refine G_iload_n rfl 1 rfl K dX11_mood_1 ?_
  obtain ⟨E1, M1, e1, h⟩ | ⟨r1, M1, e1, h⟩ := wpO_x h
  · cases hPHI _ h
    exact G_callXVt (ci := 11) [.int x1] [] K dX11_mood_2 wv_898 yd_X11_needWay (Nat.le_of_ble_eq_true rfl) (sh_0 _ _) rfl (by decide) (by decide) rfl rfl (Nat.le_of_ble_eq_true rfl) (K_KW_needWay l g htr x1 M _ _ e1) (GX_out K ht (Nat.le_of_ble_eq_true rfl) (Nat.le_of_ble_eq_true rfl) ⟨rfl, rfl⟩)
  refine G_callXVv (ci := 11) [.int x1] [] K dX11_mood_2 wv_898 yd_X11_needWay (Nat.le_of_ble_eq_true rfl) (sh_0 _ _) rfl (by decide) (by decide) rfl rfl (Nat.le_of_ble_eq_true rfl) (K_KW_needWay l g htr x1 M _ _ e1) ?_
  refine G_iload_n rfl 3 rfl K dX11_mood_5 ?_
  refine G_if_ne (tgt := 18) K dX11_mood_6 (by decide) (fun hc => ?_) (fun hc => ?_)
  · have h := wpO_f h hc
    refine G_iload_n rfl 3 rfl K dX11_mood_18 ?_
    refine G_iconst (v := 1) rfl K dX11_mood_19 ?_
    refine G_icmp_ne (tgt := 40) K dX11_mood_20 (by decide) (fun hc => ?_) (fun hc => ?_)
    · have h := wpO_f h hc
      refine G_aload_n rfl 0 rfl K dX11_mood_40 ?_
      refine G_iload_n rfl 3 rfl K dX11_mood_41 ?_
      refine G_iconst (v := 5) rfl K dX11_mood_42 ?_
      obtain ⟨E2, M2, e2, h⟩ | ⟨r2, M2, e2, h⟩ := wpO_x h
      · cases hPHI _ h
        exact G_callXVt (ci := 11) [.int x3, .int 5] [] K dX11_mood_43 wv_904 yd_X11_needWhat (Nat.le_of_ble_eq_true rfl) (sh_0 _ _) rfl (by decide) (by decide) rfl rfl (Nat.le_of_ble_eq_true rfl) (K_KW_needWhat l g htr x3 5 M1 _ _ e2) (GX_out K ht (Nat.le_of_ble_eq_true rfl) (Nat.le_of_ble_eq_true rfl) ⟨rfl, rfl⟩)
      refine G_callXVv (ci := 11) [.int x3, .int 5] [] K dX11_mood_43 wv_904 yd_X11_needWhat (Nat.le_of_ble_eq_true rfl) (sh_0 _ _) rfl (by decide) (by decide) rfl rfl (Nat.le_of_ble_eq_true rfl) (K_KW_needWhat l g htr x3 5 M1 _ _ e2) ?_
      refine G_aload_n rfl 0 rfl K dX11_mood_46 ?_
      refine G_iload_n rfl 1 rfl K dX11_mood_47 ?_
      refine G_iload_n rfl 2 rfl K dX11_mood_48 ?_
      obtain ⟨E3, M3, e3, h⟩ | ⟨r3, M3, e3, h⟩ := wpO_x h
      · cases hPHI _ h
        exact G_callXVt (ci := 11) [.int x1, .int x2] [] K dX11_mood_49 wv_923 yd_X11_needMood (Nat.le_of_ble_eq_true rfl) (sh_0 _ _) rfl (by decide) (by decide) rfl rfl (Nat.le_of_ble_eq_true rfl) (K_KW_needMood l g htr x1 x2 M2 _ _ e3) (GX_out K ht (Nat.le_of_ble_eq_true rfl) (Nat.le_of_ble_eq_true rfl) ⟨rfl, rfl⟩)
      refine G_callXVv (ci := 11) [.int x1, .int x2] [] K dX11_mood_49 wv_923 yd_X11_needMood (Nat.le_of_ble_eq_true rfl) (sh_0 _ _) rfl (by decide) (by decide) rfl rfl (Nat.le_of_ble_eq_true rfl) (K_KW_needMood l g htr x1 x2 M2 _ _ e3) ?_
      refine G_iload_n rfl 3 rfl K dX11_mood_52 ?_
      refine G_iconst (v := 2) rfl K dX11_mood_53 ?_
      refine G_icmp_ne (tgt := 69) K dX11_mood_54 (by decide) (fun hc => ?_) (fun hc => ?_)
      · have h := wpO_f h hc
        refine G_aload_n rfl 0 rfl K dX11_mood_69 ?_
        refine G_get (ci := 11) (k := 0) K rfl in_X11 wd_402 rfl dX11_mood_70 (Nat.le_of_ble_eq_true rfl) (sh_0 _ _) (Nat.le_of_ble_eq_true rfl) rfl ?_
        refine G_iload_n rfl 1 rfl K dX11_mood_73 ?_
        refine G_iload_n rfl 2 rfl K dX11_mood_74 ?_
        refine G_iload_n rfl 3 rfl K dX11_mood_75 ?_
        refine G_iconst (v := 3) rfl K dX11_mood_76 ?_
        refine G_isub K dX11_mood_77 ?_
        obtain ⟨r4, e4, h⟩ := wpO_bind h
        refine G_callVi (ci := 10) [.int x1, .int x2, .int (x3 - 3)] [] K dX11_mood_78 wv_928 yd_X10_nextOf (Nat.le_of_ble_eq_true rfl) (sh_1 _ _) rfl (by decide) (by decide) rfl rfl (Nat.le_of_ble_eq_true rfl) (K_Well_nextOf l g htr x1 x2 (x3 - 3) M3 _ e4) ?_
        cases hPHI _ (wpO_some h)
        exact G_iret K hr rfl dX11_mood_81 (Nat.le_of_ble_eq_true rfl) (Nat.le_of_ble_eq_true rfl) ⟨rfl, rfl⟩
      · have h := wpO_t h hc
        refine G_aload_n rfl 0 rfl K dX11_mood_57 ?_
        refine G_get (ci := 11) (k := 0) K rfl in_X11 wd_402 rfl dX11_mood_58 (Nat.le_of_ble_eq_true rfl) (sh_0 _ _) (Nat.le_of_ble_eq_true rfl) rfl ?_
        refine G_iload_n rfl 1 rfl K dX11_mood_61 ?_
        refine G_iload_n rfl 2 rfl K dX11_mood_62 ?_
        obtain ⟨r5, e5, h⟩ := wpO_bind h
        refine G_callVi (ci := 10) [.int x1, .int x2] [] K dX11_mood_63 wv_927 yd_X10_actOf (Nat.le_of_ble_eq_true rfl) (sh_1 _ _) rfl (by decide) (by decide) rfl rfl (Nat.le_of_ble_eq_true rfl) (K_Well_actOf l g htr x1 x2 M3 _ e5) ?_
        refine G_goto (tgt := 81) K dX11_mood_66 (by decide) ?_
        cases hPHI _ (wpO_some h)
        exact G_iret K hr rfl dX11_mood_81 (Nat.le_of_ble_eq_true rfl) (Nat.le_of_ble_eq_true rfl) ⟨rfl, rfl⟩
    · have h := wpO_t h hc
      refine G_aload_n rfl 0 rfl K dX11_mood_23 ?_
      refine G_get (ci := 11) (k := 0) K rfl in_X11 wd_402 rfl dX11_mood_24 (Nat.le_of_ble_eq_true rfl) (sh_0 _ _) (Nat.le_of_ble_eq_true rfl) rfl ?_
      refine G_iload_n rfl 1 rfl K dX11_mood_27 ?_
      obtain ⟨r6, e6, h⟩ := wpO_bind h
      refine G_callVi (ci := 10) [.int x1] [] K dX11_mood_28 wv_903 yd_X10_isBarred (Nat.le_of_ble_eq_true rfl) (sh_1 _ _) rfl (by decide) (by decide) rfl rfl (Nat.le_of_ble_eq_true rfl) (K_Well_isBarred l g htr x1 M1 _ e6) ?_
      refine G_ifb_eq (tgt := 38) K dX11_mood_31 (by decide) (fun hc => ?_) (fun hc => ?_)
      · have h := wpO_bf h hc
        refine G_iconst (v := 0) rfl K dX11_mood_38 ?_
        cases hPHI _ (wpO_some h)
        exact G_iret K hr rfl dX11_mood_39 (Nat.le_of_ble_eq_true rfl) (Nat.le_of_ble_eq_true rfl) ⟨rfl, rfl⟩
      · have h := wpO_t h hc
        refine G_iconst (v := 1) rfl K dX11_mood_34 ?_
        refine G_goto (tgt := 39) K dX11_mood_35 (by decide) ?_
        cases hPHI _ (wpO_some h)
        exact G_iret K hr rfl dX11_mood_39 (Nat.le_of_ble_eq_true rfl) (Nat.le_of_ble_eq_true rfl) ⟨rfl, rfl⟩
  · have h := wpO_t h hc
    refine G_aload_n rfl 0 rfl K dX11_mood_9 ?_
    refine G_get (ci := 11) (k := 0) K rfl in_X11 wd_402 rfl dX11_mood_10 (Nat.le_of_ble_eq_true rfl) (sh_0 _ _) (Nat.le_of_ble_eq_true rfl) rfl ?_
    refine G_iload_n rfl 1 rfl K dX11_mood_13 ?_
    obtain ⟨r7, e7, h⟩ := wpO_bind h
    refine G_callVi (ci := 10) [.int x1] [] K dX11_mood_14 wv_902 yd_X10_moodsOf (Nat.le_of_ble_eq_true rfl) (sh_1 _ _) rfl (by decide) (by decide) rfl rfl (Nat.le_of_ble_eq_true rfl) (K_Well_moodsOf l g htr x1 M1 _ e7) ?_
    cases hPHI _ (wpO_some h)
    exact G_iret K hr rfl dX11_mood_17 (Nat.le_of_ble_eq_true rfl) (Nat.le_of_ble_eq_true rfl) ⟨rfl, rfl⟩
def on_X11_needPerson : Nat := 0xb1bf5601b7595401bb0b00a4041b08009b1b
theorem ob_X11_needPerson : OKB cX11_needPerson on_X11_needPerson 18 := ⟨by decide +kernel, by decide +kernel⟩
theorem dX11_needPerson_0 : dc cX11_needPerson 0 1 (.iload_n 1) 1 := o_27 ob_X11_needPerson rfl rfl rfl
theorem dX11_needPerson_1 : dc cX11_needPerson 1 4 (.ifCond .lt 8) 3 := o_155 ob_X11_needPerson rfl rfl rfl rfl
theorem dX11_needPerson_4 : dc cX11_needPerson 4 5 (.iload_n 1) 1 := o_27 ob_X11_needPerson rfl rfl rfl
theorem dX11_needPerson_5 : dc cX11_needPerson 5 6 (.iconst 1) 1 := o_4 ob_X11_needPerson rfl rfl rfl
theorem dX11_needPerson_6 : dc cX11_needPerson 6 9 (.if_icmp .le 11) 3 := o_164 ob_X11_needPerson rfl rfl rfl rfl
theorem dX11_needPerson_9 : dc cX11_needPerson 9 12 (.new 340) 3 := o_187 ob_X11_needPerson rfl rfl rfl rfl
theorem dX11_needPerson_12 : dc cX11_needPerson 12 13 .dup 1 := o_89 ob_X11_needPerson rfl rfl rfl
theorem dX11_needPerson_13 : dc cX11_needPerson 13 16 (.invokespecial 342) 3 := o_183 ob_X11_needPerson rfl rfl rfl rfl
theorem dX11_needPerson_16 : dc cX11_needPerson 16 17 .athrow 1 := o_191 ob_X11_needPerson rfl rfl rfl
theorem dX11_needPerson_17 : dc cX11_needPerson 17 18 .return_ 1 := o_177 ob_X11_needPerson rfl rfl rfl
def F_KW_needPerson (x1 : Int32) (M : Mem) : Option ((String ⊕ Unit) × Mem) :=
  if x1 < 0 then some ((.inl "java/lang/IndexOutOfBoundsException", M)) else if x1 ≤ 1 then some ((.inr (), M)) else some ((.inl "java/lang/IndexOutOfBoundsException", M))
set_option maxRecDepth 100000 in
set_option maxHeartbeats 4000000 in
theorem K_KW_needPerson (l : Launch) (g : GB) (htr : l.stackTraces = false) (x1 : Int32) (M : Mem) (rr : String ⊕ Unit) (MZ : Mem) (h : F_KW_needPerson x1 M = some (rr, MZ)) : CT l g yX11_needPerson (.code yX11_needPerson cX11_needPerson 2 none :: wAll) { frames := 6, cells := 1, slots := 6, locals := 100 } [.ref (g.2.1 0), .int x1] M (rvU rr) MZ := by
  refine CT.of [(0, .ref (g.2.1 0)), (1, .int x1)] (by decide +kernel) (Nat.le_of_ble_eq_true rfl) rfl htr ?_
  intro p e s m args below meth c K hr ht
  skip
  obtain ⟨PHI, hPHI, h⟩ : ∃ PHI : (String ⊕ Unit) × Mem → Prop, (∀ a, PHI a → a = (rr, MZ)) ∧ wpO (F_KW_needPerson x1 M) PHI := ⟨fun a => a = (rr, MZ), fun _ h => h, _, h, rfl⟩
  unfold F_KW_needPerson at h
  refine G_iload_n rfl 1 rfl K dX11_needPerson_0 ?_
  refine G_if_lt (tgt := 9) K dX11_needPerson_1 (by decide) (fun hc => ?_) (fun hc => ?_)
  · have h := wpO_t h hc
    cases hPHI _ (wpO_some h)
    exact G_throw K ex_340_342 (fun ls h => h.trans K.1.2.2.1.symm) dX11_needPerson_9 dX11_needPerson_12 dX11_needPerson_13 dX11_needPerson_16 ht (by decide) (Nat.le_of_ble_eq_true rfl) (Nat.le_of_ble_eq_true rfl) (Nat.le_of_ble_eq_true rfl) (by decide) (by decide) ⟨rfl, rfl⟩
  · have h := wpO_f h hc
    refine G_iload_n rfl 1 rfl K dX11_needPerson_4 ?_
    refine G_iconst (v := 1) rfl K dX11_needPerson_5 ?_
    refine G_icmp_le (tgt := 17) K dX11_needPerson_6 (by decide) (fun hc => ?_) (fun hc => ?_)
    · have h := wpO_t h hc
      cases hPHI _ (wpO_some h)
      exact G_vret K hr dX11_needPerson_17 (Nat.le_of_ble_eq_true rfl) (Nat.le_of_ble_eq_true rfl) ⟨rfl, rfl⟩
    · have h := wpO_f h hc
      cases hPHI _ (wpO_some h)
      exact G_throw K ex_340_342 (fun ls h => h.trans K.1.2.2.1.symm) dX11_needPerson_9 dX11_needPerson_12 dX11_needPerson_13 dX11_needPerson_16 ht (by decide) (Nat.le_of_ble_eq_true rfl) (Nat.le_of_ble_eq_true rfl) (Nat.le_of_ble_eq_true rfl) (by decide) (by decide) ⟨rfl, rfl⟩
theorem ex_299_301S : ∀ w ∈ ([(Jvm.Cond.initialized "java/lang/Throwable"), (Jvm.Cond.initialized "java/lang/Exception"), (Jvm.Cond.initialized "java/lang/RuntimeException"), (Jvm.Cond.initialized "java/lang/IllegalStateException"), (Jvm.Cond.instanceMethod ({ cls := "java/lang/Object", name := "<init>", desc := "()V" } : Jvm.MethodName)), (Jvm.Cond.code ({ cls := "java/lang/Object", name := "<init>", desc := "()V" } : Jvm.MethodName) object_method_1_code (1 : Nat) (Option.none : Option Jvm.ClassFile.FieldType)), (Jvm.Cond.declares ({ cls := "java/lang/RuntimeException", name := "<init>", desc := "()V" } : Jvm.MethodName)), (Jvm.Cond.declares ({ cls := "java/lang/RuntimeException", name := "<init>", desc := "(Ljava/lang/String;)V" } : Jvm.MethodName)), (Jvm.Cond.declares ({ cls := "java/lang/Exception", name := "<init>", desc := "()V" } : Jvm.MethodName)), (Jvm.Cond.declares ({ cls := "java/lang/Exception", name := "<init>", desc := "(Ljava/lang/String;)V" } : Jvm.MethodName)), (Jvm.Cond.declares ({ cls := "java/lang/Throwable", name := "<init>", desc := "()V" } : Jvm.MethodName)), (Jvm.Cond.declares ({ cls := "java/lang/Throwable", name := "<init>", desc := "(Ljava/lang/String;)V" } : Jvm.MethodName)), (Jvm.Cond.lays "java/lang/Throwable" "java/lang/Throwable" "cause" "Ljava/lang/Throwable;"), (Jvm.Cond.lays "java/lang/Throwable" "java/lang/Throwable" "stackTrace" "[Ljava/lang/StackTraceElement;"), (Jvm.Cond.lays "java/lang/Throwable" "java/lang/Throwable" "suppressedExceptions" "Ljava/util/List;"), (Jvm.Cond.lays "java/lang/Throwable" "java/lang/Throwable" "detailMessage" "Ljava/lang/String;"), (Jvm.Cond.lays "java/lang/Throwable" "java/lang/Throwable" "backtrace" "Ljava/lang/Object;"), (Jvm.Cond.fieldLink "java/lang/Throwable" (198 : Nat) "java/lang/Throwable" "backtrace" "Ljava/lang/Object;"), (Jvm.Cond.superclass "java/lang/Throwable" "java/lang/Object"), (Jvm.Cond.instanceMethod ({ cls := "java/lang/Throwable", name := "<init>", desc := "()V" } : Jvm.MethodName)), (Jvm.Cond.code ({ cls := "java/lang/Throwable", name := "<init>", desc := "()V" } : Jvm.MethodName) prog_28_method_1_code (1 : Nat) (Option.none : Option Jvm.ClassFile.FieldType)), (Jvm.Cond.methodLink "java/lang/Throwable" (1 : Nat) ({ cls := "java/lang/Object", name := "<init>", desc := "()V" } : Jvm.MethodName)), (Jvm.Cond.fieldLink "java/lang/Throwable" (13 : Nat) "java/lang/Throwable" "UNASSIGNED_STACK" "[Ljava/lang/StackTraceElement;"), (Jvm.Cond.laysStatic "java/lang/Throwable" "UNASSIGNED_STACK" "[Ljava/lang/StackTraceElement;"), (Jvm.Cond.fieldLink "java/lang/Throwable" (20 : Nat) "java/lang/Throwable" "SUPPRESSED_SENTINEL" "Ljava/util/List;"), (Jvm.Cond.laysStatic "java/lang/Throwable" "SUPPRESSED_SENTINEL" "Ljava/util/List;"), (Jvm.Cond.methodLink "java/lang/Throwable" (27 : Nat) ({ cls := "java/lang/Throwable", name := "fillInStackTrace", desc := "()Ljava/lang/Throwable;" } : Jvm.MethodName)), (Jvm.Cond.instanceMethod ({ cls := "java/lang/Throwable", name := "fillInStackTrace", desc := "()Ljava/lang/Throwable;" } : Jvm.MethodName)), (Jvm.Cond.sameMethod "java/lang/Throwable" "java/lang/Throwable" "fillInStackTrace" "()Ljava/lang/Throwable;"), (Jvm.Cond.selects "java/lang/IllegalStateException" ({ cls := "java/lang/Throwable", name := "fillInStackTrace", desc := "()Ljava/lang/Throwable;" } : Jvm.MethodName) ({ cls := "java/lang/Throwable", name := "fillInStackTrace", desc := "()Ljava/lang/Throwable;" } : Jvm.MethodName)), (Jvm.Cond.codeSync ({ cls := "java/lang/Throwable", name := "fillInStackTrace", desc := "()Ljava/lang/Throwable;" } : Jvm.MethodName) prog_28_method_18_code (1 : Nat) (Option.some (Jvm.ClassFile.FieldType.object "java/lang/Throwable"))), (Jvm.Cond.methodLink "java/lang/Throwable" (202 : Nat) ({ cls := "java/lang/Throwable", name := "fillInStackTrace", desc := "(I)Ljava/lang/Throwable;" } : Jvm.MethodName)), (Jvm.Cond.privateMethod ({ cls := "java/lang/Throwable", name := "fillInStackTrace", desc := "(I)Ljava/lang/Throwable;" } : Jvm.MethodName)), (Jvm.Cond.instanceMethod ({ cls := "java/lang/Throwable", name := "fillInStackTrace", desc := "(I)Ljava/lang/Throwable;" } : Jvm.MethodName)), (Jvm.Cond.instantiable "java/lang/Throwable" (6 : Nat)), (Jvm.Cond.native ({ cls := "java/lang/Throwable", name := "fillInStackTrace", desc := "(I)Ljava/lang/Throwable;" } : Jvm.MethodName)), (Jvm.Cond.instanceMethod ({ cls := "java/lang/RuntimeException", name := "<init>", desc := "()V" } : Jvm.MethodName)), (Jvm.Cond.code ({ cls := "java/lang/RuntimeException", name := "<init>", desc := "()V" } : Jvm.MethodName) prog_24_method_1_code (1 : Nat) (Option.none : Option Jvm.ClassFile.FieldType)), (Jvm.Cond.methodLink "java/lang/RuntimeException" (1 : Nat) ({ cls := "java/lang/Exception", name := "<init>", desc := "()V" } : Jvm.MethodName)), (Jvm.Cond.instanceMethod ({ cls := "java/lang/Exception", name := "<init>", desc := "()V" } : Jvm.MethodName)), (Jvm.Cond.code ({ cls := "java/lang/Exception", name := "<init>", desc := "()V" } : Jvm.MethodName) prog_18_method_1_code (1 : Nat) (Option.none : Option Jvm.ClassFile.FieldType)), (Jvm.Cond.methodLink "java/lang/Exception" (1 : Nat) ({ cls := "java/lang/Throwable", name := "<init>", desc := "()V" } : Jvm.MethodName)), (Jvm.Cond.fieldLink "java/lang/Throwable" (198 : Nat) "java/lang/Throwable" "backtrace" "Ljava/lang/Object;"), (Jvm.Cond.fieldLink "java/lang/Throwable" (7 : Nat) "java/lang/Throwable" "cause" "Ljava/lang/Throwable;"), (Jvm.Cond.fieldLink "java/lang/Throwable" (17 : Nat) "java/lang/Throwable" "stackTrace" "[Ljava/lang/StackTraceElement;"), (Jvm.Cond.fieldLink "java/lang/Throwable" (24 : Nat) "java/lang/Throwable" "suppressedExceptions" "Ljava/util/List;"), (Jvm.Cond.soleField "java/lang/Throwable" "backtrace"), (Jvm.Cond.soleField "java/lang/Throwable" "detailMessage"), (Jvm.Cond.soleField "java/lang/Throwable" "cause"), (Jvm.Cond.soleField "java/lang/Throwable" "stackTrace"), (Jvm.Cond.soleField "java/lang/Throwable" "depth"), (Jvm.Cond.soleField "java/lang/Throwable" "suppressedExceptions"), (Jvm.Cond.instantiable "java/lang/IllegalStateException" (6 : Nat)), (Jvm.Cond.castable "java/lang/IllegalStateException" "java/lang/IllegalStateException"), (Jvm.Cond.selects "java/lang/IllegalStateException" ({ cls := "java/lang/Throwable", name := "fillInStackTrace", desc := "(I)Ljava/lang/Throwable;" } : Jvm.MethodName) ({ cls := "java/lang/Throwable", name := "fillInStackTrace", desc := "(I)Ljava/lang/Throwable;" } : Jvm.MethodName)), (Jvm.Cond.lays "java/lang/IllegalStateException" "java/lang/Throwable" "cause" "Ljava/lang/Throwable;"), (Jvm.Cond.lays "java/lang/IllegalStateException" "java/lang/Throwable" "stackTrace" "[Ljava/lang/StackTraceElement;"), (Jvm.Cond.lays "java/lang/IllegalStateException" "java/lang/Throwable" "suppressedExceptions" "Ljava/util/List;"), (Jvm.Cond.lays "java/lang/IllegalStateException" "java/lang/Throwable" "detailMessage" "Ljava/lang/String;"), (Jvm.Cond.lays "java/lang/IllegalStateException" "java/lang/Throwable" "backtrace" "Ljava/lang/Object;"), (Jvm.Cond.methodLink "KeptWell" (301 : Nat) ({ cls := "java/lang/IllegalStateException", name := "<init>", desc := "()V" } : Jvm.MethodName)), (Jvm.Cond.instanceMethod ({ cls := "java/lang/IllegalStateException", name := "<init>", desc := "()V" } : Jvm.MethodName)), (Jvm.Cond.code ({ cls := "java/lang/IllegalStateException", name := "<init>", desc := "()V" } : Jvm.MethodName) prog_20_method_1_code (1 : Nat) (Option.none : Option Jvm.ClassFile.FieldType)), (Jvm.Cond.methodLink "java/lang/IllegalStateException" (1 : Nat) ({ cls := "java/lang/RuntimeException", name := "<init>", desc := "()V" } : Jvm.MethodName)), (Jvm.Cond.lays "java/lang/IllegalStateException" "java/lang/Throwable" "depth" "I"), (Jvm.Cond.superclass "java/lang/IllegalStateException" "java/lang/RuntimeException"), (Jvm.Cond.sameMethod "java/lang/Throwable" "java/lang/Throwable" "fillInStackTrace" "(I)Ljava/lang/Throwable;"), (Jvm.Cond.castable "java/lang/IllegalStateException" "java/lang/Object"), (Jvm.Cond.castable "java/lang/Throwable" "java/lang/Object")] : List Cond), w ∈ lw_tbl := List.forall_mem_cons.mpr ⟨tb_1 (List.mem_of_getElem? (i := 15) rfl), List.forall_mem_cons.mpr ⟨tb_1 (List.mem_of_getElem? (i := 16) rfl), List.forall_mem_cons.mpr ⟨tb_1 (List.mem_of_getElem? (i := 17) rfl), List.forall_mem_cons.mpr ⟨tb_1 (List.mem_of_getElem? (i := 26) rfl), List.forall_mem_cons.mpr ⟨tb_1 (List.mem_of_getElem? (i := 34) rfl), List.forall_mem_cons.mpr ⟨tb_1 (List.mem_of_getElem? (i := 35) rfl), List.forall_mem_cons.mpr ⟨tb_3 (List.mem_of_getElem? (i := 181) rfl), List.forall_mem_cons.mpr ⟨tb_3 (List.mem_of_getElem? (i := 182) rfl), List.forall_mem_cons.mpr ⟨tb_3 (List.mem_of_getElem? (i := 183) rfl), List.forall_mem_cons.mpr ⟨tb_3 (List.mem_of_getElem? (i := 184) rfl), List.forall_mem_cons.mpr ⟨tb_3 (List.mem_of_getElem? (i := 185) rfl), List.forall_mem_cons.mpr ⟨tb_3 (List.mem_of_getElem? (i := 186) rfl), List.forall_mem_cons.mpr ⟨tb_3 (List.mem_of_getElem? (i := 190) rfl), List.forall_mem_cons.mpr ⟨tb_3 (List.mem_of_getElem? (i := 192) rfl), List.forall_mem_cons.mpr ⟨tb_3 (List.mem_of_getElem? (i := 194) rfl), List.forall_mem_cons.mpr ⟨tb_3 (List.mem_of_getElem? (i := 196) rfl), List.forall_mem_cons.mpr ⟨tb_3 (List.mem_of_getElem? (i := 198) rfl), List.forall_mem_cons.mpr ⟨tb_3 (List.mem_of_getElem? (i := 199) rfl), List.forall_mem_cons.mpr ⟨tb_3 (List.mem_of_getElem? (i := 200) rfl), List.forall_mem_cons.mpr ⟨tb_3 (List.mem_of_getElem? (i := 201) rfl), List.forall_mem_cons.mpr ⟨tb_3 (List.mem_of_getElem? (i := 202) rfl), List.forall_mem_cons.mpr ⟨tb_3 (List.mem_of_getElem? (i := 203) rfl), List.forall_mem_cons.mpr ⟨tb_3 (List.mem_of_getElem? (i := 204) rfl), List.forall_mem_cons.mpr ⟨tb_3 (List.mem_of_getElem? (i := 205) rfl), List.forall_mem_cons.mpr ⟨tb_3 (List.mem_of_getElem? (i := 206) rfl), List.forall_mem_cons.mpr ⟨tb_3 (List.mem_of_getElem? (i := 207) rfl), List.forall_mem_cons.mpr ⟨tb_3 (List.mem_of_getElem? (i := 208) rfl), List.forall_mem_cons.mpr ⟨tb_3 (List.mem_of_getElem? (i := 209) rfl), List.forall_mem_cons.mpr ⟨tb_3 (List.mem_of_getElem? (i := 210) rfl), List.forall_mem_cons.mpr ⟨tb_3 (List.mem_of_getElem? (i := 211) rfl), List.forall_mem_cons.mpr ⟨tb_3 (List.mem_of_getElem? (i := 215) rfl), List.forall_mem_cons.mpr ⟨tb_3 (List.mem_of_getElem? (i := 216) rfl), List.forall_mem_cons.mpr ⟨tb_3 (List.mem_of_getElem? (i := 217) rfl), List.forall_mem_cons.mpr ⟨tb_3 (List.mem_of_getElem? (i := 218) rfl), List.forall_mem_cons.mpr ⟨tb_3 (List.mem_of_getElem? (i := 219) rfl), List.forall_mem_cons.mpr ⟨tb_3 (List.mem_of_getElem? (i := 220) rfl), List.forall_mem_cons.mpr ⟨tb_3 (List.mem_of_getElem? (i := 225) rfl), List.forall_mem_cons.mpr ⟨tb_3 (List.mem_of_getElem? (i := 226) rfl), List.forall_mem_cons.mpr ⟨tb_3 (List.mem_of_getElem? (i := 227) rfl), List.forall_mem_cons.mpr ⟨tb_3 (List.mem_of_getElem? (i := 228) rfl), List.forall_mem_cons.mpr ⟨tb_3 (List.mem_of_getElem? (i := 229) rfl), List.forall_mem_cons.mpr ⟨tb_3 (List.mem_of_getElem? (i := 230) rfl), List.forall_mem_cons.mpr ⟨tb_3 (List.mem_of_getElem? (i := 231) rfl), List.forall_mem_cons.mpr ⟨tb_3 (List.mem_of_getElem? (i := 232) rfl), List.forall_mem_cons.mpr ⟨tb_3 (List.mem_of_getElem? (i := 233) rfl), List.forall_mem_cons.mpr ⟨tb_3 (List.mem_of_getElem? (i := 234) rfl), List.forall_mem_cons.mpr ⟨tb_3 (List.mem_of_getElem? (i := 235) rfl), List.forall_mem_cons.mpr ⟨tb_3 (List.mem_of_getElem? (i := 236) rfl), List.forall_mem_cons.mpr ⟨tb_3 (List.mem_of_getElem? (i := 237) rfl), List.forall_mem_cons.mpr ⟨tb_3 (List.mem_of_getElem? (i := 238) rfl), List.forall_mem_cons.mpr ⟨tb_4 (List.mem_of_getElem? (i := 0) rfl), List.forall_mem_cons.mpr ⟨tb_4 (List.mem_of_getElem? (i := 1) rfl), List.forall_mem_cons.mpr ⟨tb_4 (List.mem_of_getElem? (i := 226) rfl), List.forall_mem_cons.mpr ⟨tb_4 (List.mem_of_getElem? (i := 227) rfl), List.forall_mem_cons.mpr ⟨tb_4 (List.mem_of_getElem? (i := 228) rfl), List.forall_mem_cons.mpr ⟨tb_4 (List.mem_of_getElem? (i := 229) rfl), List.forall_mem_cons.mpr ⟨tb_4 (List.mem_of_getElem? (i := 230) rfl), List.forall_mem_cons.mpr ⟨tb_4 (List.mem_of_getElem? (i := 231) rfl), List.forall_mem_cons.mpr ⟨tb_4 (List.mem_of_getElem? (i := 232) rfl), List.forall_mem_cons.mpr ⟨tb_4 (List.mem_of_getElem? (i := 233) rfl), List.forall_mem_cons.mpr ⟨tb_4 (List.mem_of_getElem? (i := 234) rfl), List.forall_mem_cons.mpr ⟨tb_4 (List.mem_of_getElem? (i := 235) rfl), List.forall_mem_cons.mpr ⟨tb_4 (List.mem_of_getElem? (i := 236) rfl), List.forall_mem_cons.mpr ⟨tb_4 (List.mem_of_getElem? (i := 237) rfl), List.forall_mem_cons.mpr ⟨tb_4 (List.mem_of_getElem? (i := 238) rfl), List.forall_mem_cons.mpr ⟨tb_4 (List.mem_of_getElem? (i := 239) rfl), List.forall_mem_cons.mpr ⟨tb_9 (List.mem_of_getElem? (i := 103) rfl), List.forall_mem_cons.mpr ⟨tb_9 (List.mem_of_getElem? (i := 121) rfl), List.forall_mem_cons.mpr ⟨tb_9 (List.mem_of_getElem? (i := 122) rfl), fun _ h => absurd h List.not_mem_nil⟩⟩⟩⟩⟩⟩⟩⟩⟩⟩⟩⟩⟩⟩⟩⟩⟩⟩⟩⟩⟩⟩⟩⟩⟩⟩⟩⟩⟩⟩⟩⟩⟩⟩⟩⟩⟩⟩⟩⟩⟩⟩⟩⟩⟩⟩⟩⟩⟩⟩⟩⟩⟩⟩⟩⟩⟩⟩⟩⟩⟩⟩⟩⟩⟩⟩⟩⟩⟩
theorem ex_299_301 : ExOK "KeptWell" 299 301 "java/lang/IllegalStateException" := ⟨by decide +kernel, by decide +kernel, wd_945, wd_26, memS ex_299_301S (by decide +kernel), by decide +kernel, by decide +kernel⟩
def on_X11_needFree : Nat := 0xb1bf2d01b7592b01bb0b00999200b61b0a00b42a
theorem ob_X11_needFree : OKB cX11_needFree on_X11_needFree 20 := ⟨by decide +kernel, by decide +kernel⟩
theorem dX11_needFree_0 : dc cX11_needFree 0 1 (.aload_n 0) 1 := o_42 ob_X11_needFree rfl rfl rfl
theorem dX11_needFree_1 : dc cX11_needFree 1 4 (.getfield 10) 3 := o_180 ob_X11_needFree rfl rfl rfl rfl
theorem dX11_needFree_4 : dc cX11_needFree 4 5 (.iload_n 1) 1 := o_27 ob_X11_needFree rfl rfl rfl
theorem dX11_needFree_5 : dc cX11_needFree 5 8 (.invokevirtual 146) 3 := o_182 ob_X11_needFree rfl rfl rfl rfl
theorem dX11_needFree_8 : dc cX11_needFree 8 11 (.ifCond .eq 11) 3 := o_153 ob_X11_needFree rfl rfl rfl rfl
theorem dX11_needFree_11 : dc cX11_needFree 11 14 (.new 299) 3 := o_187 ob_X11_needFree rfl rfl rfl rfl
theorem dX11_needFree_14 : dc cX11_needFree 14 15 .dup 1 := o_89 ob_X11_needFree rfl rfl rfl
theorem dX11_needFree_15 : dc cX11_needFree 15 18 (.invokespecial 301) 3 := o_183 ob_X11_needFree rfl rfl rfl rfl
theorem dX11_needFree_18 : dc cX11_needFree 18 19 .athrow 1 := o_191 ob_X11_needFree rfl rfl rfl
theorem dX11_needFree_19 : dc cX11_needFree 19 20 .return_ 1 := o_177 ob_X11_needFree rfl rfl rfl
def F_KW_needFree (x1 : Int32) (M : Mem) : Option ((String ⊕ Unit) × Mem) :=
  (F_Well_isBarred x1 M).bind fun r1 => if r1 = true then some ((.inl "java/lang/IllegalStateException", M)) else some ((.inr (), M))
set_option maxRecDepth 100000 in
set_option maxHeartbeats 4000000 in
theorem K_KW_needFree (l : Launch) (g : GB) (htr : l.stackTraces = false) (x1 : Int32) (M : Mem) (rr : String ⊕ Unit) (MZ : Mem) (h : F_KW_needFree x1 M = some (rr, MZ)) : CT l g yX11_needFree (.code yX11_needFree cX11_needFree 2 none :: wAll) { frames := 6, cells := 1, slots := 6, locals := 100 } [.ref (g.2.1 0), .int x1] M (rvU rr) MZ := by
  refine CT.of [(0, .ref (g.2.1 0)), (1, .int x1)] (by decide +kernel) (Nat.le_of_ble_eq_true rfl) rfl htr ?_
  intro p e s m args below meth c K hr ht
  skip
  obtain ⟨PHI, hPHI, h⟩ : ∃ PHI : (String ⊕ Unit) × Mem → Prop, (∀ a, PHI a → a = (rr, MZ)) ∧ wpO (F_KW_needFree x1 M) PHI := ⟨fun a => a = (rr, MZ), fun _ h => h, _, h, rfl⟩
  unfold F_KW_needFree at h
  refine G_aload_n rfl 0 rfl K dX11_needFree_0 ?_
  refine G_get (ci := 11) (k := 0) K rfl in_X11 wd_402 rfl dX11_needFree_1 (Nat.le_of_ble_eq_true rfl) (sh_0 _ _) (Nat.le_of_ble_eq_true rfl) rfl ?_
  refine G_iload_n rfl 1 rfl K dX11_needFree_4 ?_
  obtain ⟨r1, e1, h⟩ := wpO_bind h
  refine G_callVi (ci := 10) [.int x1] [] K dX11_needFree_5 wv_903 yd_X10_isBarred (Nat.le_of_ble_eq_true rfl) (sh_1 _ _) rfl (by decide) (by decide) rfl rfl (Nat.le_of_ble_eq_true rfl) (K_Well_isBarred l g htr x1 M _ e1) ?_
  refine G_ifb_eq (tgt := 19) K dX11_needFree_8 (by decide) (fun hc => ?_) (fun hc => ?_)
  · have h := wpO_bf h hc
    cases hPHI _ (wpO_some h)
    exact G_vret K hr dX11_needFree_19 (Nat.le_of_ble_eq_true rfl) (Nat.le_of_ble_eq_true rfl) ⟨rfl, rfl⟩
  · have h := wpO_t h hc
    cases hPHI _ (wpO_some h)
    exact G_throw K ex_299_301 (fun ls h => h.trans K.1.2.2.1.symm) dX11_needFree_11 dX11_needFree_14 dX11_needFree_15 dX11_needFree_18 ht (by decide) (Nat.le_of_ble_eq_true rfl) (Nat.le_of_ble_eq_true rfl) (Nat.le_of_ble_eq_true rfl) (by decide) (by decide) ⟨rfl, rfl⟩
theorem yd_X11_needFree : ydN yX11_needFree 1 := ⟨by decide, by decide, by decide +kernel⟩
theorem yd_X11_needPerson : ydN yX11_needPerson 1 := ⟨by decide, by decide, by decide +kernel⟩
theorem yd_X6_tellWorth : ydN yX6_tellWorth 4 := ⟨by decide, by decide, by decide +kernel⟩
theorem yd_X5_part : ydN yX5_part 1 := ⟨by decide, by decide, by decide +kernel⟩
theorem wv_937 : wdV "KeptWell" 165 yX11_needPerson cX11_needPerson 2 none := ⟨wd_937, wd_939, ws_X11_needPerson, wd_1, wd_940⟩
theorem wv_941 : wdV "KeptWell" 168 yX11_needFree cX11_needFree 2 none := ⟨wd_941, wd_943, ws_X11_needFree, wd_1, wd_944⟩
theorem wv_960 : wdV "KeptWell" 171 yX6_look cX6_look 11 none := ⟨wd_960, wd_491, wd_492, wd_6, wd_493⟩
theorem wv_961 : wdV "KeptWell" 175 yX6_tellWorth cX6_tellWorth 5 none := ⟨wd_961, wd_962, wd_963, wd_6, wd_964⟩
theorem wv_979 : wdV "KeptWell" 179 yX5_part cX5_part 2 (some .long) := ⟨wd_979, wd_980, wd_981, wd_13, wd_982⟩
def on_X11_worth : Nat := 0xadb300b606155300b42aaf00b65300b42a051504151c2700b42aab00b6857300b40a00b42a857000b40a00b42a1d1b2700b42aa800b61d2aa800b61b2aa500b605152a9a00b604151d2a8b00b61d2a9a00b61c1b2a8b00b61b2a
theorem ob_X11_worth : OKB cX11_worth on_X11_worth 90 := ⟨by decide +kernel, by decide +kernel⟩
theorem dX11_worth_0 : dc cX11_worth 0 1 (.aload_n 0) 1 := o_42 ob_X11_worth rfl rfl rfl
theorem dX11_worth_1 : dc cX11_worth 1 2 (.iload_n 1) 1 := o_27 ob_X11_worth rfl rfl rfl
theorem dX11_worth_2 : dc cX11_worth 2 5 (.invokevirtual 139) 3 := o_182 ob_X11_worth rfl rfl rfl rfl
theorem dX11_worth_5 : dc cX11_worth 5 6 (.aload_n 0) 1 := o_42 ob_X11_worth rfl rfl rfl
theorem dX11_worth_6 : dc cX11_worth 6 7 (.iload_n 1) 1 := o_27 ob_X11_worth rfl rfl rfl
theorem dX11_worth_7 : dc cX11_worth 7 8 (.iload_n 2) 1 := o_28 ob_X11_worth rfl rfl rfl
theorem dX11_worth_8 : dc cX11_worth 8 11 (.invokevirtual 154) 3 := o_182 ob_X11_worth rfl rfl rfl rfl
theorem dX11_worth_11 : dc cX11_worth 11 12 (.aload_n 0) 1 := o_42 ob_X11_worth rfl rfl rfl
theorem dX11_worth_12 : dc cX11_worth 12 13 (.iload_n 3) 1 := o_29 ob_X11_worth rfl rfl rfl
theorem dX11_worth_13 : dc cX11_worth 13 16 (.invokevirtual 139) 3 := o_182 ob_X11_worth rfl rfl rfl rfl
theorem dX11_worth_16 : dc cX11_worth 16 17 (.aload_n 0) 1 := o_42 ob_X11_worth rfl rfl rfl
theorem dX11_worth_17 : dc cX11_worth 17 18 (.iload_n 3) 1 := o_29 ob_X11_worth rfl rfl rfl
theorem dX11_worth_18 : dc cX11_worth 18 20 (.iload 4) 2 := o_21 ob_X11_worth rfl rfl rfl rfl
theorem dX11_worth_20 : dc cX11_worth 20 23 (.invokevirtual 154) 3 := o_182 ob_X11_worth rfl rfl rfl rfl
theorem dX11_worth_23 : dc cX11_worth 23 24 (.aload_n 0) 1 := o_42 ob_X11_worth rfl rfl rfl
theorem dX11_worth_24 : dc cX11_worth 24 26 (.iload 5) 2 := o_21 ob_X11_worth rfl rfl rfl rfl
theorem dX11_worth_26 : dc cX11_worth 26 29 (.invokevirtual 165) 3 := o_182 ob_X11_worth rfl rfl rfl rfl
theorem dX11_worth_29 : dc cX11_worth 29 30 (.aload_n 0) 1 := o_42 ob_X11_worth rfl rfl rfl
theorem dX11_worth_30 : dc cX11_worth 30 31 (.iload_n 1) 1 := o_27 ob_X11_worth rfl rfl rfl
theorem dX11_worth_31 : dc cX11_worth 31 34 (.invokevirtual 168) 3 := o_182 ob_X11_worth rfl rfl rfl rfl
theorem dX11_worth_34 : dc cX11_worth 34 35 (.aload_n 0) 1 := o_42 ob_X11_worth rfl rfl rfl
theorem dX11_worth_35 : dc cX11_worth 35 36 (.iload_n 3) 1 := o_29 ob_X11_worth rfl rfl rfl
theorem dX11_worth_36 : dc cX11_worth 36 39 (.invokevirtual 168) 3 := o_182 ob_X11_worth rfl rfl rfl rfl
theorem dX11_worth_39 : dc cX11_worth 39 40 (.aload_n 0) 1 := o_42 ob_X11_worth rfl rfl rfl
theorem dX11_worth_40 : dc cX11_worth 40 43 (.getfield 39) 3 := o_180 ob_X11_worth rfl rfl rfl rfl
theorem dX11_worth_43 : dc cX11_worth 43 44 (.iload_n 1) 1 := o_27 ob_X11_worth rfl rfl rfl
theorem dX11_worth_44 : dc cX11_worth 44 45 (.iload_n 3) 1 := o_29 ob_X11_worth rfl rfl rfl
theorem dX11_worth_45 : dc cX11_worth 45 46 (.aload_n 0) 1 := o_42 ob_X11_worth rfl rfl rfl
theorem dX11_worth_46 : dc cX11_worth 46 49 (.getfield 10) 3 := o_180 ob_X11_worth rfl rfl rfl rfl
theorem dX11_worth_49 : dc cX11_worth 49 52 (.getfield 112) 3 := o_180 ob_X11_worth rfl rfl rfl rfl
theorem dX11_worth_52 : dc cX11_worth 52 53 .i2l 1 := o_133 ob_X11_worth rfl rfl rfl
theorem dX11_worth_53 : dc cX11_worth 53 54 (.aload_n 0) 1 := o_42 ob_X11_worth rfl rfl rfl
theorem dX11_worth_54 : dc cX11_worth 54 57 (.getfield 10) 3 := o_180 ob_X11_worth rfl rfl rfl rfl
theorem dX11_worth_57 : dc cX11_worth 57 60 (.getfield 115) 3 := o_180 ob_X11_worth rfl rfl rfl rfl
theorem dX11_worth_60 : dc cX11_worth 60 61 .i2l 1 := o_133 ob_X11_worth rfl rfl rfl
theorem dX11_worth_61 : dc cX11_worth 61 64 (.invokevirtual 171) 3 := o_182 ob_X11_worth rfl rfl rfl rfl
theorem dX11_worth_64 : dc cX11_worth 64 65 (.aload_n 0) 1 := o_42 ob_X11_worth rfl rfl rfl
theorem dX11_worth_65 : dc cX11_worth 65 68 (.getfield 39) 3 := o_180 ob_X11_worth rfl rfl rfl rfl
theorem dX11_worth_68 : dc cX11_worth 68 69 (.iload_n 2) 1 := o_28 ob_X11_worth rfl rfl rfl
theorem dX11_worth_69 : dc cX11_worth 69 71 (.iload 4) 2 := o_21 ob_X11_worth rfl rfl rfl rfl
theorem dX11_worth_71 : dc cX11_worth 71 73 (.iload 5) 2 := o_21 ob_X11_worth rfl rfl rfl rfl
theorem dX11_worth_73 : dc cX11_worth 73 74 (.aload_n 0) 1 := o_42 ob_X11_worth rfl rfl rfl
theorem dX11_worth_74 : dc cX11_worth 74 77 (.getfield 83) 3 := o_180 ob_X11_worth rfl rfl rfl rfl
theorem dX11_worth_77 : dc cX11_worth 77 80 (.invokevirtual 175) 3 := o_182 ob_X11_worth rfl rfl rfl rfl
theorem dX11_worth_80 : dc cX11_worth 80 81 (.aload_n 0) 1 := o_42 ob_X11_worth rfl rfl rfl
theorem dX11_worth_81 : dc cX11_worth 81 84 (.getfield 83) 3 := o_180 ob_X11_worth rfl rfl rfl rfl
theorem dX11_worth_84 : dc cX11_worth 84 86 (.iload 6) 2 := o_21 ob_X11_worth rfl rfl rfl rfl
theorem dX11_worth_86 : dc cX11_worth 86 89 (.invokevirtual 179) 3 := o_182 ob_X11_worth rfl rfl rfl rfl
theorem dX11_worth_89 : dc cX11_worth 89 90 .lreturn 1 := o_173 ob_X11_worth rfl rfl rfl
def F_KW_worth (x1 : Int32) (x2 : Int32) (x3 : Int32) (x4 : Int32) (x5 : Int32) (x6 : Int32) (M : Mem) : Option ((String ⊕ Int64) × Mem) :=
  xbind (F_KW_needWay x1 M) fun _ M1 => xbind (F_KW_needMood x1 x2 M1) fun _ M2 => xbind (F_KW_needWay x3 M2) fun _ M3 => xbind (F_KW_needMood x3 x4 M3) fun _ M4 => xbind (F_KW_needPerson x5 M4) fun _ M5 => xbind (F_KW_needFree x1 M5) fun _ M6 => xbind (F_KW_needFree x3 M6) fun _ M7 => (F_Pair_look x1 x3 ((M7.1 1 1).toInt64) ((M7.1 1 2).toInt64) M7).bind fun r8 => (F_Pair_tellWorth 93 x2 x4 x5 r8).bind fun r9 => (F_Fraction_part 93 x6 r9).bind fun r10 => some ((.inr r10, r9))
set_option maxRecDepth 100000 in
set_option maxHeartbeats 4000000 in
theorem K_KW_worth (l : Launch) (g : GB) (htr : l.stackTraces = false) (x1 : Int32) (x2 : Int32) (x3 : Int32) (x4 : Int32) (x5 : Int32) (x6 : Int32) (M : Mem) (rr : String ⊕ Int64) (MZ : Mem) (h : F_KW_worth x1 x2 x3 x4 x5 x6 M = some (rr, MZ)) : CT l g yX11_worth (.code yX11_worth cX11_worth 7 (some .long) :: wAll) { frames := 7, cells := 7, slots := 42, locals := 140 } [.ref (g.2.1 0), .int x1, .int x2, .int x3, .int x4, .int x5, .int x6] M (rvJ rr) MZ := by
  refine CT.of [(0, .ref (g.2.1 0)), (1, .int x1), (2, .int x2), (3, .int x3), (4, .int x4), (5, .int x5), (6, .int x6)] (by decide +kernel) (Nat.le_of_ble_eq_true rfl) rfl htr ?_
  intro p e s m args below meth c K hr ht
  skip
  obtain ⟨PHI, hPHI, h⟩ : ∃ PHI : (String ⊕ Int64) × Mem → Prop, (∀ a, PHI a → a = (rr, MZ)) ∧ wpO (F_KW_worth x1 x2 x3 x4 x5 x6 M) PHI := ⟨fun a => a = (rr, MZ), fun _ h => h, _, h, rfl⟩
  unfold F_KW_worth at h
  refine G_aload_n rfl 0 rfl K dX11_worth_0 ?_
  refine G_iload_n rfl 1 rfl K dX11_worth_1 ?_
  obtain ⟨E1, M1, e1, h⟩ | ⟨r1, M1, e1, h⟩ := wpO_x h
  · cases hPHI _ h
    exact G_callXVt (ci := 11) [.int x1] [] K dX11_worth_2 wv_898 yd_X11_needWay (Nat.le_of_ble_eq_true rfl) (sh_0 _ _) rfl (by decide) (by decide) rfl rfl (Nat.le_of_ble_eq_true rfl) (K_KW_needWay l g htr x1 M _ _ e1) (GX_out K ht (Nat.le_of_ble_eq_true rfl) (Nat.le_of_ble_eq_true rfl) ⟨rfl, rfl⟩)
  refine G_callXVv (ci := 11) [.int x1] [] K dX11_worth_2 wv_898 yd_X11_needWay (Nat.le_of_ble_eq_true rfl) (sh_0 _ _) rfl (by decide) (by decide) rfl rfl (Nat.le_of_ble_eq_true rfl) (K_KW_needWay l g htr x1 M _ _ e1) ?_
  refine G_aload_n rfl 0 rfl K dX11_worth_5 ?_
  refine G_iload_n rfl 1 rfl K dX11_worth_6 ?_
  refine G_iload_n rfl 2 rfl K dX11_worth_7 ?_
  obtain ⟨E2, M2, e2, h⟩ | ⟨r2, M2, e2, h⟩ := wpO_x h
  · cases hPHI _ h
    exact G_callXVt (ci := 11) [.int x1, .int x2] [] K dX11_worth_8 wv_923 yd_X11_needMood (Nat.le_of_ble_eq_true rfl) (sh_0 _ _) rfl (by decide) (by decide) rfl rfl (Nat.le_of_ble_eq_true rfl) (K_KW_needMood l g htr x1 x2 M1 _ _ e2) (GX_out K ht (Nat.le_of_ble_eq_true rfl) (Nat.le_of_ble_eq_true rfl) ⟨rfl, rfl⟩)
  refine G_callXVv (ci := 11) [.int x1, .int x2] [] K dX11_worth_8 wv_923 yd_X11_needMood (Nat.le_of_ble_eq_true rfl) (sh_0 _ _) rfl (by decide) (by decide) rfl rfl (Nat.le_of_ble_eq_true rfl) (K_KW_needMood l g htr x1 x2 M1 _ _ e2) ?_
  refine G_aload_n rfl 0 rfl K dX11_worth_11 ?_
  refine G_iload_n rfl 3 rfl K dX11_worth_12 ?_
  obtain ⟨E3, M3, e3, h⟩ | ⟨r3, M3, e3, h⟩ := wpO_x h
  · cases hPHI _ h
    exact G_callXVt (ci := 11) [.int x3] [] K dX11_worth_13 wv_898 yd_X11_needWay (Nat.le_of_ble_eq_true rfl) (sh_0 _ _) rfl (by decide) (by decide) rfl rfl (Nat.le_of_ble_eq_true rfl) (K_KW_needWay l g htr x3 M2 _ _ e3) (GX_out K ht (Nat.le_of_ble_eq_true rfl) (Nat.le_of_ble_eq_true rfl) ⟨rfl, rfl⟩)
  refine G_callXVv (ci := 11) [.int x3] [] K dX11_worth_13 wv_898 yd_X11_needWay (Nat.le_of_ble_eq_true rfl) (sh_0 _ _) rfl (by decide) (by decide) rfl rfl (Nat.le_of_ble_eq_true rfl) (K_KW_needWay l g htr x3 M2 _ _ e3) ?_
  refine G_aload_n rfl 0 rfl K dX11_worth_16 ?_
  refine G_iload_n rfl 3 rfl K dX11_worth_17 ?_
  refine G_iload 4 rfl K dX11_worth_18 ?_
  obtain ⟨E4, M4, e4, h⟩ | ⟨r4, M4, e4, h⟩ := wpO_x h
  · cases hPHI _ h
    exact G_callXVt (ci := 11) [.int x3, .int x4] [] K dX11_worth_20 wv_923 yd_X11_needMood (Nat.le_of_ble_eq_true rfl) (sh_0 _ _) rfl (by decide) (by decide) rfl rfl (Nat.le_of_ble_eq_true rfl) (K_KW_needMood l g htr x3 x4 M3 _ _ e4) (GX_out K ht (Nat.le_of_ble_eq_true rfl) (Nat.le_of_ble_eq_true rfl) ⟨rfl, rfl⟩)
  refine G_callXVv (ci := 11) [.int x3, .int x4] [] K dX11_worth_20 wv_923 yd_X11_needMood (Nat.le_of_ble_eq_true rfl) (sh_0 _ _) rfl (by decide) (by decide) rfl rfl (Nat.le_of_ble_eq_true rfl) (K_KW_needMood l g htr x3 x4 M3 _ _ e4) ?_
  refine G_aload_n rfl 0 rfl K dX11_worth_23 ?_
  refine G_iload 5 rfl K dX11_worth_24 ?_
  obtain ⟨E5, M5, e5, h⟩ | ⟨r5, M5, e5, h⟩ := wpO_x h
  · cases hPHI _ h
    exact G_callXVt (ci := 11) [.int x5] [] K dX11_worth_26 wv_937 yd_X11_needPerson (Nat.le_of_ble_eq_true rfl) (sh_0 _ _) rfl (by decide) (by decide) rfl rfl (Nat.le_of_ble_eq_true rfl) (K_KW_needPerson l g htr x5 M4 _ _ e5) (GX_out K ht (Nat.le_of_ble_eq_true rfl) (Nat.le_of_ble_eq_true rfl) ⟨rfl, rfl⟩)
  refine G_callXVv (ci := 11) [.int x5] [] K dX11_worth_26 wv_937 yd_X11_needPerson (Nat.le_of_ble_eq_true rfl) (sh_0 _ _) rfl (by decide) (by decide) rfl rfl (Nat.le_of_ble_eq_true rfl) (K_KW_needPerson l g htr x5 M4 _ _ e5) ?_
  refine G_aload_n rfl 0 rfl K dX11_worth_29 ?_
  refine G_iload_n rfl 1 rfl K dX11_worth_30 ?_
  obtain ⟨E6, M6, e6, h⟩ | ⟨r6, M6, e6, h⟩ := wpO_x h
  · cases hPHI _ h
    exact G_callXVt (ci := 11) [.int x1] [] K dX11_worth_31 wv_941 yd_X11_needFree (Nat.le_of_ble_eq_true rfl) (sh_0 _ _) rfl (by decide) (by decide) rfl rfl (Nat.le_of_ble_eq_true rfl) (K_KW_needFree l g htr x1 M5 _ _ e6) (GX_out K ht (Nat.le_of_ble_eq_true rfl) (Nat.le_of_ble_eq_true rfl) ⟨rfl, rfl⟩)
  refine G_callXVv (ci := 11) [.int x1] [] K dX11_worth_31 wv_941 yd_X11_needFree (Nat.le_of_ble_eq_true rfl) (sh_0 _ _) rfl (by decide) (by decide) rfl rfl (Nat.le_of_ble_eq_true rfl) (K_KW_needFree l g htr x1 M5 _ _ e6) ?_
  refine G_aload_n rfl 0 rfl K dX11_worth_34 ?_
  refine G_iload_n rfl 3 rfl K dX11_worth_35 ?_
  obtain ⟨E7, M7, e7, h⟩ | ⟨r7, M7, e7, h⟩ := wpO_x h
  · cases hPHI _ h
    exact G_callXVt (ci := 11) [.int x3] [] K dX11_worth_36 wv_941 yd_X11_needFree (Nat.le_of_ble_eq_true rfl) (sh_0 _ _) rfl (by decide) (by decide) rfl rfl (Nat.le_of_ble_eq_true rfl) (K_KW_needFree l g htr x3 M6 _ _ e7) (GX_out K ht (Nat.le_of_ble_eq_true rfl) (Nat.le_of_ble_eq_true rfl) ⟨rfl, rfl⟩)
  refine G_callXVv (ci := 11) [.int x3] [] K dX11_worth_36 wv_941 yd_X11_needFree (Nat.le_of_ble_eq_true rfl) (sh_0 _ _) rfl (by decide) (by decide) rfl rfl (Nat.le_of_ble_eq_true rfl) (K_KW_needFree l g htr x3 M6 _ _ e7) ?_
  refine G_aload_n rfl 0 rfl K dX11_worth_39 ?_
  refine G_get (ci := 11) (k := 5) K rfl in_X11 wd_407 rfl dX11_worth_40 (Nat.le_of_ble_eq_true rfl) (sh_0 _ _) (Nat.le_of_ble_eq_true rfl) rfl ?_
  refine G_iload_n rfl 1 rfl K dX11_worth_43 ?_
  refine G_iload_n rfl 3 rfl K dX11_worth_44 ?_
  refine G_aload_n rfl 0 rfl K dX11_worth_45 ?_
  refine G_get (ci := 11) (k := 0) K rfl in_X11 wd_402 rfl dX11_worth_46 (Nat.le_of_ble_eq_true rfl) (sh_0 _ _) (Nat.le_of_ble_eq_true rfl) rfl ?_
  refine G_get (ci := 10) (k := 1) K rfl in_X10 wd_64 rfl dX11_worth_49 (Nat.le_of_ble_eq_true rfl) (sh_1 _ _) (Nat.le_of_ble_eq_true rfl) rfl ?_
  refine G_i2l K dX11_worth_52 ?_
  refine G_aload_n rfl 0 rfl K dX11_worth_53 ?_
  refine G_get (ci := 11) (k := 0) K rfl in_X11 wd_402 rfl dX11_worth_54 (Nat.le_of_ble_eq_true rfl) (sh_0 _ _) (Nat.le_of_ble_eq_true rfl) rfl ?_
  refine G_get (ci := 10) (k := 2) K rfl in_X10 wd_70 rfl dX11_worth_57 (Nat.le_of_ble_eq_true rfl) (sh_1 _ _) (Nat.le_of_ble_eq_true rfl) rfl ?_
  refine G_i2l K dX11_worth_60 ?_
  obtain ⟨r8, e8, h⟩ := wpO_bind h
  refine G_callVv (ci := 6) [.int x1, .int x3, .long ((M7.1 1 1).toInt64), .long ((M7.1 1 2).toInt64)] [] K dX11_worth_61 wv_960 yd_X6_look (Nat.le_of_ble_eq_true rfl) (sh_34 _ _) rfl (by decide) (by decide) rfl rfl (Nat.le_of_ble_eq_true rfl) (K_Pair_look l g htr x1 x3 ((M7.1 1 1).toInt64) ((M7.1 1 2).toInt64) M7 _ e8) ?_
  refine G_aload_n rfl 0 rfl K dX11_worth_64 ?_
  refine G_get (ci := 11) (k := 5) K rfl in_X11 wd_407 rfl dX11_worth_65 (Nat.le_of_ble_eq_true rfl) (sh_0 _ _) (Nat.le_of_ble_eq_true rfl) rfl ?_
  refine G_iload_n rfl 2 rfl K dX11_worth_68 ?_
  refine G_iload 4 rfl K dX11_worth_69 ?_
  refine G_iload 5 rfl K dX11_worth_71 ?_
  refine G_aload_n rfl 0 rfl K dX11_worth_73 ?_
  refine G_get (ci := 11) (k := 11) K rfl in_X11 wd_413 rfl dX11_worth_74 (Nat.le_of_ble_eq_true rfl) (sh_0 _ _) (Nat.le_of_ble_eq_true rfl) rfl ?_
  obtain ⟨r9, e9, h⟩ := wpO_bind h
  refine G_callVv (ci := 6) [.int x2, .int x4, .int x5, .ref (g.2.1 93)] [] K dX11_worth_77 wv_961 yd_X6_tellWorth (Nat.le_of_ble_eq_true rfl) (sh_34 _ _) rfl (by decide) (by decide) rfl rfl (Nat.le_of_ble_eq_true rfl) (K_Pair_tellWorth l g htr 93 isFrac_93 x2 x4 x5 r8 _ e9) ?_
  refine G_aload_n rfl 0 rfl K dX11_worth_80 ?_
  refine G_get (ci := 11) (k := 11) K rfl in_X11 wd_413 rfl dX11_worth_81 (Nat.le_of_ble_eq_true rfl) (sh_0 _ _) (Nat.le_of_ble_eq_true rfl) rfl ?_
  refine G_iload 6 rfl K dX11_worth_84 ?_
  obtain ⟨r10, e10, h⟩ := wpO_bind h
  refine G_callVl (ci := 5) [.int x6] [] K dX11_worth_86 wv_979 yd_X5_part (Nat.le_of_ble_eq_true rfl) (sh_93 _ _) rfl (by decide) (by decide) rfl rfl (Nat.le_of_ble_eq_true rfl) (K_Fraction_part l g htr 93 isFrac_93 x6 r9 _ e10) ?_
  cases hPHI _ (wpO_some h)
  exact G_lret K hr dX11_worth_89 (Nat.le_of_ble_eq_true rfl) (Nat.le_of_ble_eq_true rfl) ⟨rfl, rfl⟩
def on_X11_needPair : Nat := 0xb1a800b61c2aa800b61b2a8b00b61c2a8b00b61b2a
theorem ob_X11_needPair : OKB cX11_needPair on_X11_needPair 21 := ⟨by decide +kernel, by decide +kernel⟩
theorem dX11_needPair_0 : dc cX11_needPair 0 1 (.aload_n 0) 1 := o_42 ob_X11_needPair rfl rfl rfl
theorem dX11_needPair_1 : dc cX11_needPair 1 2 (.iload_n 1) 1 := o_27 ob_X11_needPair rfl rfl rfl
theorem dX11_needPair_2 : dc cX11_needPair 2 5 (.invokevirtual 139) 3 := o_182 ob_X11_needPair rfl rfl rfl rfl
theorem dX11_needPair_5 : dc cX11_needPair 5 6 (.aload_n 0) 1 := o_42 ob_X11_needPair rfl rfl rfl
theorem dX11_needPair_6 : dc cX11_needPair 6 7 (.iload_n 2) 1 := o_28 ob_X11_needPair rfl rfl rfl
theorem dX11_needPair_7 : dc cX11_needPair 7 10 (.invokevirtual 139) 3 := o_182 ob_X11_needPair rfl rfl rfl rfl
theorem dX11_needPair_10 : dc cX11_needPair 10 11 (.aload_n 0) 1 := o_42 ob_X11_needPair rfl rfl rfl
theorem dX11_needPair_11 : dc cX11_needPair 11 12 (.iload_n 1) 1 := o_27 ob_X11_needPair rfl rfl rfl
theorem dX11_needPair_12 : dc cX11_needPair 12 15 (.invokevirtual 168) 3 := o_182 ob_X11_needPair rfl rfl rfl rfl
theorem dX11_needPair_15 : dc cX11_needPair 15 16 (.aload_n 0) 1 := o_42 ob_X11_needPair rfl rfl rfl
theorem dX11_needPair_16 : dc cX11_needPair 16 17 (.iload_n 2) 1 := o_28 ob_X11_needPair rfl rfl rfl
theorem dX11_needPair_17 : dc cX11_needPair 17 20 (.invokevirtual 168) 3 := o_182 ob_X11_needPair rfl rfl rfl rfl
theorem dX11_needPair_20 : dc cX11_needPair 20 21 .return_ 1 := o_177 ob_X11_needPair rfl rfl rfl
def F_KW_needPair (x1 : Int32) (x2 : Int32) (M : Mem) : Option ((String ⊕ Unit) × Mem) :=
  xbind (F_KW_needWay x1 M) fun _ M1 => xbind (F_KW_needWay x2 M1) fun _ M2 => xbind (F_KW_needFree x1 M2) fun _ M3 => xbind (F_KW_needFree x2 M3) fun _ M4 => some ((.inr (), M4))
set_option maxRecDepth 100000 in
set_option maxHeartbeats 4000000 in
theorem K_KW_needPair (l : Launch) (g : GB) (htr : l.stackTraces = false) (x1 : Int32) (x2 : Int32) (M : Mem) (rr : String ⊕ Unit) (MZ : Mem) (h : F_KW_needPair x1 x2 M = some (rr, MZ)) : CT l g yX11_needPair (.code yX11_needPair cX11_needPair 3 none :: wAll) { frames := 7, cells := 4, slots := 24, locals := 121 } [.ref (g.2.1 0), .int x1, .int x2] M (rvU rr) MZ := by
  refine CT.of [(0, .ref (g.2.1 0)), (1, .int x1), (2, .int x2)] (by decide +kernel) (Nat.le_of_ble_eq_true rfl) rfl htr ?_
  intro p e s m args below meth c K hr ht
  skip
  obtain ⟨PHI, hPHI, h⟩ : ∃ PHI : (String ⊕ Unit) × Mem → Prop, (∀ a, PHI a → a = (rr, MZ)) ∧ wpO (F_KW_needPair x1 x2 M) PHI := ⟨fun a => a = (rr, MZ), fun _ h => h, _, h, rfl⟩
  unfold F_KW_needPair at h
  refine G_aload_n rfl 0 rfl K dX11_needPair_0 ?_
  refine G_iload_n rfl 1 rfl K dX11_needPair_1 ?_
  obtain ⟨E1, M1, e1, h⟩ | ⟨r1, M1, e1, h⟩ := wpO_x h
  · cases hPHI _ h
    exact G_callXVt (ci := 11) [.int x1] [] K dX11_needPair_2 wv_898 yd_X11_needWay (Nat.le_of_ble_eq_true rfl) (sh_0 _ _) rfl (by decide) (by decide) rfl rfl (Nat.le_of_ble_eq_true rfl) (K_KW_needWay l g htr x1 M _ _ e1) (GX_out K ht (Nat.le_of_ble_eq_true rfl) (Nat.le_of_ble_eq_true rfl) ⟨rfl, rfl⟩)
  refine G_callXVv (ci := 11) [.int x1] [] K dX11_needPair_2 wv_898 yd_X11_needWay (Nat.le_of_ble_eq_true rfl) (sh_0 _ _) rfl (by decide) (by decide) rfl rfl (Nat.le_of_ble_eq_true rfl) (K_KW_needWay l g htr x1 M _ _ e1) ?_
  refine G_aload_n rfl 0 rfl K dX11_needPair_5 ?_
  refine G_iload_n rfl 2 rfl K dX11_needPair_6 ?_
  obtain ⟨E2, M2, e2, h⟩ | ⟨r2, M2, e2, h⟩ := wpO_x h
  · cases hPHI _ h
    exact G_callXVt (ci := 11) [.int x2] [] K dX11_needPair_7 wv_898 yd_X11_needWay (Nat.le_of_ble_eq_true rfl) (sh_0 _ _) rfl (by decide) (by decide) rfl rfl (Nat.le_of_ble_eq_true rfl) (K_KW_needWay l g htr x2 M1 _ _ e2) (GX_out K ht (Nat.le_of_ble_eq_true rfl) (Nat.le_of_ble_eq_true rfl) ⟨rfl, rfl⟩)
  refine G_callXVv (ci := 11) [.int x2] [] K dX11_needPair_7 wv_898 yd_X11_needWay (Nat.le_of_ble_eq_true rfl) (sh_0 _ _) rfl (by decide) (by decide) rfl rfl (Nat.le_of_ble_eq_true rfl) (K_KW_needWay l g htr x2 M1 _ _ e2) ?_
  refine G_aload_n rfl 0 rfl K dX11_needPair_10 ?_
  refine G_iload_n rfl 1 rfl K dX11_needPair_11 ?_
  obtain ⟨E3, M3, e3, h⟩ | ⟨r3, M3, e3, h⟩ := wpO_x h
  · cases hPHI _ h
    exact G_callXVt (ci := 11) [.int x1] [] K dX11_needPair_12 wv_941 yd_X11_needFree (Nat.le_of_ble_eq_true rfl) (sh_0 _ _) rfl (by decide) (by decide) rfl rfl (Nat.le_of_ble_eq_true rfl) (K_KW_needFree l g htr x1 M2 _ _ e3) (GX_out K ht (Nat.le_of_ble_eq_true rfl) (Nat.le_of_ble_eq_true rfl) ⟨rfl, rfl⟩)
  refine G_callXVv (ci := 11) [.int x1] [] K dX11_needPair_12 wv_941 yd_X11_needFree (Nat.le_of_ble_eq_true rfl) (sh_0 _ _) rfl (by decide) (by decide) rfl rfl (Nat.le_of_ble_eq_true rfl) (K_KW_needFree l g htr x1 M2 _ _ e3) ?_
  refine G_aload_n rfl 0 rfl K dX11_needPair_15 ?_
  refine G_iload_n rfl 2 rfl K dX11_needPair_16 ?_
  obtain ⟨E4, M4, e4, h⟩ | ⟨r4, M4, e4, h⟩ := wpO_x h
  · cases hPHI _ h
    exact G_callXVt (ci := 11) [.int x2] [] K dX11_needPair_17 wv_941 yd_X11_needFree (Nat.le_of_ble_eq_true rfl) (sh_0 _ _) rfl (by decide) (by decide) rfl rfl (Nat.le_of_ble_eq_true rfl) (K_KW_needFree l g htr x2 M3 _ _ e4) (GX_out K ht (Nat.le_of_ble_eq_true rfl) (Nat.le_of_ble_eq_true rfl) ⟨rfl, rfl⟩)
  refine G_callXVv (ci := 11) [.int x2] [] K dX11_needPair_17 wv_941 yd_X11_needFree (Nat.le_of_ble_eq_true rfl) (sh_0 _ _) rfl (by decide) (by decide) rfl rfl (Nat.le_of_ble_eq_true rfl) (K_KW_needFree l g htr x2 M3 _ _ e4) ?_
  cases hPHI _ (wpO_some h)
  exact G_vret K hr dX11_needPair_20 (Nat.le_of_ble_eq_true rfl) (Nat.le_of_ble_eq_true rfl) ⟨rfl, rfl⟩
theorem yd_X11_needPair : ydN yX11_needPair 2 := ⟨by decide, by decide, by decide +kernel⟩
theorem wv_990 : wdV "KeptWell" 183 yX11_needPair cX11_needPair 3 none := ⟨wd_990, wd_992, ws_X11_needPair, wd_1, wd_993⟩
theorem wv_994 : wdV "KeptWell" 186 yX6_firstGain cX6_firstGain 4 (some .int) := ⟨wd_994, wd_545, wd_546, wd_6, wd_547⟩
def on_X11_hold : Nat := 0xac030400a7040700a002ba00b62700b42aab00b6857300b40a00b42a857000b40a00b42a1c1b2700b42ab700b61c1b2a
theorem ob_X11_hold : OKB cX11_hold on_X11_hold 48 := ⟨by decide +kernel, by decide +kernel⟩
theorem dX11_hold_0 : dc cX11_hold 0 1 (.aload_n 0) 1 := o_42 ob_X11_hold rfl rfl rfl
theorem dX11_hold_1 : dc cX11_hold 1 2 (.iload_n 1) 1 := o_27 ob_X11_hold rfl rfl rfl
theorem dX11_hold_2 : dc cX11_hold 2 3 (.iload_n 2) 1 := o_28 ob_X11_hold rfl rfl rfl
theorem dX11_hold_3 : dc cX11_hold 3 6 (.invokevirtual 183) 3 := o_182 ob_X11_hold rfl rfl rfl rfl
theorem dX11_hold_6 : dc cX11_hold 6 7 (.aload_n 0) 1 := o_42 ob_X11_hold rfl rfl rfl
theorem dX11_hold_7 : dc cX11_hold 7 10 (.getfield 39) 3 := o_180 ob_X11_hold rfl rfl rfl rfl
theorem dX11_hold_10 : dc cX11_hold 10 11 (.iload_n 1) 1 := o_27 ob_X11_hold rfl rfl rfl
theorem dX11_hold_11 : dc cX11_hold 11 12 (.iload_n 2) 1 := o_28 ob_X11_hold rfl rfl rfl
theorem dX11_hold_12 : dc cX11_hold 12 13 (.aload_n 0) 1 := o_42 ob_X11_hold rfl rfl rfl
theorem dX11_hold_13 : dc cX11_hold 13 16 (.getfield 10) 3 := o_180 ob_X11_hold rfl rfl rfl rfl
theorem dX11_hold_16 : dc cX11_hold 16 19 (.getfield 112) 3 := o_180 ob_X11_hold rfl rfl rfl rfl
theorem dX11_hold_19 : dc cX11_hold 19 20 .i2l 1 := o_133 ob_X11_hold rfl rfl rfl
theorem dX11_hold_20 : dc cX11_hold 20 21 (.aload_n 0) 1 := o_42 ob_X11_hold rfl rfl rfl
theorem dX11_hold_21 : dc cX11_hold 21 24 (.getfield 10) 3 := o_180 ob_X11_hold rfl rfl rfl rfl
theorem dX11_hold_24 : dc cX11_hold 24 27 (.getfield 115) 3 := o_180 ob_X11_hold rfl rfl rfl rfl
theorem dX11_hold_27 : dc cX11_hold 27 28 .i2l 1 := o_133 ob_X11_hold rfl rfl rfl
theorem dX11_hold_28 : dc cX11_hold 28 31 (.invokevirtual 171) 3 := o_182 ob_X11_hold rfl rfl rfl rfl
theorem dX11_hold_31 : dc cX11_hold 31 32 (.aload_n 0) 1 := o_42 ob_X11_hold rfl rfl rfl
theorem dX11_hold_32 : dc cX11_hold 32 35 (.getfield 39) 3 := o_180 ob_X11_hold rfl rfl rfl rfl
theorem dX11_hold_35 : dc cX11_hold 35 38 (.invokevirtual 186) 3 := o_182 ob_X11_hold rfl rfl rfl rfl
theorem dX11_hold_38 : dc cX11_hold 38 39 (.iconst (-1)) 1 := o_2 ob_X11_hold rfl rfl rfl
theorem dX11_hold_39 : dc cX11_hold 39 42 (.if_icmp .ne 7) 3 := o_160 ob_X11_hold rfl rfl rfl rfl
theorem dX11_hold_42 : dc cX11_hold 42 43 (.iconst 1) 1 := o_4 ob_X11_hold rfl rfl rfl
theorem dX11_hold_43 : dc cX11_hold 43 46 (.goto 4) 3 := o_167 ob_X11_hold rfl rfl rfl rfl
theorem dX11_hold_46 : dc cX11_hold 46 47 (.iconst 0) 1 := o_3 ob_X11_hold rfl rfl rfl
theorem dX11_hold_47 : dc cX11_hold 47 48 .ireturn 1 := o_172 ob_X11_hold rfl rfl rfl
def F_KW_hold (x1 : Int32) (x2 : Int32) (M : Mem) : Option ((String ⊕ Bool) × Mem) :=
  xbind (F_KW_needPair x1 x2 M) fun _ M1 => (F_Pair_look x1 x2 ((M1.1 1 1).toInt64) ((M1.1 1 2).toInt64) M1).bind fun r2 => (F_Pair_firstGain r2).bind fun r3 => if r3 = ((-1)) then some ((.inr true, r2)) else some ((.inr false, r2))
set_option maxRecDepth 100000 in
set_option maxHeartbeats 4000000 in
theorem K_KW_hold (l : Launch) (g : GB) (htr : l.stackTraces = false) (x1 : Int32) (x2 : Int32) (M : Mem) (rr : String ⊕ Bool) (MZ : Mem) (h : F_KW_hold x1 x2 M = some (rr, MZ)) : CT l g yX11_hold (.code yX11_hold cX11_hold 3 (some .boolean) :: wAll) { frames := 8, cells := 4, slots := 24, locals := 148 } [.ref (g.2.1 0), .int x1, .int x2] M (rvB rr) MZ := by
  refine CT.of [(0, .ref (g.2.1 0)), (1, .int x1), (2, .int x2)] (by decide +kernel) (Nat.le_of_ble_eq_true rfl) rfl htr ?_
  intro p e s m args below meth c K hr ht
  skip
  obtain ⟨PHI, hPHI, h⟩ : ∃ PHI : (String ⊕ Bool) × Mem → Prop, (∀ a, PHI a → a = (rr, MZ)) ∧ wpO (F_KW_hold x1 x2 M) PHI := ⟨fun a => a = (rr, MZ), fun _ h => h, _, h, rfl⟩
  unfold F_KW_hold at h
  refine G_aload_n rfl 0 rfl K dX11_hold_0 ?_
  refine G_iload_n rfl 1 rfl K dX11_hold_1 ?_
  refine G_iload_n rfl 2 rfl K dX11_hold_2 ?_
  obtain ⟨E1, M1, e1, h⟩ | ⟨r1, M1, e1, h⟩ := wpO_x h
  · cases hPHI _ h
    exact G_callXVt (ci := 11) [.int x1, .int x2] [] K dX11_hold_3 wv_990 yd_X11_needPair (Nat.le_of_ble_eq_true rfl) (sh_0 _ _) rfl (by decide) (by decide) rfl rfl (Nat.le_of_ble_eq_true rfl) (K_KW_needPair l g htr x1 x2 M _ _ e1) (GX_out K ht (Nat.le_of_ble_eq_true rfl) (Nat.le_of_ble_eq_true rfl) ⟨rfl, rfl⟩)
  refine G_callXVv (ci := 11) [.int x1, .int x2] [] K dX11_hold_3 wv_990 yd_X11_needPair (Nat.le_of_ble_eq_true rfl) (sh_0 _ _) rfl (by decide) (by decide) rfl rfl (Nat.le_of_ble_eq_true rfl) (K_KW_needPair l g htr x1 x2 M _ _ e1) ?_
  refine G_aload_n rfl 0 rfl K dX11_hold_6 ?_
  refine G_get (ci := 11) (k := 5) K rfl in_X11 wd_407 rfl dX11_hold_7 (Nat.le_of_ble_eq_true rfl) (sh_0 _ _) (Nat.le_of_ble_eq_true rfl) rfl ?_
  refine G_iload_n rfl 1 rfl K dX11_hold_10 ?_
  refine G_iload_n rfl 2 rfl K dX11_hold_11 ?_
  refine G_aload_n rfl 0 rfl K dX11_hold_12 ?_
  refine G_get (ci := 11) (k := 0) K rfl in_X11 wd_402 rfl dX11_hold_13 (Nat.le_of_ble_eq_true rfl) (sh_0 _ _) (Nat.le_of_ble_eq_true rfl) rfl ?_
  refine G_get (ci := 10) (k := 1) K rfl in_X10 wd_64 rfl dX11_hold_16 (Nat.le_of_ble_eq_true rfl) (sh_1 _ _) (Nat.le_of_ble_eq_true rfl) rfl ?_
  refine G_i2l K dX11_hold_19 ?_
  refine G_aload_n rfl 0 rfl K dX11_hold_20 ?_
  refine G_get (ci := 11) (k := 0) K rfl in_X11 wd_402 rfl dX11_hold_21 (Nat.le_of_ble_eq_true rfl) (sh_0 _ _) (Nat.le_of_ble_eq_true rfl) rfl ?_
  refine G_get (ci := 10) (k := 2) K rfl in_X10 wd_70 rfl dX11_hold_24 (Nat.le_of_ble_eq_true rfl) (sh_1 _ _) (Nat.le_of_ble_eq_true rfl) rfl ?_
  refine G_i2l K dX11_hold_27 ?_
  obtain ⟨r2, e2, h⟩ := wpO_bind h
  refine G_callVv (ci := 6) [.int x1, .int x2, .long ((M1.1 1 1).toInt64), .long ((M1.1 1 2).toInt64)] [] K dX11_hold_28 wv_960 yd_X6_look (Nat.le_of_ble_eq_true rfl) (sh_34 _ _) rfl (by decide) (by decide) rfl rfl (Nat.le_of_ble_eq_true rfl) (K_Pair_look l g htr x1 x2 ((M1.1 1 1).toInt64) ((M1.1 1 2).toInt64) M1 _ e2) ?_
  refine G_aload_n rfl 0 rfl K dX11_hold_31 ?_
  refine G_get (ci := 11) (k := 5) K rfl in_X11 wd_407 rfl dX11_hold_32 (Nat.le_of_ble_eq_true rfl) (sh_0 _ _) (Nat.le_of_ble_eq_true rfl) rfl ?_
  obtain ⟨r3, e3, h⟩ := wpO_bind h
  refine G_callVi (ci := 6) [] [] K dX11_hold_35 wv_994 yd_X6_firstGain (Nat.le_of_ble_eq_true rfl) (sh_34 _ _) rfl (by decide) (by decide) rfl rfl (Nat.le_of_ble_eq_true rfl) (K_Pair_firstGain l g htr  r2 _ e3) ?_
  refine G_iconst (v := (-1)) rfl K dX11_hold_38 ?_
  refine G_icmp_ne (tgt := 46) K dX11_hold_39 (by decide) (fun hc => ?_) (fun hc => ?_)
  · have h := wpO_f h hc
    refine G_iconst (v := 0) rfl K dX11_hold_46 ?_
    cases hPHI _ (wpO_some h)
    exact G_iret K hr rfl dX11_hold_47 (Nat.le_of_ble_eq_true rfl) (Nat.le_of_ble_eq_true rfl) ⟨rfl, rfl⟩
  · have h := wpO_t h hc
    refine G_iconst (v := 1) rfl K dX11_hold_42 ?_
    refine G_goto (tgt := 47) K dX11_hold_43 (by decide) ?_
    cases hPHI _ (wpO_some h)
    exact G_iret K hr rfl dX11_hold_47 (Nat.le_of_ble_eq_true rfl) (Nat.le_of_ble_eq_true rfl) ⟨rfl, rfl⟩
def on_X11_first : Nat := 0xacba00b62700b42aab00b6857300b40a00b42a857000b40a00b42a1c1b2700b42ab700b61c1b2a
theorem ob_X11_first : OKB cX11_first on_X11_first 39 := ⟨by decide +kernel, by decide +kernel⟩
theorem dX11_first_0 : dc cX11_first 0 1 (.aload_n 0) 1 := o_42 ob_X11_first rfl rfl rfl
theorem dX11_first_1 : dc cX11_first 1 2 (.iload_n 1) 1 := o_27 ob_X11_first rfl rfl rfl
theorem dX11_first_2 : dc cX11_first 2 3 (.iload_n 2) 1 := o_28 ob_X11_first rfl rfl rfl
theorem dX11_first_3 : dc cX11_first 3 6 (.invokevirtual 183) 3 := o_182 ob_X11_first rfl rfl rfl rfl
theorem dX11_first_6 : dc cX11_first 6 7 (.aload_n 0) 1 := o_42 ob_X11_first rfl rfl rfl
theorem dX11_first_7 : dc cX11_first 7 10 (.getfield 39) 3 := o_180 ob_X11_first rfl rfl rfl rfl
theorem dX11_first_10 : dc cX11_first 10 11 (.iload_n 1) 1 := o_27 ob_X11_first rfl rfl rfl
theorem dX11_first_11 : dc cX11_first 11 12 (.iload_n 2) 1 := o_28 ob_X11_first rfl rfl rfl
theorem dX11_first_12 : dc cX11_first 12 13 (.aload_n 0) 1 := o_42 ob_X11_first rfl rfl rfl
theorem dX11_first_13 : dc cX11_first 13 16 (.getfield 10) 3 := o_180 ob_X11_first rfl rfl rfl rfl
theorem dX11_first_16 : dc cX11_first 16 19 (.getfield 112) 3 := o_180 ob_X11_first rfl rfl rfl rfl
theorem dX11_first_19 : dc cX11_first 19 20 .i2l 1 := o_133 ob_X11_first rfl rfl rfl
theorem dX11_first_20 : dc cX11_first 20 21 (.aload_n 0) 1 := o_42 ob_X11_first rfl rfl rfl
theorem dX11_first_21 : dc cX11_first 21 24 (.getfield 10) 3 := o_180 ob_X11_first rfl rfl rfl rfl
theorem dX11_first_24 : dc cX11_first 24 27 (.getfield 115) 3 := o_180 ob_X11_first rfl rfl rfl rfl
theorem dX11_first_27 : dc cX11_first 27 28 .i2l 1 := o_133 ob_X11_first rfl rfl rfl
theorem dX11_first_28 : dc cX11_first 28 31 (.invokevirtual 171) 3 := o_182 ob_X11_first rfl rfl rfl rfl
theorem dX11_first_31 : dc cX11_first 31 32 (.aload_n 0) 1 := o_42 ob_X11_first rfl rfl rfl
theorem dX11_first_32 : dc cX11_first 32 35 (.getfield 39) 3 := o_180 ob_X11_first rfl rfl rfl rfl
theorem dX11_first_35 : dc cX11_first 35 38 (.invokevirtual 186) 3 := o_182 ob_X11_first rfl rfl rfl rfl
theorem dX11_first_38 : dc cX11_first 38 39 .ireturn 1 := o_172 ob_X11_first rfl rfl rfl
def F_KW_first (x1 : Int32) (x2 : Int32) (M : Mem) : Option ((String ⊕ Int32) × Mem) :=
  xbind (F_KW_needPair x1 x2 M) fun _ M1 => (F_Pair_look x1 x2 ((M1.1 1 1).toInt64) ((M1.1 1 2).toInt64) M1).bind fun r2 => (F_Pair_firstGain r2).bind fun r3 => some ((.inr r3, r2))
set_option maxRecDepth 100000 in
set_option maxHeartbeats 4000000 in
theorem K_KW_first (l : Launch) (g : GB) (htr : l.stackTraces = false) (x1 : Int32) (x2 : Int32) (M : Mem) (rr : String ⊕ Int32) (MZ : Mem) (h : F_KW_first x1 x2 M = some (rr, MZ)) : CT l g yX11_first (.code yX11_first cX11_first 3 (some .int) :: wAll) { frames := 8, cells := 4, slots := 24, locals := 148 } [.ref (g.2.1 0), .int x1, .int x2] M (rvI rr) MZ := by
  refine CT.of [(0, .ref (g.2.1 0)), (1, .int x1), (2, .int x2)] (by decide +kernel) (Nat.le_of_ble_eq_true rfl) rfl htr ?_
  intro p e s m args below meth c K hr ht
  skip
  obtain ⟨PHI, hPHI, h⟩ : ∃ PHI : (String ⊕ Int32) × Mem → Prop, (∀ a, PHI a → a = (rr, MZ)) ∧ wpO (F_KW_first x1 x2 M) PHI := ⟨fun a => a = (rr, MZ), fun _ h => h, _, h, rfl⟩
  unfold F_KW_first at h
  refine G_aload_n rfl 0 rfl K dX11_first_0 ?_
  refine G_iload_n rfl 1 rfl K dX11_first_1 ?_
  refine G_iload_n rfl 2 rfl K dX11_first_2 ?_
  obtain ⟨E1, M1, e1, h⟩ | ⟨r1, M1, e1, h⟩ := wpO_x h
  · cases hPHI _ h
    exact G_callXVt (ci := 11) [.int x1, .int x2] [] K dX11_first_3 wv_990 yd_X11_needPair (Nat.le_of_ble_eq_true rfl) (sh_0 _ _) rfl (by decide) (by decide) rfl rfl (Nat.le_of_ble_eq_true rfl) (K_KW_needPair l g htr x1 x2 M _ _ e1) (GX_out K ht (Nat.le_of_ble_eq_true rfl) (Nat.le_of_ble_eq_true rfl) ⟨rfl, rfl⟩)
  refine G_callXVv (ci := 11) [.int x1, .int x2] [] K dX11_first_3 wv_990 yd_X11_needPair (Nat.le_of_ble_eq_true rfl) (sh_0 _ _) rfl (by decide) (by decide) rfl rfl (Nat.le_of_ble_eq_true rfl) (K_KW_needPair l g htr x1 x2 M _ _ e1) ?_
  refine G_aload_n rfl 0 rfl K dX11_first_6 ?_
  refine G_get (ci := 11) (k := 5) K rfl in_X11 wd_407 rfl dX11_first_7 (Nat.le_of_ble_eq_true rfl) (sh_0 _ _) (Nat.le_of_ble_eq_true rfl) rfl ?_
  refine G_iload_n rfl 1 rfl K dX11_first_10 ?_
  refine G_iload_n rfl 2 rfl K dX11_first_11 ?_
  refine G_aload_n rfl 0 rfl K dX11_first_12 ?_
  refine G_get (ci := 11) (k := 0) K rfl in_X11 wd_402 rfl dX11_first_13 (Nat.le_of_ble_eq_true rfl) (sh_0 _ _) (Nat.le_of_ble_eq_true rfl) rfl ?_
  refine G_get (ci := 10) (k := 1) K rfl in_X10 wd_64 rfl dX11_first_16 (Nat.le_of_ble_eq_true rfl) (sh_1 _ _) (Nat.le_of_ble_eq_true rfl) rfl ?_
  refine G_i2l K dX11_first_19 ?_
  refine G_aload_n rfl 0 rfl K dX11_first_20 ?_
  refine G_get (ci := 11) (k := 0) K rfl in_X11 wd_402 rfl dX11_first_21 (Nat.le_of_ble_eq_true rfl) (sh_0 _ _) (Nat.le_of_ble_eq_true rfl) rfl ?_
  refine G_get (ci := 10) (k := 2) K rfl in_X10 wd_70 rfl dX11_first_24 (Nat.le_of_ble_eq_true rfl) (sh_1 _ _) (Nat.le_of_ble_eq_true rfl) rfl ?_
  refine G_i2l K dX11_first_27 ?_
  obtain ⟨r2, e2, h⟩ := wpO_bind h
  refine G_callVv (ci := 6) [.int x1, .int x2, .long ((M1.1 1 1).toInt64), .long ((M1.1 1 2).toInt64)] [] K dX11_first_28 wv_960 yd_X6_look (Nat.le_of_ble_eq_true rfl) (sh_34 _ _) rfl (by decide) (by decide) rfl rfl (Nat.le_of_ble_eq_true rfl) (K_Pair_look l g htr x1 x2 ((M1.1 1 1).toInt64) ((M1.1 1 2).toInt64) M1 _ e2) ?_
  refine G_aload_n rfl 0 rfl K dX11_first_31 ?_
  refine G_get (ci := 11) (k := 5) K rfl in_X11 wd_407 rfl dX11_first_32 (Nat.le_of_ble_eq_true rfl) (sh_0 _ _) (Nat.le_of_ble_eq_true rfl) rfl ?_
  obtain ⟨r3, e3, h⟩ := wpO_bind h
  refine G_callVi (ci := 6) [] [] K dX11_first_35 wv_994 yd_X6_firstGain (Nat.le_of_ble_eq_true rfl) (sh_34 _ _) rfl (by decide) (by decide) rfl rfl (Nat.le_of_ble_eq_true rfl) (K_Pair_firstGain l g htr  r2 _ e3) ?_
  cases hPHI _ (wpO_some h)
  exact G_iret K hr rfl dX11_first_38 (Nat.le_of_ble_eq_true rfl) (Nat.le_of_ble_eq_true rfl) ⟨rfl, rfl⟩
theorem yd_X6_leastToHold : ydN yX6_leastToHold 3 := ⟨by decide, by decide, by decide +kernel⟩
theorem wv_1174 : wdV "KeptWell" 189 yX6_leastToHold cX6_leastToHold 9 (some .int) := ⟨wd_1174, wd_1175, wd_1176, wd_6, wd_1177⟩
def on_X11_edge : Nat := 0xacbd00b61d1c1b2700b42aa800b61c2aa800b61b2a6200b60c10051d2a8b00b61c2a8b00b61b2a
theorem ob_X11_edge : OKB cX11_edge on_X11_edge 39 := ⟨by decide +kernel, by decide +kernel⟩
theorem dX11_edge_0 : dc cX11_edge 0 1 (.aload_n 0) 1 := o_42 ob_X11_edge rfl rfl rfl
theorem dX11_edge_1 : dc cX11_edge 1 2 (.iload_n 1) 1 := o_27 ob_X11_edge rfl rfl rfl
theorem dX11_edge_2 : dc cX11_edge 2 5 (.invokevirtual 139) 3 := o_182 ob_X11_edge rfl rfl rfl rfl
theorem dX11_edge_5 : dc cX11_edge 5 6 (.aload_n 0) 1 := o_42 ob_X11_edge rfl rfl rfl
theorem dX11_edge_6 : dc cX11_edge 6 7 (.iload_n 2) 1 := o_28 ob_X11_edge rfl rfl rfl
theorem dX11_edge_7 : dc cX11_edge 7 10 (.invokevirtual 139) 3 := o_182 ob_X11_edge rfl rfl rfl rfl
theorem dX11_edge_10 : dc cX11_edge 10 11 (.aload_n 0) 1 := o_42 ob_X11_edge rfl rfl rfl
theorem dX11_edge_11 : dc cX11_edge 11 12 (.iload_n 3) 1 := o_29 ob_X11_edge rfl rfl rfl
theorem dX11_edge_12 : dc cX11_edge 12 13 (.iconst 2) 1 := o_5 ob_X11_edge rfl rfl rfl
theorem dX11_edge_13 : dc cX11_edge 13 15 (.bipush 12) 2 := o_16 ob_X11_edge rfl rfl rfl rfl
theorem dX11_edge_15 : dc cX11_edge 15 18 (.invokevirtual 98) 3 := o_182 ob_X11_edge rfl rfl rfl rfl
theorem dX11_edge_18 : dc cX11_edge 18 19 (.aload_n 0) 1 := o_42 ob_X11_edge rfl rfl rfl
theorem dX11_edge_19 : dc cX11_edge 19 20 (.iload_n 1) 1 := o_27 ob_X11_edge rfl rfl rfl
theorem dX11_edge_20 : dc cX11_edge 20 23 (.invokevirtual 168) 3 := o_182 ob_X11_edge rfl rfl rfl rfl
theorem dX11_edge_23 : dc cX11_edge 23 24 (.aload_n 0) 1 := o_42 ob_X11_edge rfl rfl rfl
theorem dX11_edge_24 : dc cX11_edge 24 25 (.iload_n 2) 1 := o_28 ob_X11_edge rfl rfl rfl
theorem dX11_edge_25 : dc cX11_edge 25 28 (.invokevirtual 168) 3 := o_182 ob_X11_edge rfl rfl rfl rfl
theorem dX11_edge_28 : dc cX11_edge 28 29 (.aload_n 0) 1 := o_42 ob_X11_edge rfl rfl rfl
theorem dX11_edge_29 : dc cX11_edge 29 32 (.getfield 39) 3 := o_180 ob_X11_edge rfl rfl rfl rfl
theorem dX11_edge_32 : dc cX11_edge 32 33 (.iload_n 1) 1 := o_27 ob_X11_edge rfl rfl rfl
theorem dX11_edge_33 : dc cX11_edge 33 34 (.iload_n 2) 1 := o_28 ob_X11_edge rfl rfl rfl
theorem dX11_edge_34 : dc cX11_edge 34 35 (.iload_n 3) 1 := o_29 ob_X11_edge rfl rfl rfl
theorem dX11_edge_35 : dc cX11_edge 35 38 (.invokevirtual 189) 3 := o_182 ob_X11_edge rfl rfl rfl rfl
theorem dX11_edge_38 : dc cX11_edge 38 39 .ireturn 1 := o_172 ob_X11_edge rfl rfl rfl
def F_KW_edge (x1 : Int32) (x2 : Int32) (x3 : Int32) (M : Mem) : Option ((String ⊕ Int32) × Mem) :=
  xbind (F_KW_needWay x1 M) fun _ M1 => xbind (F_KW_needWay x2 M1) fun _ M2 => xbind (F_KW_needNumber x3 2 12 M2) fun _ M3 => xbind (F_KW_needFree x1 M3) fun _ M4 => xbind (F_KW_needFree x2 M4) fun _ M5 => (F_Pair_leastToHold x1 x2 x3 M5).bind fun r6 => some ((.inr r6.1, r6.2))
set_option maxRecDepth 100000 in
set_option maxHeartbeats 4000000 in
theorem K_KW_edge (l : Launch) (g : GB) (htr : l.stackTraces = false) (x1 : Int32) (x2 : Int32) (x3 : Int32) (M : Mem) (rr : String ⊕ Int32) (MZ : Mem) (h : F_KW_edge x1 x2 x3 M = some (rr, MZ)) : CT l g yX11_edge (.code yX11_edge cX11_edge 4 (some .int) :: wAll) { frames := 7, cells := 5, slots := 30, locals := 176 } [.ref (g.2.1 0), .int x1, .int x2, .int x3] M (rvI rr) MZ := by
  refine CT.of [(0, .ref (g.2.1 0)), (1, .int x1), (2, .int x2), (3, .int x3)] (by decide +kernel) (Nat.le_of_ble_eq_true rfl) rfl htr ?_
  intro p e s m args below meth c K hr ht
  skip
  obtain ⟨PHI, hPHI, h⟩ : ∃ PHI : (String ⊕ Int32) × Mem → Prop, (∀ a, PHI a → a = (rr, MZ)) ∧ wpO (F_KW_edge x1 x2 x3 M) PHI := ⟨fun a => a = (rr, MZ), fun _ h => h, _, h, rfl⟩
  unfold F_KW_edge at h
  refine G_aload_n rfl 0 rfl K dX11_edge_0 ?_
  refine G_iload_n rfl 1 rfl K dX11_edge_1 ?_
  obtain ⟨E1, M1, e1, h⟩ | ⟨r1, M1, e1, h⟩ := wpO_x h
  · cases hPHI _ h
    exact G_callXVt (ci := 11) [.int x1] [] K dX11_edge_2 wv_898 yd_X11_needWay (Nat.le_of_ble_eq_true rfl) (sh_0 _ _) rfl (by decide) (by decide) rfl rfl (Nat.le_of_ble_eq_true rfl) (K_KW_needWay l g htr x1 M _ _ e1) (GX_out K ht (Nat.le_of_ble_eq_true rfl) (Nat.le_of_ble_eq_true rfl) ⟨rfl, rfl⟩)
  refine G_callXVv (ci := 11) [.int x1] [] K dX11_edge_2 wv_898 yd_X11_needWay (Nat.le_of_ble_eq_true rfl) (sh_0 _ _) rfl (by decide) (by decide) rfl rfl (Nat.le_of_ble_eq_true rfl) (K_KW_needWay l g htr x1 M _ _ e1) ?_
  refine G_aload_n rfl 0 rfl K dX11_edge_5 ?_
  refine G_iload_n rfl 2 rfl K dX11_edge_6 ?_
  obtain ⟨E2, M2, e2, h⟩ | ⟨r2, M2, e2, h⟩ := wpO_x h
  · cases hPHI _ h
    exact G_callXVt (ci := 11) [.int x2] [] K dX11_edge_7 wv_898 yd_X11_needWay (Nat.le_of_ble_eq_true rfl) (sh_0 _ _) rfl (by decide) (by decide) rfl rfl (Nat.le_of_ble_eq_true rfl) (K_KW_needWay l g htr x2 M1 _ _ e2) (GX_out K ht (Nat.le_of_ble_eq_true rfl) (Nat.le_of_ble_eq_true rfl) ⟨rfl, rfl⟩)
  refine G_callXVv (ci := 11) [.int x2] [] K dX11_edge_7 wv_898 yd_X11_needWay (Nat.le_of_ble_eq_true rfl) (sh_0 _ _) rfl (by decide) (by decide) rfl rfl (Nat.le_of_ble_eq_true rfl) (K_KW_needWay l g htr x2 M1 _ _ e2) ?_
  refine G_aload_n rfl 0 rfl K dX11_edge_10 ?_
  refine G_iload_n rfl 3 rfl K dX11_edge_11 ?_
  refine G_iconst (v := 2) rfl K dX11_edge_12 ?_
  refine G_bipush (v := 12) rfl K dX11_edge_13 ?_
  obtain ⟨E3, M3, e3, h⟩ | ⟨r3, M3, e3, h⟩ := wpO_x h
  · cases hPHI _ h
    exact G_callXVt (ci := 11) [.int x3, .int 2, .int 12] [] K dX11_edge_15 wv_654 yd_X11_needNumber (Nat.le_of_ble_eq_true rfl) (sh_0 _ _) rfl (by decide) (by decide) rfl rfl (Nat.le_of_ble_eq_true rfl) (K_KW_needNumber l g htr x3 2 12 M2 _ _ e3) (GX_out K ht (Nat.le_of_ble_eq_true rfl) (Nat.le_of_ble_eq_true rfl) ⟨rfl, rfl⟩)
  refine G_callXVv (ci := 11) [.int x3, .int 2, .int 12] [] K dX11_edge_15 wv_654 yd_X11_needNumber (Nat.le_of_ble_eq_true rfl) (sh_0 _ _) rfl (by decide) (by decide) rfl rfl (Nat.le_of_ble_eq_true rfl) (K_KW_needNumber l g htr x3 2 12 M2 _ _ e3) ?_
  refine G_aload_n rfl 0 rfl K dX11_edge_18 ?_
  refine G_iload_n rfl 1 rfl K dX11_edge_19 ?_
  obtain ⟨E4, M4, e4, h⟩ | ⟨r4, M4, e4, h⟩ := wpO_x h
  · cases hPHI _ h
    exact G_callXVt (ci := 11) [.int x1] [] K dX11_edge_20 wv_941 yd_X11_needFree (Nat.le_of_ble_eq_true rfl) (sh_0 _ _) rfl (by decide) (by decide) rfl rfl (Nat.le_of_ble_eq_true rfl) (K_KW_needFree l g htr x1 M3 _ _ e4) (GX_out K ht (Nat.le_of_ble_eq_true rfl) (Nat.le_of_ble_eq_true rfl) ⟨rfl, rfl⟩)
  refine G_callXVv (ci := 11) [.int x1] [] K dX11_edge_20 wv_941 yd_X11_needFree (Nat.le_of_ble_eq_true rfl) (sh_0 _ _) rfl (by decide) (by decide) rfl rfl (Nat.le_of_ble_eq_true rfl) (K_KW_needFree l g htr x1 M3 _ _ e4) ?_
  refine G_aload_n rfl 0 rfl K dX11_edge_23 ?_
  refine G_iload_n rfl 2 rfl K dX11_edge_24 ?_
  obtain ⟨E5, M5, e5, h⟩ | ⟨r5, M5, e5, h⟩ := wpO_x h
  · cases hPHI _ h
    exact G_callXVt (ci := 11) [.int x2] [] K dX11_edge_25 wv_941 yd_X11_needFree (Nat.le_of_ble_eq_true rfl) (sh_0 _ _) rfl (by decide) (by decide) rfl rfl (Nat.le_of_ble_eq_true rfl) (K_KW_needFree l g htr x2 M4 _ _ e5) (GX_out K ht (Nat.le_of_ble_eq_true rfl) (Nat.le_of_ble_eq_true rfl) ⟨rfl, rfl⟩)
  refine G_callXVv (ci := 11) [.int x2] [] K dX11_edge_25 wv_941 yd_X11_needFree (Nat.le_of_ble_eq_true rfl) (sh_0 _ _) rfl (by decide) (by decide) rfl rfl (Nat.le_of_ble_eq_true rfl) (K_KW_needFree l g htr x2 M4 _ _ e5) ?_
  refine G_aload_n rfl 0 rfl K dX11_edge_28 ?_
  refine G_get (ci := 11) (k := 5) K rfl in_X11 wd_407 rfl dX11_edge_29 (Nat.le_of_ble_eq_true rfl) (sh_0 _ _) (Nat.le_of_ble_eq_true rfl) rfl ?_
  refine G_iload_n rfl 1 rfl K dX11_edge_32 ?_
  refine G_iload_n rfl 2 rfl K dX11_edge_33 ?_
  refine G_iload_n rfl 3 rfl K dX11_edge_34 ?_
  obtain ⟨r6, e6, h⟩ := wpO_bind h
  refine G_callVi (ci := 6) [.int x1, .int x2, .int x3] [] K dX11_edge_35 wv_1174 yd_X6_leastToHold (Nat.le_of_ble_eq_true rfl) (sh_34 _ _) rfl (by decide) (by decide) rfl rfl (Nat.le_of_ble_eq_true rfl) (K_Pair_leastToHold l g htr x1 x2 x3 M5 _ _ e6) ?_
  cases hPHI _ (wpO_some h)
  exact G_iret K hr rfl dX11_edge_38 (Nat.le_of_ble_eq_true rfl) (Nat.le_of_ble_eq_true rfl) ⟨rfl, rfl⟩
theorem yd_X6_bestTogether : ydN yX6_bestTogether 0 := ⟨by decide, by decide, by decide +kernel⟩
theorem wv_467 : wdV "KeptWell" 192 yX6_bestTogether cX6_bestTogether 12 (some .int) := ⟨wd_467, wd_468, wd_469, wd_6, wd_470⟩
def on_X11_together : Nat := 0xacc000b62700b42a
theorem ob_X11_together : OKB cX11_together on_X11_together 8 := ⟨by decide +kernel, by decide +kernel⟩
theorem dX11_together_0 : dc cX11_together 0 1 (.aload_n 0) 1 := o_42 ob_X11_together rfl rfl rfl
theorem dX11_together_1 : dc cX11_together 1 4 (.getfield 39) 3 := o_180 ob_X11_together rfl rfl rfl rfl
theorem dX11_together_4 : dc cX11_together 4 7 (.invokevirtual 192) 3 := o_182 ob_X11_together rfl rfl rfl rfl
theorem dX11_together_7 : dc cX11_together 7 8 .ireturn 1 := o_172 ob_X11_together rfl rfl rfl
def F_KW_together (M : Mem) : Option (Int32 × Mem) :=
  (F_Pair_bestTogether M).bind fun r1 => some ((r1.1, r1.2))
set_option maxRecDepth 100000 in
set_option maxHeartbeats 4000000 in
theorem K_KW_together (l : Launch) (g : GB) (htr : l.stackTraces = false) (M : Mem) (rr : Int32) (MZ : Mem) (h : F_KW_together M = some (rr, MZ)) : CT l g yX11_together (.code yX11_together cX11_together 1 (some .int) :: wAll) { frames := 6, cells := 0, slots := 0, locals := 179 } [.ref (g.2.1 0)] M (.inl (some (.int rr))) MZ := by
  refine CT.of [(0, .ref (g.2.1 0))] (by decide +kernel) (Nat.le_of_ble_eq_true rfl) rfl htr ?_
  intro p e s m args below meth c K hr ht
  skip
  obtain ⟨PHI, hPHI, h⟩ : ∃ PHI : Int32 × Mem → Prop, (∀ a, PHI a → a = (rr, MZ)) ∧ wpO (F_KW_together M) PHI := ⟨fun a => a = (rr, MZ), fun _ h => h, _, h, rfl⟩
  unfold F_KW_together at h
  refine G_aload_n rfl 0 rfl K dX11_together_0 ?_
  refine G_get (ci := 11) (k := 5) K rfl in_X11 wd_407 rfl dX11_together_1 (Nat.le_of_ble_eq_true rfl) (sh_0 _ _) (Nat.le_of_ble_eq_true rfl) rfl ?_
  obtain ⟨r1, e1, h⟩ := wpO_bind h
  refine G_callVi (ci := 6) [] [] K dX11_together_4 wv_467 yd_X6_bestTogether (Nat.le_of_ble_eq_true rfl) (sh_34 _ _) rfl (by decide) (by decide) rfl rfl (Nat.le_of_ble_eq_true rfl) (K_Pair_bestTogether l g htr  M _ _ e1) ?_
  cases hPHI _ (wpO_some h)
  exact G_iret K hr rfl dX11_together_7 (Nat.le_of_ble_eq_true rfl) (Nat.le_of_ble_eq_true rfl) ⟨rfl, rfl⟩
theorem yd_X6_costToLeave : ydN yX6_costToLeave 0 := ⟨by decide, by decide, by decide +kernel⟩
theorem wv_1412 : wdV "KeptWell" 195 yX6_costToLeave cX6_costToLeave 5 (some .int) := ⟨wd_1412, wd_1413, wd_1414, wd_6, wd_1415⟩
def on_X11_begin : Nat := 0xacc300b62700b42aab00b6857300b40a00b42a857000b40a00b42a1c1b2700b42ab700b61c1b2a
theorem ob_X11_begin : OKB cX11_begin on_X11_begin 39 := ⟨by decide +kernel, by decide +kernel⟩
theorem dX11_begin_0 : dc cX11_begin 0 1 (.aload_n 0) 1 := o_42 ob_X11_begin rfl rfl rfl
theorem dX11_begin_1 : dc cX11_begin 1 2 (.iload_n 1) 1 := o_27 ob_X11_begin rfl rfl rfl
theorem dX11_begin_2 : dc cX11_begin 2 3 (.iload_n 2) 1 := o_28 ob_X11_begin rfl rfl rfl
theorem dX11_begin_3 : dc cX11_begin 3 6 (.invokevirtual 183) 3 := o_182 ob_X11_begin rfl rfl rfl rfl
theorem dX11_begin_6 : dc cX11_begin 6 7 (.aload_n 0) 1 := o_42 ob_X11_begin rfl rfl rfl
theorem dX11_begin_7 : dc cX11_begin 7 10 (.getfield 39) 3 := o_180 ob_X11_begin rfl rfl rfl rfl
theorem dX11_begin_10 : dc cX11_begin 10 11 (.iload_n 1) 1 := o_27 ob_X11_begin rfl rfl rfl
theorem dX11_begin_11 : dc cX11_begin 11 12 (.iload_n 2) 1 := o_28 ob_X11_begin rfl rfl rfl
theorem dX11_begin_12 : dc cX11_begin 12 13 (.aload_n 0) 1 := o_42 ob_X11_begin rfl rfl rfl
theorem dX11_begin_13 : dc cX11_begin 13 16 (.getfield 10) 3 := o_180 ob_X11_begin rfl rfl rfl rfl
theorem dX11_begin_16 : dc cX11_begin 16 19 (.getfield 112) 3 := o_180 ob_X11_begin rfl rfl rfl rfl
theorem dX11_begin_19 : dc cX11_begin 19 20 .i2l 1 := o_133 ob_X11_begin rfl rfl rfl
theorem dX11_begin_20 : dc cX11_begin 20 21 (.aload_n 0) 1 := o_42 ob_X11_begin rfl rfl rfl
theorem dX11_begin_21 : dc cX11_begin 21 24 (.getfield 10) 3 := o_180 ob_X11_begin rfl rfl rfl rfl
theorem dX11_begin_24 : dc cX11_begin 24 27 (.getfield 115) 3 := o_180 ob_X11_begin rfl rfl rfl rfl
theorem dX11_begin_27 : dc cX11_begin 27 28 .i2l 1 := o_133 ob_X11_begin rfl rfl rfl
theorem dX11_begin_28 : dc cX11_begin 28 31 (.invokevirtual 171) 3 := o_182 ob_X11_begin rfl rfl rfl rfl
theorem dX11_begin_31 : dc cX11_begin 31 32 (.aload_n 0) 1 := o_42 ob_X11_begin rfl rfl rfl
theorem dX11_begin_32 : dc cX11_begin 32 35 (.getfield 39) 3 := o_180 ob_X11_begin rfl rfl rfl rfl
theorem dX11_begin_35 : dc cX11_begin 35 38 (.invokevirtual 195) 3 := o_182 ob_X11_begin rfl rfl rfl rfl
theorem dX11_begin_38 : dc cX11_begin 38 39 .ireturn 1 := o_172 ob_X11_begin rfl rfl rfl
def F_KW_begin (x1 : Int32) (x2 : Int32) (M : Mem) : Option ((String ⊕ Int32) × Mem) :=
  xbind (F_KW_needPair x1 x2 M) fun _ M1 => (F_Pair_look x1 x2 ((M1.1 1 1).toInt64) ((M1.1 1 2).toInt64) M1).bind fun r2 => (F_Pair_costToLeave r2).bind fun r3 => some ((.inr r3, r2))
set_option maxRecDepth 100000 in
set_option maxHeartbeats 4000000 in
theorem K_KW_begin (l : Launch) (g : GB) (htr : l.stackTraces = false) (x1 : Int32) (x2 : Int32) (M : Mem) (rr : String ⊕ Int32) (MZ : Mem) (h : F_KW_begin x1 x2 M = some (rr, MZ)) : CT l g yX11_begin (.code yX11_begin cX11_begin 3 (some .int) :: wAll) { frames := 8, cells := 4, slots := 24, locals := 143 } [.ref (g.2.1 0), .int x1, .int x2] M (rvI rr) MZ := by
  refine CT.of [(0, .ref (g.2.1 0)), (1, .int x1), (2, .int x2)] (by decide +kernel) (Nat.le_of_ble_eq_true rfl) rfl htr ?_
  intro p e s m args below meth c K hr ht
  skip
  obtain ⟨PHI, hPHI, h⟩ : ∃ PHI : (String ⊕ Int32) × Mem → Prop, (∀ a, PHI a → a = (rr, MZ)) ∧ wpO (F_KW_begin x1 x2 M) PHI := ⟨fun a => a = (rr, MZ), fun _ h => h, _, h, rfl⟩
  unfold F_KW_begin at h
  refine G_aload_n rfl 0 rfl K dX11_begin_0 ?_
  refine G_iload_n rfl 1 rfl K dX11_begin_1 ?_
  refine G_iload_n rfl 2 rfl K dX11_begin_2 ?_
  obtain ⟨E1, M1, e1, h⟩ | ⟨r1, M1, e1, h⟩ := wpO_x h
  · cases hPHI _ h
    exact G_callXVt (ci := 11) [.int x1, .int x2] [] K dX11_begin_3 wv_990 yd_X11_needPair (Nat.le_of_ble_eq_true rfl) (sh_0 _ _) rfl (by decide) (by decide) rfl rfl (Nat.le_of_ble_eq_true rfl) (K_KW_needPair l g htr x1 x2 M _ _ e1) (GX_out K ht (Nat.le_of_ble_eq_true rfl) (Nat.le_of_ble_eq_true rfl) ⟨rfl, rfl⟩)
  refine G_callXVv (ci := 11) [.int x1, .int x2] [] K dX11_begin_3 wv_990 yd_X11_needPair (Nat.le_of_ble_eq_true rfl) (sh_0 _ _) rfl (by decide) (by decide) rfl rfl (Nat.le_of_ble_eq_true rfl) (K_KW_needPair l g htr x1 x2 M _ _ e1) ?_
  refine G_aload_n rfl 0 rfl K dX11_begin_6 ?_
  refine G_get (ci := 11) (k := 5) K rfl in_X11 wd_407 rfl dX11_begin_7 (Nat.le_of_ble_eq_true rfl) (sh_0 _ _) (Nat.le_of_ble_eq_true rfl) rfl ?_
  refine G_iload_n rfl 1 rfl K dX11_begin_10 ?_
  refine G_iload_n rfl 2 rfl K dX11_begin_11 ?_
  refine G_aload_n rfl 0 rfl K dX11_begin_12 ?_
  refine G_get (ci := 11) (k := 0) K rfl in_X11 wd_402 rfl dX11_begin_13 (Nat.le_of_ble_eq_true rfl) (sh_0 _ _) (Nat.le_of_ble_eq_true rfl) rfl ?_
  refine G_get (ci := 10) (k := 1) K rfl in_X10 wd_64 rfl dX11_begin_16 (Nat.le_of_ble_eq_true rfl) (sh_1 _ _) (Nat.le_of_ble_eq_true rfl) rfl ?_
  refine G_i2l K dX11_begin_19 ?_
  refine G_aload_n rfl 0 rfl K dX11_begin_20 ?_
  refine G_get (ci := 11) (k := 0) K rfl in_X11 wd_402 rfl dX11_begin_21 (Nat.le_of_ble_eq_true rfl) (sh_0 _ _) (Nat.le_of_ble_eq_true rfl) rfl ?_
  refine G_get (ci := 10) (k := 2) K rfl in_X10 wd_70 rfl dX11_begin_24 (Nat.le_of_ble_eq_true rfl) (sh_1 _ _) (Nat.le_of_ble_eq_true rfl) rfl ?_
  refine G_i2l K dX11_begin_27 ?_
  obtain ⟨r2, e2, h⟩ := wpO_bind h
  refine G_callVv (ci := 6) [.int x1, .int x2, .long ((M1.1 1 1).toInt64), .long ((M1.1 1 2).toInt64)] [] K dX11_begin_28 wv_960 yd_X6_look (Nat.le_of_ble_eq_true rfl) (sh_34 _ _) rfl (by decide) (by decide) rfl rfl (Nat.le_of_ble_eq_true rfl) (K_Pair_look l g htr x1 x2 ((M1.1 1 1).toInt64) ((M1.1 1 2).toInt64) M1 _ e2) ?_
  refine G_aload_n rfl 0 rfl K dX11_begin_31 ?_
  refine G_get (ci := 11) (k := 5) K rfl in_X11 wd_407 rfl dX11_begin_32 (Nat.le_of_ble_eq_true rfl) (sh_0 _ _) (Nat.le_of_ble_eq_true rfl) rfl ?_
  obtain ⟨r3, e3, h⟩ := wpO_bind h
  refine G_callVi (ci := 6) [] [] K dX11_begin_35 wv_1412 yd_X6_costToLeave (Nat.le_of_ble_eq_true rfl) (sh_34 _ _) rfl (by decide) (by decide) rfl rfl (Nat.le_of_ble_eq_true rfl) (K_Pair_costToLeave l g htr  r2 _ e3) ?_
  cases hPHI _ (wpO_some h)
  exact G_iret K hr rfl dX11_begin_38 (Nat.le_of_ble_eq_true rfl) (Nat.le_of_ble_eq_true rfl) ⟨rfl, rfl⟩
def on_X11_needAnswer : Nat := 0xb1a800b61c2a9a00b61d1c2a8b00b61c2aa500b61b2a
theorem ob_X11_needAnswer : OKB cX11_needAnswer on_X11_needAnswer 22 := ⟨by decide +kernel, by decide +kernel⟩
theorem dX11_needAnswer_0 : dc cX11_needAnswer 0 1 (.aload_n 0) 1 := o_42 ob_X11_needAnswer rfl rfl rfl
theorem dX11_needAnswer_1 : dc cX11_needAnswer 1 2 (.iload_n 1) 1 := o_27 ob_X11_needAnswer rfl rfl rfl
theorem dX11_needAnswer_2 : dc cX11_needAnswer 2 5 (.invokevirtual 165) 3 := o_182 ob_X11_needAnswer rfl rfl rfl rfl
theorem dX11_needAnswer_5 : dc cX11_needAnswer 5 6 (.aload_n 0) 1 := o_42 ob_X11_needAnswer rfl rfl rfl
theorem dX11_needAnswer_6 : dc cX11_needAnswer 6 7 (.iload_n 2) 1 := o_28 ob_X11_needAnswer rfl rfl rfl
theorem dX11_needAnswer_7 : dc cX11_needAnswer 7 10 (.invokevirtual 139) 3 := o_182 ob_X11_needAnswer rfl rfl rfl rfl
theorem dX11_needAnswer_10 : dc cX11_needAnswer 10 11 (.aload_n 0) 1 := o_42 ob_X11_needAnswer rfl rfl rfl
theorem dX11_needAnswer_11 : dc cX11_needAnswer 11 12 (.iload_n 2) 1 := o_28 ob_X11_needAnswer rfl rfl rfl
theorem dX11_needAnswer_12 : dc cX11_needAnswer 12 13 (.iload_n 3) 1 := o_29 ob_X11_needAnswer rfl rfl rfl
theorem dX11_needAnswer_13 : dc cX11_needAnswer 13 16 (.invokevirtual 154) 3 := o_182 ob_X11_needAnswer rfl rfl rfl rfl
theorem dX11_needAnswer_16 : dc cX11_needAnswer 16 17 (.aload_n 0) 1 := o_42 ob_X11_needAnswer rfl rfl rfl
theorem dX11_needAnswer_17 : dc cX11_needAnswer 17 18 (.iload_n 2) 1 := o_28 ob_X11_needAnswer rfl rfl rfl
theorem dX11_needAnswer_18 : dc cX11_needAnswer 18 21 (.invokevirtual 168) 3 := o_182 ob_X11_needAnswer rfl rfl rfl rfl
theorem dX11_needAnswer_21 : dc cX11_needAnswer 21 22 .return_ 1 := o_177 ob_X11_needAnswer rfl rfl rfl
def F_KW_needAnswer (x1 : Int32) (x2 : Int32) (x3 : Int32) (M : Mem) : Option ((String ⊕ Unit) × Mem) :=
  xbind (F_KW_needPerson x1 M) fun _ M1 => xbind (F_KW_needWay x2 M1) fun _ M2 => xbind (F_KW_needMood x2 x3 M2) fun _ M3 => xbind (F_KW_needFree x2 M3) fun _ M4 => some ((.inr (), M4))
set_option maxRecDepth 100000 in
set_option maxHeartbeats 4000000 in
theorem K_KW_needAnswer (l : Launch) (g : GB) (htr : l.stackTraces = false) (x1 : Int32) (x2 : Int32) (x3 : Int32) (M : Mem) (rr : String ⊕ Unit) (MZ : Mem) (h : F_KW_needAnswer x1 x2 x3 M = some (rr, MZ)) : CT l g yX11_needAnswer (.code yX11_needAnswer cX11_needAnswer 4 none :: wAll) { frames := 7, cells := 4, slots := 24, locals := 122 } [.ref (g.2.1 0), .int x1, .int x2, .int x3] M (rvU rr) MZ := by
  refine CT.of [(0, .ref (g.2.1 0)), (1, .int x1), (2, .int x2), (3, .int x3)] (by decide +kernel) (Nat.le_of_ble_eq_true rfl) rfl htr ?_
  intro p e s m args below meth c K hr ht
  skip
  obtain ⟨PHI, hPHI, h⟩ : ∃ PHI : (String ⊕ Unit) × Mem → Prop, (∀ a, PHI a → a = (rr, MZ)) ∧ wpO (F_KW_needAnswer x1 x2 x3 M) PHI := ⟨fun a => a = (rr, MZ), fun _ h => h, _, h, rfl⟩
  unfold F_KW_needAnswer at h
  refine G_aload_n rfl 0 rfl K dX11_needAnswer_0 ?_
  refine G_iload_n rfl 1 rfl K dX11_needAnswer_1 ?_
  obtain ⟨E1, M1, e1, h⟩ | ⟨r1, M1, e1, h⟩ := wpO_x h
  · cases hPHI _ h
    exact G_callXVt (ci := 11) [.int x1] [] K dX11_needAnswer_2 wv_937 yd_X11_needPerson (Nat.le_of_ble_eq_true rfl) (sh_0 _ _) rfl (by decide) (by decide) rfl rfl (Nat.le_of_ble_eq_true rfl) (K_KW_needPerson l g htr x1 M _ _ e1) (GX_out K ht (Nat.le_of_ble_eq_true rfl) (Nat.le_of_ble_eq_true rfl) ⟨rfl, rfl⟩)
  refine G_callXVv (ci := 11) [.int x1] [] K dX11_needAnswer_2 wv_937 yd_X11_needPerson (Nat.le_of_ble_eq_true rfl) (sh_0 _ _) rfl (by decide) (by decide) rfl rfl (Nat.le_of_ble_eq_true rfl) (K_KW_needPerson l g htr x1 M _ _ e1) ?_
  refine G_aload_n rfl 0 rfl K dX11_needAnswer_5 ?_
  refine G_iload_n rfl 2 rfl K dX11_needAnswer_6 ?_
  obtain ⟨E2, M2, e2, h⟩ | ⟨r2, M2, e2, h⟩ := wpO_x h
  · cases hPHI _ h
    exact G_callXVt (ci := 11) [.int x2] [] K dX11_needAnswer_7 wv_898 yd_X11_needWay (Nat.le_of_ble_eq_true rfl) (sh_0 _ _) rfl (by decide) (by decide) rfl rfl (Nat.le_of_ble_eq_true rfl) (K_KW_needWay l g htr x2 M1 _ _ e2) (GX_out K ht (Nat.le_of_ble_eq_true rfl) (Nat.le_of_ble_eq_true rfl) ⟨rfl, rfl⟩)
  refine G_callXVv (ci := 11) [.int x2] [] K dX11_needAnswer_7 wv_898 yd_X11_needWay (Nat.le_of_ble_eq_true rfl) (sh_0 _ _) rfl (by decide) (by decide) rfl rfl (Nat.le_of_ble_eq_true rfl) (K_KW_needWay l g htr x2 M1 _ _ e2) ?_
  refine G_aload_n rfl 0 rfl K dX11_needAnswer_10 ?_
  refine G_iload_n rfl 2 rfl K dX11_needAnswer_11 ?_
  refine G_iload_n rfl 3 rfl K dX11_needAnswer_12 ?_
  obtain ⟨E3, M3, e3, h⟩ | ⟨r3, M3, e3, h⟩ := wpO_x h
  · cases hPHI _ h
    exact G_callXVt (ci := 11) [.int x2, .int x3] [] K dX11_needAnswer_13 wv_923 yd_X11_needMood (Nat.le_of_ble_eq_true rfl) (sh_0 _ _) rfl (by decide) (by decide) rfl rfl (Nat.le_of_ble_eq_true rfl) (K_KW_needMood l g htr x2 x3 M2 _ _ e3) (GX_out K ht (Nat.le_of_ble_eq_true rfl) (Nat.le_of_ble_eq_true rfl) ⟨rfl, rfl⟩)
  refine G_callXVv (ci := 11) [.int x2, .int x3] [] K dX11_needAnswer_13 wv_923 yd_X11_needMood (Nat.le_of_ble_eq_true rfl) (sh_0 _ _) rfl (by decide) (by decide) rfl rfl (Nat.le_of_ble_eq_true rfl) (K_KW_needMood l g htr x2 x3 M2 _ _ e3) ?_
  refine G_aload_n rfl 0 rfl K dX11_needAnswer_16 ?_
  refine G_iload_n rfl 2 rfl K dX11_needAnswer_17 ?_
  obtain ⟨E4, M4, e4, h⟩ | ⟨r4, M4, e4, h⟩ := wpO_x h
  · cases hPHI _ h
    exact G_callXVt (ci := 11) [.int x2] [] K dX11_needAnswer_18 wv_941 yd_X11_needFree (Nat.le_of_ble_eq_true rfl) (sh_0 _ _) rfl (by decide) (by decide) rfl rfl (Nat.le_of_ble_eq_true rfl) (K_KW_needFree l g htr x2 M3 _ _ e4) (GX_out K ht (Nat.le_of_ble_eq_true rfl) (Nat.le_of_ble_eq_true rfl) ⟨rfl, rfl⟩)
  refine G_callXVv (ci := 11) [.int x2] [] K dX11_needAnswer_18 wv_941 yd_X11_needFree (Nat.le_of_ble_eq_true rfl) (sh_0 _ _) rfl (by decide) (by decide) rfl rfl (Nat.le_of_ble_eq_true rfl) (K_KW_needFree l g htr x2 M3 _ _ e4) ?_
  cases hPHI _ (wpO_some h)
  exact G_vret K hr dX11_needAnswer_21 (Nat.le_of_ble_eq_true rfl) (Nat.le_of_ble_eq_true rfl) ⟨rfl, rfl⟩
theorem yd_X11_needAnswer : ydN yX11_needAnswer 3 := ⟨by decide, by decide, by decide +kernel⟩
theorem yd_X0_look : ydN yX0_look 2 := ⟨by decide, by decide, by decide +kernel⟩
theorem yd_X0_actIn : ydN yX0_actIn 1 := ⟨by decide, by decide, by decide +kernel⟩
theorem wv_1009 : wdV "KeptWell" 198 yX11_needAnswer cX11_needAnswer 4 none := ⟨wd_1009, wd_1011, ws_X11_needAnswer, wd_1, wd_1012⟩
theorem wv_1013 : wdV "KeptWell" 201 yX0_look cX0_look 4 none := ⟨wd_1013, wd_1014, wd_1015, wd_8, wd_1016⟩
theorem wv_1045 : wdV "KeptWell" 203 yX0_actIn cX0_actIn 3 (some .int) := ⟨wd_1045, wd_1046, wd_1047, wd_8, wd_1048⟩
def on_X11_best : Nat := 0xaccb00b61d2e00b42ac900b61c1b2e00b42ac600b61d1c1b2a
theorem ob_X11_best : OKB cX11_best on_X11_best 25 := ⟨by decide +kernel, by decide +kernel⟩
theorem dX11_best_0 : dc cX11_best 0 1 (.aload_n 0) 1 := o_42 ob_X11_best rfl rfl rfl
theorem dX11_best_1 : dc cX11_best 1 2 (.iload_n 1) 1 := o_27 ob_X11_best rfl rfl rfl
theorem dX11_best_2 : dc cX11_best 2 3 (.iload_n 2) 1 := o_28 ob_X11_best rfl rfl rfl
theorem dX11_best_3 : dc cX11_best 3 4 (.iload_n 3) 1 := o_29 ob_X11_best rfl rfl rfl
theorem dX11_best_4 : dc cX11_best 4 7 (.invokevirtual 198) 3 := o_182 ob_X11_best rfl rfl rfl rfl
theorem dX11_best_7 : dc cX11_best 7 8 (.aload_n 0) 1 := o_42 ob_X11_best rfl rfl rfl
theorem dX11_best_8 : dc cX11_best 8 11 (.getfield 46) 3 := o_180 ob_X11_best rfl rfl rfl rfl
theorem dX11_best_11 : dc cX11_best 11 12 (.iload_n 1) 1 := o_27 ob_X11_best rfl rfl rfl
theorem dX11_best_12 : dc cX11_best 12 13 (.iload_n 2) 1 := o_28 ob_X11_best rfl rfl rfl
theorem dX11_best_13 : dc cX11_best 13 16 (.invokevirtual 201) 3 := o_182 ob_X11_best rfl rfl rfl rfl
theorem dX11_best_16 : dc cX11_best 16 17 (.aload_n 0) 1 := o_42 ob_X11_best rfl rfl rfl
theorem dX11_best_17 : dc cX11_best 17 20 (.getfield 46) 3 := o_180 ob_X11_best rfl rfl rfl rfl
theorem dX11_best_20 : dc cX11_best 20 21 (.iload_n 3) 1 := o_29 ob_X11_best rfl rfl rfl
theorem dX11_best_21 : dc cX11_best 21 24 (.invokevirtual 203) 3 := o_182 ob_X11_best rfl rfl rfl rfl
theorem dX11_best_24 : dc cX11_best 24 25 .ireturn 1 := o_172 ob_X11_best rfl rfl rfl
def F_KW_best (x1 : Int32) (x2 : Int32) (x3 : Int32) (M : Mem) : Option ((String ⊕ Int32) × Mem) :=
  xbind (F_KW_needAnswer x1 x2 x3 M) fun _ M1 => (F_Answer_look x1 x2 M1).bind fun r2 => (F_Answer_actIn x3 r2).bind fun r3 => some ((.inr r3, r2))
set_option maxRecDepth 100000 in
set_option maxHeartbeats 4000000 in
theorem K_KW_best (l : Launch) (g : GB) (htr : l.stackTraces = false) (x1 : Int32) (x2 : Int32) (x3 : Int32) (M : Mem) (rr : String ⊕ Int32) (MZ : Mem) (h : F_KW_best x1 x2 x3 M = some (rr, MZ)) : CT l g yX11_best (.code yX11_best cX11_best 4 (some .int) :: wAll) { frames := 8, cells := 4, slots := 24, locals := 166 } [.ref (g.2.1 0), .int x1, .int x2, .int x3] M (rvI rr) MZ := by
  refine CT.of [(0, .ref (g.2.1 0)), (1, .int x1), (2, .int x2), (3, .int x3)] (by decide +kernel) (Nat.le_of_ble_eq_true rfl) rfl htr ?_
  intro p e s m args below meth c K hr ht
  skip
  obtain ⟨PHI, hPHI, h⟩ : ∃ PHI : (String ⊕ Int32) × Mem → Prop, (∀ a, PHI a → a = (rr, MZ)) ∧ wpO (F_KW_best x1 x2 x3 M) PHI := ⟨fun a => a = (rr, MZ), fun _ h => h, _, h, rfl⟩
  unfold F_KW_best at h
  refine G_aload_n rfl 0 rfl K dX11_best_0 ?_
  refine G_iload_n rfl 1 rfl K dX11_best_1 ?_
  refine G_iload_n rfl 2 rfl K dX11_best_2 ?_
  refine G_iload_n rfl 3 rfl K dX11_best_3 ?_
  obtain ⟨E1, M1, e1, h⟩ | ⟨r1, M1, e1, h⟩ := wpO_x h
  · cases hPHI _ h
    exact G_callXVt (ci := 11) [.int x1, .int x2, .int x3] [] K dX11_best_4 wv_1009 yd_X11_needAnswer (Nat.le_of_ble_eq_true rfl) (sh_0 _ _) rfl (by decide) (by decide) rfl rfl (Nat.le_of_ble_eq_true rfl) (K_KW_needAnswer l g htr x1 x2 x3 M _ _ e1) (GX_out K ht (Nat.le_of_ble_eq_true rfl) (Nat.le_of_ble_eq_true rfl) ⟨rfl, rfl⟩)
  refine G_callXVv (ci := 11) [.int x1, .int x2, .int x3] [] K dX11_best_4 wv_1009 yd_X11_needAnswer (Nat.le_of_ble_eq_true rfl) (sh_0 _ _) rfl (by decide) (by decide) rfl rfl (Nat.le_of_ble_eq_true rfl) (K_KW_needAnswer l g htr x1 x2 x3 M _ _ e1) ?_
  refine G_aload_n rfl 0 rfl K dX11_best_7 ?_
  refine G_get (ci := 11) (k := 6) K rfl in_X11 wd_408 rfl dX11_best_8 (Nat.le_of_ble_eq_true rfl) (sh_0 _ _) (Nat.le_of_ble_eq_true rfl) rfl ?_
  refine G_iload_n rfl 1 rfl K dX11_best_11 ?_
  refine G_iload_n rfl 2 rfl K dX11_best_12 ?_
  obtain ⟨r2, e2, h⟩ := wpO_bind h
  refine G_callVv (ci := 0) [.int x1, .int x2] [] K dX11_best_13 wv_1013 yd_X0_look (Nat.le_of_ble_eq_true rfl) (sh_52 _ _) rfl (by decide) (by decide) rfl rfl (Nat.le_of_ble_eq_true rfl) (K_Answer_look l g htr x1 x2 M1 _ e2) ?_
  refine G_aload_n rfl 0 rfl K dX11_best_16 ?_
  refine G_get (ci := 11) (k := 6) K rfl in_X11 wd_408 rfl dX11_best_17 (Nat.le_of_ble_eq_true rfl) (sh_0 _ _) (Nat.le_of_ble_eq_true rfl) rfl ?_
  refine G_iload_n rfl 3 rfl K dX11_best_20 ?_
  obtain ⟨r3, e3, h⟩ := wpO_bind h
  refine G_callVi (ci := 0) [.int x3] [] K dX11_best_21 wv_1045 yd_X0_actIn (Nat.le_of_ble_eq_true rfl) (sh_52 _ _) rfl (by decide) (by decide) rfl rfl (Nat.le_of_ble_eq_true rfl) (K_Answer_actIn l g htr x3 r2 _ e3) ?_
  cases hPHI _ (wpO_some h)
  exact G_iret K hr rfl dX11_best_24 (Nat.le_of_ble_eq_true rfl) (Nat.le_of_ble_eq_true rfl) ⟨rfl, rfl⟩
theorem yd_X0_tellWorth : ydN yX0_tellWorth 2 := ⟨by decide, by decide, by decide +kernel⟩
theorem wv_1056 : wdV "KeptWell" 206 yX0_tellWorth cX0_tellWorth 3 none := ⟨wd_1056, wd_1057, wd_1058, wd_8, wd_1059⟩
def on_X11_answer : Nat := 0xadb300b604155300b42ace00b65300b42a1d2e00b42ac900b61c1b2e00b42ac600b61d1c1b2a
theorem ob_X11_answer : OKB cX11_answer on_X11_answer 38 := ⟨by decide +kernel, by decide +kernel⟩
theorem dX11_answer_0 : dc cX11_answer 0 1 (.aload_n 0) 1 := o_42 ob_X11_answer rfl rfl rfl
theorem dX11_answer_1 : dc cX11_answer 1 2 (.iload_n 1) 1 := o_27 ob_X11_answer rfl rfl rfl
theorem dX11_answer_2 : dc cX11_answer 2 3 (.iload_n 2) 1 := o_28 ob_X11_answer rfl rfl rfl
theorem dX11_answer_3 : dc cX11_answer 3 4 (.iload_n 3) 1 := o_29 ob_X11_answer rfl rfl rfl
theorem dX11_answer_4 : dc cX11_answer 4 7 (.invokevirtual 198) 3 := o_182 ob_X11_answer rfl rfl rfl rfl
theorem dX11_answer_7 : dc cX11_answer 7 8 (.aload_n 0) 1 := o_42 ob_X11_answer rfl rfl rfl
theorem dX11_answer_8 : dc cX11_answer 8 11 (.getfield 46) 3 := o_180 ob_X11_answer rfl rfl rfl rfl
theorem dX11_answer_11 : dc cX11_answer 11 12 (.iload_n 1) 1 := o_27 ob_X11_answer rfl rfl rfl
theorem dX11_answer_12 : dc cX11_answer 12 13 (.iload_n 2) 1 := o_28 ob_X11_answer rfl rfl rfl
theorem dX11_answer_13 : dc cX11_answer 13 16 (.invokevirtual 201) 3 := o_182 ob_X11_answer rfl rfl rfl rfl
theorem dX11_answer_16 : dc cX11_answer 16 17 (.aload_n 0) 1 := o_42 ob_X11_answer rfl rfl rfl
theorem dX11_answer_17 : dc cX11_answer 17 20 (.getfield 46) 3 := o_180 ob_X11_answer rfl rfl rfl rfl
theorem dX11_answer_20 : dc cX11_answer 20 21 (.iload_n 3) 1 := o_29 ob_X11_answer rfl rfl rfl
theorem dX11_answer_21 : dc cX11_answer 21 22 (.aload_n 0) 1 := o_42 ob_X11_answer rfl rfl rfl
theorem dX11_answer_22 : dc cX11_answer 22 25 (.getfield 83) 3 := o_180 ob_X11_answer rfl rfl rfl rfl
theorem dX11_answer_25 : dc cX11_answer 25 28 (.invokevirtual 206) 3 := o_182 ob_X11_answer rfl rfl rfl rfl
theorem dX11_answer_28 : dc cX11_answer 28 29 (.aload_n 0) 1 := o_42 ob_X11_answer rfl rfl rfl
theorem dX11_answer_29 : dc cX11_answer 29 32 (.getfield 83) 3 := o_180 ob_X11_answer rfl rfl rfl rfl
theorem dX11_answer_32 : dc cX11_answer 32 34 (.iload 4) 2 := o_21 ob_X11_answer rfl rfl rfl rfl
theorem dX11_answer_34 : dc cX11_answer 34 37 (.invokevirtual 179) 3 := o_182 ob_X11_answer rfl rfl rfl rfl
theorem dX11_answer_37 : dc cX11_answer 37 38 .lreturn 1 := o_173 ob_X11_answer rfl rfl rfl
def F_KW_answer (x1 : Int32) (x2 : Int32) (x3 : Int32) (x4 : Int32) (M : Mem) : Option ((String ⊕ Int64) × Mem) :=
  xbind (F_KW_needAnswer x1 x2 x3 M) fun _ M1 => (F_Answer_look x1 x2 M1).bind fun r2 => (F_Answer_tellWorth 93 x3 r2).bind fun r3 => (F_Fraction_part 93 x4 r3).bind fun r4 => some ((.inr r4, r3))
set_option maxRecDepth 100000 in
set_option maxHeartbeats 4000000 in
theorem K_KW_answer (l : Launch) (g : GB) (htr : l.stackTraces = false) (x1 : Int32) (x2 : Int32) (x3 : Int32) (x4 : Int32) (M : Mem) (rr : String ⊕ Int64) (MZ : Mem) (h : F_KW_answer x1 x2 x3 x4 M = some (rr, MZ)) : CT l g yX11_answer (.code yX11_answer cX11_answer 5 (some .long) :: wAll) { frames := 8, cells := 4, slots := 24, locals := 166 } [.ref (g.2.1 0), .int x1, .int x2, .int x3, .int x4] M (rvJ rr) MZ := by
  refine CT.of [(0, .ref (g.2.1 0)), (1, .int x1), (2, .int x2), (3, .int x3), (4, .int x4)] (by decide +kernel) (Nat.le_of_ble_eq_true rfl) rfl htr ?_
  intro p e s m args below meth c K hr ht
  skip
  obtain ⟨PHI, hPHI, h⟩ : ∃ PHI : (String ⊕ Int64) × Mem → Prop, (∀ a, PHI a → a = (rr, MZ)) ∧ wpO (F_KW_answer x1 x2 x3 x4 M) PHI := ⟨fun a => a = (rr, MZ), fun _ h => h, _, h, rfl⟩
  unfold F_KW_answer at h
  refine G_aload_n rfl 0 rfl K dX11_answer_0 ?_
  refine G_iload_n rfl 1 rfl K dX11_answer_1 ?_
  refine G_iload_n rfl 2 rfl K dX11_answer_2 ?_
  refine G_iload_n rfl 3 rfl K dX11_answer_3 ?_
  obtain ⟨E1, M1, e1, h⟩ | ⟨r1, M1, e1, h⟩ := wpO_x h
  · cases hPHI _ h
    exact G_callXVt (ci := 11) [.int x1, .int x2, .int x3] [] K dX11_answer_4 wv_1009 yd_X11_needAnswer (Nat.le_of_ble_eq_true rfl) (sh_0 _ _) rfl (by decide) (by decide) rfl rfl (Nat.le_of_ble_eq_true rfl) (K_KW_needAnswer l g htr x1 x2 x3 M _ _ e1) (GX_out K ht (Nat.le_of_ble_eq_true rfl) (Nat.le_of_ble_eq_true rfl) ⟨rfl, rfl⟩)
  refine G_callXVv (ci := 11) [.int x1, .int x2, .int x3] [] K dX11_answer_4 wv_1009 yd_X11_needAnswer (Nat.le_of_ble_eq_true rfl) (sh_0 _ _) rfl (by decide) (by decide) rfl rfl (Nat.le_of_ble_eq_true rfl) (K_KW_needAnswer l g htr x1 x2 x3 M _ _ e1) ?_
  refine G_aload_n rfl 0 rfl K dX11_answer_7 ?_
  refine G_get (ci := 11) (k := 6) K rfl in_X11 wd_408 rfl dX11_answer_8 (Nat.le_of_ble_eq_true rfl) (sh_0 _ _) (Nat.le_of_ble_eq_true rfl) rfl ?_
  refine G_iload_n rfl 1 rfl K dX11_answer_11 ?_
  refine G_iload_n rfl 2 rfl K dX11_answer_12 ?_
  obtain ⟨r2, e2, h⟩ := wpO_bind h
  refine G_callVv (ci := 0) [.int x1, .int x2] [] K dX11_answer_13 wv_1013 yd_X0_look (Nat.le_of_ble_eq_true rfl) (sh_52 _ _) rfl (by decide) (by decide) rfl rfl (Nat.le_of_ble_eq_true rfl) (K_Answer_look l g htr x1 x2 M1 _ e2) ?_
  refine G_aload_n rfl 0 rfl K dX11_answer_16 ?_
  refine G_get (ci := 11) (k := 6) K rfl in_X11 wd_408 rfl dX11_answer_17 (Nat.le_of_ble_eq_true rfl) (sh_0 _ _) (Nat.le_of_ble_eq_true rfl) rfl ?_
  refine G_iload_n rfl 3 rfl K dX11_answer_20 ?_
  refine G_aload_n rfl 0 rfl K dX11_answer_21 ?_
  refine G_get (ci := 11) (k := 11) K rfl in_X11 wd_413 rfl dX11_answer_22 (Nat.le_of_ble_eq_true rfl) (sh_0 _ _) (Nat.le_of_ble_eq_true rfl) rfl ?_
  obtain ⟨r3, e3, h⟩ := wpO_bind h
  refine G_callVv (ci := 0) [.int x3, .ref (g.2.1 93)] [] K dX11_answer_25 wv_1056 yd_X0_tellWorth (Nat.le_of_ble_eq_true rfl) (sh_52 _ _) rfl (by decide) (by decide) rfl rfl (Nat.le_of_ble_eq_true rfl) (K_Answer_tellWorth l g htr 93 isFrac_93 x3 r2 _ e3) ?_
  refine G_aload_n rfl 0 rfl K dX11_answer_28 ?_
  refine G_get (ci := 11) (k := 11) K rfl in_X11 wd_413 rfl dX11_answer_29 (Nat.le_of_ble_eq_true rfl) (sh_0 _ _) (Nat.le_of_ble_eq_true rfl) rfl ?_
  refine G_iload 4 rfl K dX11_answer_32 ?_
  obtain ⟨r4, e4, h⟩ := wpO_bind h
  refine G_callVl (ci := 5) [.int x4] [] K dX11_answer_34 wv_979 yd_X5_part (Nat.le_of_ble_eq_true rfl) (sh_93 _ _) rfl (by decide) (by decide) rfl rfl (Nat.le_of_ble_eq_true rfl) (K_Fraction_part l g htr 93 isFrac_93 x4 r3 _ e4) ?_
  cases hPHI _ (wpO_some h)
  exact G_lret K hr dX11_answer_37 (Nat.le_of_ble_eq_true rfl) (Nat.le_of_ble_eq_true rfl) ⟨rfl, rfl⟩
def on_X11_needTwoActs : Nat := 0xb1bf2d01b7592b01bb0b009f056600b40a00b42a
theorem ob_X11_needTwoActs : OKB cX11_needTwoActs on_X11_needTwoActs 20 := ⟨by decide +kernel, by decide +kernel⟩
theorem dX11_needTwoActs_0 : dc cX11_needTwoActs 0 1 (.aload_n 0) 1 := o_42 ob_X11_needTwoActs rfl rfl rfl
theorem dX11_needTwoActs_1 : dc cX11_needTwoActs 1 4 (.getfield 10) 3 := o_180 ob_X11_needTwoActs rfl rfl rfl rfl
theorem dX11_needTwoActs_4 : dc cX11_needTwoActs 4 7 (.getfield 102) 3 := o_180 ob_X11_needTwoActs rfl rfl rfl rfl
theorem dX11_needTwoActs_7 : dc cX11_needTwoActs 7 8 (.iconst 2) 1 := o_5 ob_X11_needTwoActs rfl rfl rfl
theorem dX11_needTwoActs_8 : dc cX11_needTwoActs 8 11 (.if_icmp .eq 11) 3 := o_159 ob_X11_needTwoActs rfl rfl rfl rfl
theorem dX11_needTwoActs_11 : dc cX11_needTwoActs 11 14 (.new 299) 3 := o_187 ob_X11_needTwoActs rfl rfl rfl rfl
theorem dX11_needTwoActs_14 : dc cX11_needTwoActs 14 15 .dup 1 := o_89 ob_X11_needTwoActs rfl rfl rfl
theorem dX11_needTwoActs_15 : dc cX11_needTwoActs 15 18 (.invokespecial 301) 3 := o_183 ob_X11_needTwoActs rfl rfl rfl rfl
theorem dX11_needTwoActs_18 : dc cX11_needTwoActs 18 19 .athrow 1 := o_191 ob_X11_needTwoActs rfl rfl rfl
theorem dX11_needTwoActs_19 : dc cX11_needTwoActs 19 20 .return_ 1 := o_177 ob_X11_needTwoActs rfl rfl rfl
def F_KW_needTwoActs (M : Mem) : Option ((String ⊕ Unit) × Mem) :=
  if (M.1 1 0) = 2 then some ((.inr (), M)) else some ((.inl "java/lang/IllegalStateException", M))
set_option maxRecDepth 100000 in
set_option maxHeartbeats 4000000 in
theorem K_KW_needTwoActs (l : Launch) (g : GB) (htr : l.stackTraces = false) (M : Mem) (rr : String ⊕ Unit) (MZ : Mem) (h : F_KW_needTwoActs M = some (rr, MZ)) : CT l g yX11_needTwoActs (.code yX11_needTwoActs cX11_needTwoActs 1 none :: wAll) { frames := 6, cells := 1, slots := 6, locals := 100 } [.ref (g.2.1 0)] M (rvU rr) MZ := by
  refine CT.of [(0, .ref (g.2.1 0))] (by decide +kernel) (Nat.le_of_ble_eq_true rfl) rfl htr ?_
  intro p e s m args below meth c K hr ht
  skip
  obtain ⟨PHI, hPHI, h⟩ : ∃ PHI : (String ⊕ Unit) × Mem → Prop, (∀ a, PHI a → a = (rr, MZ)) ∧ wpO (F_KW_needTwoActs M) PHI := ⟨fun a => a = (rr, MZ), fun _ h => h, _, h, rfl⟩
  unfold F_KW_needTwoActs at h
  refine G_aload_n rfl 0 rfl K dX11_needTwoActs_0 ?_
  refine G_get (ci := 11) (k := 0) K rfl in_X11 wd_402 rfl dX11_needTwoActs_1 (Nat.le_of_ble_eq_true rfl) (sh_0 _ _) (Nat.le_of_ble_eq_true rfl) rfl ?_
  refine G_get (ci := 10) (k := 0) K rfl in_X10 wd_58 rfl dX11_needTwoActs_4 (Nat.le_of_ble_eq_true rfl) (sh_1 _ _) (Nat.le_of_ble_eq_true rfl) rfl ?_
  refine G_iconst (v := 2) rfl K dX11_needTwoActs_7 ?_
  refine G_icmp_eq (tgt := 19) K dX11_needTwoActs_8 (by decide) (fun hc => ?_) (fun hc => ?_)
  · have h := wpO_t h hc
    cases hPHI _ (wpO_some h)
    exact G_vret K hr dX11_needTwoActs_19 (Nat.le_of_ble_eq_true rfl) (Nat.le_of_ble_eq_true rfl) ⟨rfl, rfl⟩
  · have h := wpO_f h hc
    cases hPHI _ (wpO_some h)
    exact G_throw K ex_299_301 (fun ls h => h.trans K.1.2.2.1.symm) dX11_needTwoActs_11 dX11_needTwoActs_14 dX11_needTwoActs_15 dX11_needTwoActs_18 ht (by decide) (Nat.le_of_ble_eq_true rfl) (Nat.le_of_ble_eq_true rfl) (Nat.le_of_ble_eq_true rfl) (by decide) (by decide) ⟨rfl, rfl⟩
def on_X11_isBestAnswer : Nat := 0xac030400a70407009a94de00b45300b42a2113009a94da00b45300b42a1fce00b65300b42a032e00b42a42de00b45300b42a40da00b45300b42aaf00b65300b42a0403032700b42a
theorem ob_X11_isBestAnswer : OKB cX11_isBestAnswer on_X11_isBestAnswer 72 := ⟨by decide +kernel, by decide +kernel⟩
theorem dX11_isBestAnswer_0 : dc cX11_isBestAnswer 0 1 (.aload_n 0) 1 := o_42 ob_X11_isBestAnswer rfl rfl rfl
theorem dX11_isBestAnswer_1 : dc cX11_isBestAnswer 1 4 (.getfield 39) 3 := o_180 ob_X11_isBestAnswer rfl rfl rfl rfl
theorem dX11_isBestAnswer_4 : dc cX11_isBestAnswer 4 5 (.iconst 0) 1 := o_3 ob_X11_isBestAnswer rfl rfl rfl
theorem dX11_isBestAnswer_5 : dc cX11_isBestAnswer 5 6 (.iconst 0) 1 := o_3 ob_X11_isBestAnswer rfl rfl rfl
theorem dX11_isBestAnswer_6 : dc cX11_isBestAnswer 6 7 (.iconst 1) 1 := o_4 ob_X11_isBestAnswer rfl rfl rfl
theorem dX11_isBestAnswer_7 : dc cX11_isBestAnswer 7 8 (.aload_n 0) 1 := o_42 ob_X11_isBestAnswer rfl rfl rfl
theorem dX11_isBestAnswer_8 : dc cX11_isBestAnswer 8 11 (.getfield 83) 3 := o_180 ob_X11_isBestAnswer rfl rfl rfl rfl
theorem dX11_isBestAnswer_11 : dc cX11_isBestAnswer 11 14 (.invokevirtual 175) 3 := o_182 ob_X11_isBestAnswer rfl rfl rfl rfl
theorem dX11_isBestAnswer_14 : dc cX11_isBestAnswer 14 15 (.aload_n 0) 1 := o_42 ob_X11_isBestAnswer rfl rfl rfl
theorem dX11_isBestAnswer_15 : dc cX11_isBestAnswer 15 18 (.getfield 83) 3 := o_180 ob_X11_isBestAnswer rfl rfl rfl rfl
theorem dX11_isBestAnswer_18 : dc cX11_isBestAnswer 18 21 (.getfield 218) 3 := o_180 ob_X11_isBestAnswer rfl rfl rfl rfl
theorem dX11_isBestAnswer_21 : dc cX11_isBestAnswer 21 22 (.lstore_n 1) 1 := o_64 ob_X11_isBestAnswer rfl rfl rfl
theorem dX11_isBestAnswer_22 : dc cX11_isBestAnswer 22 23 (.aload_n 0) 1 := o_42 ob_X11_isBestAnswer rfl rfl rfl
theorem dX11_isBestAnswer_23 : dc cX11_isBestAnswer 23 26 (.getfield 83) 3 := o_180 ob_X11_isBestAnswer rfl rfl rfl rfl
theorem dX11_isBestAnswer_26 : dc cX11_isBestAnswer 26 29 (.getfield 222) 3 := o_180 ob_X11_isBestAnswer rfl rfl rfl rfl
theorem dX11_isBestAnswer_29 : dc cX11_isBestAnswer 29 30 (.lstore_n 3) 1 := o_66 ob_X11_isBestAnswer rfl rfl rfl
theorem dX11_isBestAnswer_30 : dc cX11_isBestAnswer 30 31 (.aload_n 0) 1 := o_42 ob_X11_isBestAnswer rfl rfl rfl
theorem dX11_isBestAnswer_31 : dc cX11_isBestAnswer 31 34 (.getfield 46) 3 := o_180 ob_X11_isBestAnswer rfl rfl rfl rfl
theorem dX11_isBestAnswer_34 : dc cX11_isBestAnswer 34 35 (.iconst 0) 1 := o_3 ob_X11_isBestAnswer rfl rfl rfl
theorem dX11_isBestAnswer_35 : dc cX11_isBestAnswer 35 36 (.aload_n 0) 1 := o_42 ob_X11_isBestAnswer rfl rfl rfl
theorem dX11_isBestAnswer_36 : dc cX11_isBestAnswer 36 39 (.getfield 83) 3 := o_180 ob_X11_isBestAnswer rfl rfl rfl rfl
theorem dX11_isBestAnswer_39 : dc cX11_isBestAnswer 39 42 (.invokevirtual 206) 3 := o_182 ob_X11_isBestAnswer rfl rfl rfl rfl
theorem dX11_isBestAnswer_42 : dc cX11_isBestAnswer 42 43 (.lload_n 1) 1 := o_31 ob_X11_isBestAnswer rfl rfl rfl
theorem dX11_isBestAnswer_43 : dc cX11_isBestAnswer 43 44 (.aload_n 0) 1 := o_42 ob_X11_isBestAnswer rfl rfl rfl
theorem dX11_isBestAnswer_44 : dc cX11_isBestAnswer 44 47 (.getfield 83) 3 := o_180 ob_X11_isBestAnswer rfl rfl rfl rfl
theorem dX11_isBestAnswer_47 : dc cX11_isBestAnswer 47 50 (.getfield 218) 3 := o_180 ob_X11_isBestAnswer rfl rfl rfl rfl
theorem dX11_isBestAnswer_50 : dc cX11_isBestAnswer 50 51 .lcmp 1 := o_148 ob_X11_isBestAnswer rfl rfl rfl
theorem dX11_isBestAnswer_51 : dc cX11_isBestAnswer 51 54 (.ifCond .ne 19) 3 := o_154 ob_X11_isBestAnswer rfl rfl rfl rfl
theorem dX11_isBestAnswer_54 : dc cX11_isBestAnswer 54 55 (.lload_n 3) 1 := o_33 ob_X11_isBestAnswer rfl rfl rfl
theorem dX11_isBestAnswer_55 : dc cX11_isBestAnswer 55 56 (.aload_n 0) 1 := o_42 ob_X11_isBestAnswer rfl rfl rfl
theorem dX11_isBestAnswer_56 : dc cX11_isBestAnswer 56 59 (.getfield 83) 3 := o_180 ob_X11_isBestAnswer rfl rfl rfl rfl
theorem dX11_isBestAnswer_59 : dc cX11_isBestAnswer 59 62 (.getfield 222) 3 := o_180 ob_X11_isBestAnswer rfl rfl rfl rfl
theorem dX11_isBestAnswer_62 : dc cX11_isBestAnswer 62 63 .lcmp 1 := o_148 ob_X11_isBestAnswer rfl rfl rfl
theorem dX11_isBestAnswer_63 : dc cX11_isBestAnswer 63 66 (.ifCond .ne 7) 3 := o_154 ob_X11_isBestAnswer rfl rfl rfl rfl
theorem dX11_isBestAnswer_66 : dc cX11_isBestAnswer 66 67 (.iconst 1) 1 := o_4 ob_X11_isBestAnswer rfl rfl rfl
theorem dX11_isBestAnswer_67 : dc cX11_isBestAnswer 67 70 (.goto 4) 3 := o_167 ob_X11_isBestAnswer rfl rfl rfl rfl
theorem dX11_isBestAnswer_70 : dc cX11_isBestAnswer 70 71 (.iconst 0) 1 := o_3 ob_X11_isBestAnswer rfl rfl rfl
theorem dX11_isBestAnswer_71 : dc cX11_isBestAnswer 71 72 .ireturn 1 := o_172 ob_X11_isBestAnswer rfl rfl rfl
def F_KW_isBestAnswer (M : Mem) : Option (Bool × Mem) :=
  (F_Pair_tellWorth 93 0 0 1 M).bind fun r1 => (F_Answer_tellWorth 93 0 r1).bind fun r2 => if (r1.2 93 0) = (r2.2 93 0) then if (r1.2 93 1) = (r2.2 93 1) then some ((true, r2)) else some ((false, r2)) else some ((false, r2))
set_option maxRecDepth 100000 in
set_option maxHeartbeats 4000000 in
theorem K_KW_isBestAnswer (l : Launch) (g : GB) (htr : l.stackTraces = false) (M : Mem) (rr : Bool) (MZ : Mem) (h : F_KW_isBestAnswer M = some (rr, MZ)) : CT l g yX11_isBestAnswer (.code yX11_isBestAnswer cX11_isBestAnswer 5 (some .boolean) :: wAll) { frames := 5, cells := 0, slots := 0, locals := 124 } [.ref (g.2.1 0)] M (.inl (some (.int (b2i rr)))) MZ := by
  refine CT.of [(0, .ref (g.2.1 0))] (by decide +kernel) (Nat.le_of_ble_eq_true rfl) rfl htr ?_
  intro p e s m args below meth c K hr ht
  skip
  obtain ⟨PHI, hPHI, h⟩ : ∃ PHI : Bool × Mem → Prop, (∀ a, PHI a → a = (rr, MZ)) ∧ wpO (F_KW_isBestAnswer M) PHI := ⟨fun a => a = (rr, MZ), fun _ h => h, _, h, rfl⟩
  unfold F_KW_isBestAnswer at h
  refine G_aload_n rfl 0 rfl K dX11_isBestAnswer_0 ?_
  refine G_get (ci := 11) (k := 5) K rfl in_X11 wd_407 rfl dX11_isBestAnswer_1 (Nat.le_of_ble_eq_true rfl) (sh_0 _ _) (Nat.le_of_ble_eq_true rfl) rfl ?_
  refine G_iconst (v := 0) rfl K dX11_isBestAnswer_4 ?_
  refine G_iconst (v := 0) rfl K dX11_isBestAnswer_5 ?_
  refine G_iconst (v := 1) rfl K dX11_isBestAnswer_6 ?_
  refine G_aload_n rfl 0 rfl K dX11_isBestAnswer_7 ?_
  refine G_get (ci := 11) (k := 11) K rfl in_X11 wd_413 rfl dX11_isBestAnswer_8 (Nat.le_of_ble_eq_true rfl) (sh_0 _ _) (Nat.le_of_ble_eq_true rfl) rfl ?_
  obtain ⟨r1, e1, h⟩ := wpO_bind h
  refine G_callVv (ci := 6) [.int 0, .int 0, .int 1, .ref (g.2.1 93)] [] K dX11_isBestAnswer_11 wv_961 yd_X6_tellWorth (Nat.le_of_ble_eq_true rfl) (sh_34 _ _) rfl (by decide) (by decide) rfl rfl (Nat.le_of_ble_eq_true rfl) (K_Pair_tellWorth l g htr 93 isFrac_93 0 0 1 M _ e1) ?_
  refine G_aload_n rfl 0 rfl K dX11_isBestAnswer_14 ?_
  refine G_get (ci := 11) (k := 11) K rfl in_X11 wd_413 rfl dX11_isBestAnswer_15 (Nat.le_of_ble_eq_true rfl) (sh_0 _ _) (Nat.le_of_ble_eq_true rfl) rfl ?_
  refine G_get (ci := 5) (k := 0) K rfl in_X5 wd_383 rfl dX11_isBestAnswer_18 (Nat.le_of_ble_eq_true rfl) (sh_93 _ _) (Nat.le_of_ble_eq_true rfl) rfl ?_
  refine G_lstore_n rfl K dX11_isBestAnswer_21 (Nat.le_of_ble_eq_true rfl) rfl ?_
  refine G_aload_n rfl 1 rfl K dX11_isBestAnswer_22 ?_
  refine G_get (ci := 11) (k := 11) K rfl in_X11 wd_413 rfl dX11_isBestAnswer_23 (Nat.le_of_ble_eq_true rfl) (sh_0 _ _) (Nat.le_of_ble_eq_true rfl) rfl ?_
  refine G_get (ci := 5) (k := 1) K rfl in_X5 wd_387 rfl dX11_isBestAnswer_26 (Nat.le_of_ble_eq_true rfl) (sh_93 _ _) (Nat.le_of_ble_eq_true rfl) rfl ?_
  refine G_lstore_n rfl K dX11_isBestAnswer_29 (Nat.le_of_ble_eq_true rfl) rfl ?_
  refine G_aload_n rfl 2 rfl K dX11_isBestAnswer_30 ?_
  refine G_get (ci := 11) (k := 6) K rfl in_X11 wd_408 rfl dX11_isBestAnswer_31 (Nat.le_of_ble_eq_true rfl) (sh_0 _ _) (Nat.le_of_ble_eq_true rfl) rfl ?_
  refine G_iconst (v := 0) rfl K dX11_isBestAnswer_34 ?_
  refine G_aload_n rfl 2 rfl K dX11_isBestAnswer_35 ?_
  refine G_get (ci := 11) (k := 11) K rfl in_X11 wd_413 rfl dX11_isBestAnswer_36 (Nat.le_of_ble_eq_true rfl) (sh_0 _ _) (Nat.le_of_ble_eq_true rfl) rfl ?_
  obtain ⟨r2, e2, h⟩ := wpO_bind h
  refine G_callVv (ci := 0) [.int 0, .ref (g.2.1 93)] [] K dX11_isBestAnswer_39 wv_1056 yd_X0_tellWorth (Nat.le_of_ble_eq_true rfl) (sh_52 _ _) rfl (by decide) (by decide) rfl rfl (Nat.le_of_ble_eq_true rfl) (K_Answer_tellWorth l g htr 93 isFrac_93 0 r1 _ e2) ?_
  refine G_lload_n rfl 1 rfl K dX11_isBestAnswer_42 ?_
  refine G_aload_n rfl 2 rfl K dX11_isBestAnswer_43 ?_
  refine G_get (ci := 11) (k := 11) K rfl in_X11 wd_413 rfl dX11_isBestAnswer_44 (Nat.le_of_ble_eq_true rfl) (sh_0 _ _) (Nat.le_of_ble_eq_true rfl) rfl ?_
  refine G_get (ci := 5) (k := 0) K rfl in_X5 wd_383 rfl dX11_isBestAnswer_47 (Nat.le_of_ble_eq_true rfl) (sh_93 _ _) (Nat.le_of_ble_eq_true rfl) rfl ?_
  refine G_lcmp_ne (tgt := 70) K dX11_isBestAnswer_50 dX11_isBestAnswer_51 (by decide) (fun hc => ?_) (fun hc => ?_)
  · have h := wpO_f h hc
    refine G_iconst (v := 0) rfl K dX11_isBestAnswer_70 ?_
    cases hPHI _ (wpO_some h)
    exact G_iret K hr rfl dX11_isBestAnswer_71 (Nat.le_of_ble_eq_true rfl) (Nat.le_of_ble_eq_true rfl) ⟨rfl, rfl⟩
  · have h := wpO_t h hc
    refine G_lload_n rfl 0 rfl K dX11_isBestAnswer_54 ?_
    refine G_aload_n rfl 2 rfl K dX11_isBestAnswer_55 ?_
    refine G_get (ci := 11) (k := 11) K rfl in_X11 wd_413 rfl dX11_isBestAnswer_56 (Nat.le_of_ble_eq_true rfl) (sh_0 _ _) (Nat.le_of_ble_eq_true rfl) rfl ?_
    refine G_get (ci := 5) (k := 1) K rfl in_X5 wd_387 rfl dX11_isBestAnswer_59 (Nat.le_of_ble_eq_true rfl) (sh_93 _ _) (Nat.le_of_ble_eq_true rfl) rfl ?_
    refine G_lcmp_ne (tgt := 70) K dX11_isBestAnswer_62 dX11_isBestAnswer_63 (by decide) (fun hc => ?_) (fun hc => ?_)
    · have h := wpO_f h hc
      refine G_iconst (v := 0) rfl K dX11_isBestAnswer_70 ?_
      cases hPHI _ (wpO_some h)
      exact G_iret K hr rfl dX11_isBestAnswer_71 (Nat.le_of_ble_eq_true rfl) (Nat.le_of_ble_eq_true rfl) ⟨rfl, rfl⟩
    · have h := wpO_t h hc
      refine G_iconst (v := 1) rfl K dX11_isBestAnswer_66 ?_
      refine G_goto (tgt := 71) K dX11_isBestAnswer_67 (by decide) ?_
      cases hPHI _ (wpO_some h)
      exact G_iret K hr rfl dX11_isBestAnswer_71 (Nat.le_of_ble_eq_true rfl) (Nat.le_of_ble_eq_true rfl) ⟨rfl, rfl⟩
theorem yd_X11_isBestAnswer : ydN yX11_isBestAnswer 0 := ⟨by decide, by decide, by decide +kernel⟩
theorem yd_X11_needTwoActs : ydN yX11_needTwoActs 0 := ⟨by decide, by decide, by decide +kernel⟩
theorem yd_X10_putSpareWay : ydN yX10_putSpareWay 1 := ⟨by decide, by decide, by decide +kernel⟩
theorem wv_1193 : wdV "KeptWell" 209 yX11_needTwoActs cX11_needTwoActs 1 none := ⟨wd_1193, wd_1195, ws_X11_needTwoActs, wd_1, wd_1196⟩
theorem wv_1396 : wdV "KeptWell" 212 yX10_putSpareWay cX10_putSpareWay 5 none := ⟨wd_1396, wd_1397, wd_1398, wd_2, wd_1399⟩
theorem wv_1401 : wdV "KeptWell" 215 yX11_isBestAnswer cX11_isBestAnswer 5 (some .boolean) := ⟨wd_1401, wd_1403, ws_X11_isBestAnswer, wd_1, wd_1404⟩
def on_X11_all : Nat := 0xac05150500a704150800a3041ca8ffa7010684053605150500a706150800a0020515010484150099d700b62a0a00a71f00a002ba00b62700b42a1100991dab00b6857300b40a00b42a857000b40a00b42a08101b2700b42ad400b606150a00b42a5700a240100615063603053602043603c900b61b042e00b42a3e030400a7040700a0061c0800991c9600b6061c2aa800b61b2ad100b62a8b00b61b2a
theorem ob_X11_all : OKB cX11_all on_X11_all 157 := ⟨by decide +kernel, by decide +kernel⟩
theorem dX11_all_0 : dc cX11_all 0 1 (.aload_n 0) 1 := o_42 ob_X11_all rfl rfl rfl
theorem dX11_all_1 : dc cX11_all 1 2 (.iload_n 1) 1 := o_27 ob_X11_all rfl rfl rfl
theorem dX11_all_2 : dc cX11_all 2 5 (.invokevirtual 139) 3 := o_182 ob_X11_all rfl rfl rfl rfl
theorem dX11_all_5 : dc cX11_all 5 6 (.aload_n 0) 1 := o_42 ob_X11_all rfl rfl rfl
theorem dX11_all_6 : dc cX11_all 6 9 (.invokevirtual 209) 3 := o_182 ob_X11_all rfl rfl rfl rfl
theorem dX11_all_9 : dc cX11_all 9 10 (.aload_n 0) 1 := o_42 ob_X11_all rfl rfl rfl
theorem dX11_all_10 : dc cX11_all 10 11 (.iload_n 1) 1 := o_27 ob_X11_all rfl rfl rfl
theorem dX11_all_11 : dc cX11_all 11 14 (.invokevirtual 168) 3 := o_182 ob_X11_all rfl rfl rfl rfl
theorem dX11_all_14 : dc cX11_all 14 15 (.aload_n 0) 1 := o_42 ob_X11_all rfl rfl rfl
theorem dX11_all_15 : dc cX11_all 15 16 (.iload_n 2) 1 := o_28 ob_X11_all rfl rfl rfl
theorem dX11_all_16 : dc cX11_all 16 17 (.iconst 3) 1 := o_6 ob_X11_all rfl rfl rfl
theorem dX11_all_17 : dc cX11_all 17 20 (.invokevirtual 150) 3 := o_182 ob_X11_all rfl rfl rfl rfl
theorem dX11_all_20 : dc cX11_all 20 21 (.iload_n 2) 1 := o_28 ob_X11_all rfl rfl rfl
theorem dX11_all_21 : dc cX11_all 21 24 (.ifCond .eq 8) 3 := o_153 ob_X11_all rfl rfl rfl rfl
theorem dX11_all_24 : dc cX11_all 24 25 (.iload_n 2) 1 := o_28 ob_X11_all rfl rfl rfl
theorem dX11_all_25 : dc cX11_all 25 26 (.iconst 3) 1 := o_6 ob_X11_all rfl rfl rfl
theorem dX11_all_26 : dc cX11_all 26 29 (.if_icmp .ne 7) 3 := o_160 ob_X11_all rfl rfl rfl rfl
theorem dX11_all_29 : dc cX11_all 29 30 (.iconst 1) 1 := o_4 ob_X11_all rfl rfl rfl
theorem dX11_all_30 : dc cX11_all 30 33 (.goto 4) 3 := o_167 ob_X11_all rfl rfl rfl rfl
theorem dX11_all_33 : dc cX11_all 33 34 (.iconst 0) 1 := o_3 ob_X11_all rfl rfl rfl
theorem dX11_all_34 : dc cX11_all 34 35 (.istore_n 3) 1 := o_62 ob_X11_all rfl rfl rfl
theorem dX11_all_35 : dc cX11_all 35 36 (.aload_n 0) 1 := o_42 ob_X11_all rfl rfl rfl
theorem dX11_all_36 : dc cX11_all 36 39 (.getfield 46) 3 := o_180 ob_X11_all rfl rfl rfl rfl
theorem dX11_all_39 : dc cX11_all 39 40 (.iconst 1) 1 := o_4 ob_X11_all rfl rfl rfl
theorem dX11_all_40 : dc cX11_all 40 41 (.iload_n 1) 1 := o_27 ob_X11_all rfl rfl rfl
theorem dX11_all_41 : dc cX11_all 41 44 (.invokevirtual 201) 3 := o_182 ob_X11_all rfl rfl rfl rfl
theorem dX11_all_44 : dc cX11_all 44 45 (.iconst 0) 1 := o_3 ob_X11_all rfl rfl rfl
theorem dX11_all_45 : dc cX11_all 45 47 (.istore 4) 2 := o_54 ob_X11_all rfl rfl rfl rfl
theorem dX11_all_47 : dc cX11_all 47 48 (.iconst (-1)) 1 := o_2 ob_X11_all rfl rfl rfl
theorem dX11_all_48 : dc cX11_all 48 50 (.istore 5) 2 := o_54 ob_X11_all rfl rfl rfl rfl
theorem dX11_all_50 : dc cX11_all 50 51 (.iconst 0) 1 := o_3 ob_X11_all rfl rfl rfl
theorem dX11_all_51 : dc cX11_all 51 53 (.istore 6) 2 := o_54 ob_X11_all rfl rfl rfl rfl
theorem dX11_all_53 : dc cX11_all 53 55 (.iload 6) 2 := o_21 ob_X11_all rfl rfl rfl rfl
theorem dX11_all_55 : dc cX11_all 55 57 (.bipush 64) 2 := o_16 ob_X11_all rfl rfl rfl rfl
theorem dX11_all_57 : dc cX11_all 57 60 (.if_icmp .ge 87) 3 := o_162 ob_X11_all rfl rfl rfl rfl
theorem dX11_all_60 : dc cX11_all 60 61 (.aload_n 0) 1 := o_42 ob_X11_all rfl rfl rfl
theorem dX11_all_61 : dc cX11_all 61 64 (.getfield 10) 3 := o_180 ob_X11_all rfl rfl rfl rfl
theorem dX11_all_64 : dc cX11_all 64 66 (.iload 6) 2 := o_21 ob_X11_all rfl rfl rfl rfl
theorem dX11_all_66 : dc cX11_all 66 69 (.invokevirtual 212) 3 := o_182 ob_X11_all rfl rfl rfl rfl
theorem dX11_all_69 : dc cX11_all 69 70 (.aload_n 0) 1 := o_42 ob_X11_all rfl rfl rfl
theorem dX11_all_70 : dc cX11_all 70 73 (.getfield 39) 3 := o_180 ob_X11_all rfl rfl rfl rfl
theorem dX11_all_73 : dc cX11_all 73 74 (.iload_n 1) 1 := o_27 ob_X11_all rfl rfl rfl
theorem dX11_all_74 : dc cX11_all 74 76 (.bipush 8) 2 := o_16 ob_X11_all rfl rfl rfl rfl
theorem dX11_all_76 : dc cX11_all 76 77 (.aload_n 0) 1 := o_42 ob_X11_all rfl rfl rfl
theorem dX11_all_77 : dc cX11_all 77 80 (.getfield 10) 3 := o_180 ob_X11_all rfl rfl rfl rfl
theorem dX11_all_80 : dc cX11_all 80 83 (.getfield 112) 3 := o_180 ob_X11_all rfl rfl rfl rfl
theorem dX11_all_83 : dc cX11_all 83 84 .i2l 1 := o_133 ob_X11_all rfl rfl rfl
theorem dX11_all_84 : dc cX11_all 84 85 (.aload_n 0) 1 := o_42 ob_X11_all rfl rfl rfl
theorem dX11_all_85 : dc cX11_all 85 88 (.getfield 10) 3 := o_180 ob_X11_all rfl rfl rfl rfl
theorem dX11_all_88 : dc cX11_all 88 91 (.getfield 115) 3 := o_180 ob_X11_all rfl rfl rfl rfl
theorem dX11_all_91 : dc cX11_all 91 92 .i2l 1 := o_133 ob_X11_all rfl rfl rfl
theorem dX11_all_92 : dc cX11_all 92 95 (.invokevirtual 171) 3 := o_182 ob_X11_all rfl rfl rfl rfl
theorem dX11_all_95 : dc cX11_all 95 96 (.iload_n 3) 1 := o_29 ob_X11_all rfl rfl rfl
theorem dX11_all_96 : dc cX11_all 96 99 (.ifCond .eq 17) 3 := o_153 ob_X11_all rfl rfl rfl rfl
theorem dX11_all_99 : dc cX11_all 99 100 (.aload_n 0) 1 := o_42 ob_X11_all rfl rfl rfl
theorem dX11_all_100 : dc cX11_all 100 103 (.getfield 39) 3 := o_180 ob_X11_all rfl rfl rfl rfl
theorem dX11_all_103 : dc cX11_all 103 106 (.invokevirtual 186) 3 := o_182 ob_X11_all rfl rfl rfl rfl
theorem dX11_all_106 : dc cX11_all 106 107 (.iconst (-1)) 1 := o_2 ob_X11_all rfl rfl rfl
theorem dX11_all_107 : dc cX11_all 107 110 (.if_icmp .ne 31) 3 := o_160 ob_X11_all rfl rfl rfl rfl
theorem dX11_all_110 : dc cX11_all 110 113 (.goto 10) 3 := o_167 ob_X11_all rfl rfl rfl rfl
theorem dX11_all_113 : dc cX11_all 113 114 (.aload_n 0) 1 := o_42 ob_X11_all rfl rfl rfl
theorem dX11_all_114 : dc cX11_all 114 117 (.invokevirtual 215) 3 := o_182 ob_X11_all rfl rfl rfl rfl
theorem dX11_all_117 : dc cX11_all 117 120 (.ifCond .eq 21) 3 := o_153 ob_X11_all rfl rfl rfl rfl
theorem dX11_all_120 : dc cX11_all 120 123 (.iinc 4 1) 3 := o_132 ob_X11_all rfl rfl rfl rfl rfl
theorem dX11_all_123 : dc cX11_all 123 125 (.iload 5) 2 := o_21 ob_X11_all rfl rfl rfl rfl
theorem dX11_all_125 : dc cX11_all 125 126 (.iconst (-1)) 1 := o_2 ob_X11_all rfl rfl rfl
theorem dX11_all_126 : dc cX11_all 126 129 (.if_icmp .ne 8) 3 := o_160 ob_X11_all rfl rfl rfl rfl
theorem dX11_all_129 : dc cX11_all 129 131 (.iload 6) 2 := o_21 ob_X11_all rfl rfl rfl rfl
theorem dX11_all_131 : dc cX11_all 131 134 (.goto 5) 3 := o_167 ob_X11_all rfl rfl rfl rfl
theorem dX11_all_134 : dc cX11_all 134 136 (.iload 5) 2 := o_21 ob_X11_all rfl rfl rfl rfl
theorem dX11_all_136 : dc cX11_all 136 138 (.istore 5) 2 := o_54 ob_X11_all rfl rfl rfl rfl
theorem dX11_all_138 : dc cX11_all 138 141 (.iinc 6 1) 3 := o_132 ob_X11_all rfl rfl rfl rfl rfl
theorem dX11_all_141 : dc cX11_all 141 144 (.goto (-88)) 3 := o_167 ob_X11_all rfl rfl rfl rfl
theorem dX11_all_144 : dc cX11_all 144 145 (.iload_n 2) 1 := o_28 ob_X11_all rfl rfl rfl
theorem dX11_all_145 : dc cX11_all 145 146 (.iconst 1) 1 := o_4 ob_X11_all rfl rfl rfl
theorem dX11_all_146 : dc cX11_all 146 149 (.if_icmp .gt 8) 3 := o_163 ob_X11_all rfl rfl rfl rfl
theorem dX11_all_149 : dc cX11_all 149 151 (.iload 4) 2 := o_21 ob_X11_all rfl rfl rfl rfl
theorem dX11_all_151 : dc cX11_all 151 154 (.goto 5) 3 := o_167 ob_X11_all rfl rfl rfl rfl
theorem dX11_all_154 : dc cX11_all 154 156 (.iload 5) 2 := o_21 ob_X11_all rfl rfl rfl rfl
theorem dX11_all_156 : dc cX11_all 156 157 .ireturn 1 := o_172 ob_X11_all rfl rfl rfl
def F_KW_all_j144 (x2 : Int32) (x4 : Int32) (x5 : Int32) (M : Mem) : Option ((String ⊕ Int32) × Mem) :=
  if 1 < x2 then some ((.inr x5, M)) else some ((.inr x4, M))
def F_KW_all_j120 (x1 : Int32) (x2 : Int32) (x3 : Bool) (x4 : Int32) (x5 : Int32) (x6 : Int32) (M : Mem) : Option ((Int32 × Int32 × Int32 × Mem) ⊕ ((Int32 × Int32 × Mem))) :=
  if x5 = ((-1)) then some (.inl ((x4 + 1, x6, x6 + 1, M))) else some (.inl ((x4 + 1, x5, x6 + 1, M)))
def F_KW_all_b53 (x1 : Int32) (x2 : Int32) (x3 : Bool) (z : Int32 × Int32 × Int32 × Mem) : Option ((Int32 × Int32 × Int32 × Mem) ⊕ ((Int32 × Int32 × Mem))) :=
  if 64 ≤ z.2.2.1 then some (.inr ((z.1, z.2.1, z.2.2.2))) else (F_Well_putSpareWay z.2.2.1 z.2.2.2).bind fun r6 => (F_Pair_look x1 8 ((r6.1 1 1).toInt64) ((r6.1 1 2).toInt64) r6).bind fun r7 => if x3 = true then (F_Pair_firstGain r7).bind fun r9 => if r9 = ((-1)) then F_KW_all_j120 x1 x2 x3 z.1 z.2.1 z.2.2.1 r7 else some (.inl ((z.1, z.2.1, z.2.2.1 + 1, r7))) else (F_KW_isBestAnswer r7).bind fun r8 => if r8.1 = true then F_KW_all_j120 x1 x2 x3 z.1 z.2.1 z.2.2.1 r8.2 else some (.inl ((z.1, z.2.1, z.2.2.1 + 1, r8.2)))
def F_KW_all_l53 (x1 : Int32) (x2 : Int32) (x3 : Bool) (x4 : Int32) (x5 : Int32) (x6 : Int32) (M : Mem) : Option ((String ⊕ Int32) × Mem) :=
  (iter (F_KW_all_b53 x1 x2 x3) FUEL (x4, x5, x6, M)).bind fun r => F_KW_all_j144 x2 r.1 r.2.1 r.2.2
def F_KW_all_j34 (x1 : Int32) (x2 : Int32) (s0 : Bool) (M : Mem) : Option ((String ⊕ Int32) × Mem) :=
  (F_Answer_look 1 x1 M).bind fun r5 => F_KW_all_l53 x1 x2 s0 0 ((-1)) 0 r5
def F_KW_all (x1 : Int32) (x2 : Int32) (M : Mem) : Option ((String ⊕ Int32) × Mem) :=
  xbind (F_KW_needWay x1 M) fun _ M1 => xbind (F_KW_needTwoActs M1) fun _ M2 => xbind (F_KW_needFree x1 M2) fun _ M3 => xbind (F_KW_needWhat x2 3 M3) fun _ M4 => if x2 = 0 then F_KW_all_j34 x1 x2 true M4 else if x2 = 3 then F_KW_all_j34 x1 x2 true M4 else F_KW_all_j34 x1 x2 false M4
set_option maxRecDepth 100000 in
set_option maxHeartbeats 4000000 in
theorem K_KW_all (l : Launch) (g : GB) (htr : l.stackTraces = false) (x1 : Int32) (x2 : Int32) (M : Mem) (rr : String ⊕ Int32) (MZ : Mem) (h : F_KW_all x1 x2 M = some (rr, MZ)) : CT l g yX11_all (.code yX11_all cX11_all 7 (some .int) :: wAll) { frames := 7, cells := 4, slots := 24, locals := 166 } [.ref (g.2.1 0), .int x1, .int x2] M (rvI rr) MZ := by
  refine CT.of [(0, .ref (g.2.1 0)), (1, .int x1), (2, .int x2)] (by decide +kernel) (Nat.le_of_ble_eq_true rfl) rfl htr ?_
  intro p e s m args below meth c K hr ht
  skip
  obtain ⟨PHI, hPHI, h⟩ : ∃ PHI : (String ⊕ Int32) × Mem → Prop, (∀ a, PHI a → a = (rr, MZ)) ∧ wpO (F_KW_all x1 x2 M) PHI := ⟨fun a => a = (rr, MZ), fun _ h => h, _, h, rfl⟩
  have J144 : ∀ (x2 : Int32) (x4 : Int32) (x5 : Int32) (M : Mem), wpO (F_KW_all_j144 x2 x4 x5 M) PHI → GG p l e { frames := 7, cells := 4, slots := 24, locals := 166 } s m args below meth c g 7 (vx_MQ below (Qn g s.heap.size (rvI rr) MZ) (QX g s.heap.size (rvI rr) MZ) args s 4 24 (AS g s.heap.size)) 4 24 144 [(2, .int x2), (4, .int x4), (5, .int x5)] [] M := by
    intro x2 x4 x5 M h
    unfold F_KW_all_j144 at h
    refine G_iload_n rfl 0 rfl K dX11_all_144 ?_
    refine G_iconst (v := 1) rfl K dX11_all_145 ?_
    refine G_icmp_gt (tgt := 154) K dX11_all_146 (by decide) (fun hc => ?_) (fun hc => ?_)
    · have h := wpO_t h hc
      refine G_iload 2 rfl K dX11_all_154 ?_
      cases hPHI _ (wpO_some h)
      exact G_iret K hr rfl dX11_all_156 (Nat.le_of_ble_eq_true rfl) (Nat.le_of_ble_eq_true rfl) ⟨rfl, rfl⟩
    · have h := wpO_f h hc
      refine G_iload 1 rfl K dX11_all_149 ?_
      refine G_goto (tgt := 156) K dX11_all_151 (by decide) ?_
      cases hPHI _ (wpO_some h)
      exact G_iret K hr rfl dX11_all_156 (Nat.le_of_ble_eq_true rfl) (Nat.le_of_ble_eq_true rfl) ⟨rfl, rfl⟩
  have J53 : ∀ (x1 : Int32) (x2 : Int32) (x3 : Bool) (x4 : Int32) (x5 : Int32) (x6 : Int32) (M : Mem), wpO (F_KW_all_l53 x1 x2 x3 x4 x5 x6 M) PHI → GG p l e { frames := 7, cells := 4, slots := 24, locals := 166 } s m args below meth c g 7 (vx_MQ below (Qn g s.heap.size (rvI rr) MZ) (QX g s.heap.size (rvI rr) MZ) args s 4 24 (AS g s.heap.size)) 4 24 53 [(0, .ref (g.2.1 0)), (1, .int x1), (2, .int x2), (3, .int ((b2i x3))), (4, .int x4), (5, .int x5), (6, .int x6)] [] M := by
    intro x1 x2 x3 x4 x5 x6 M h
    unfold F_KW_all_l53 at h
    refine loop_C4 (G := fun (x4 : Int32) (x5 : Int32) (x6 : Int32) (M : Mem) => GG p l e { frames := 7, cells := 4, slots := 24, locals := 166 } s m args below meth c g 7 (vx_MQ below (Qn g s.heap.size (rvI rr) MZ) (QX g s.heap.size (rvI rr) MZ) args s 4 24 (AS g s.heap.size)) 4 24 53 [(0, .ref (g.2.1 0)), (1, .int x1), (2, .int x2), (3, .int ((b2i x3))), (4, .int x4), (5, .int x5), (6, .int x6)] [] M) (body := F_KW_all_b53 x1 x2 x3) ?_ FUEL _ _ _ _ (wpO_bind h)
    intro P53 E53 X53
    have J120 : ∀ (x4 : Int32) (x5 : Int32) (x6 : Int32) (M : Mem), wpO (F_KW_all_j120 x1 x2 x3 x4 x5 x6 M) P53 → GG p l e { frames := 7, cells := 4, slots := 24, locals := 166 } s m args below meth c g 7 (vx_MQ below (Qn g s.heap.size (rvI rr) MZ) (QX g s.heap.size (rvI rr) MZ) args s 4 24 (AS g s.heap.size)) 4 24 120 [(0, .ref (g.2.1 0)), (1, .int x1), (2, .int x2), (3, .int ((b2i x3))), (4, .int x4), (5, .int x5), (6, .int x6)] [] M := by
      intro x4 x5 x6 M h
      unfold F_KW_all_j120 at h
      refine G_iinc (v := x4 + 1) 4 rfl K dX11_all_120 rfl (Nat.le_of_ble_eq_true rfl) rfl ?_
      refine G_iload 5 rfl K dX11_all_123 ?_
      refine G_iconst (v := (-1)) rfl K dX11_all_125 ?_
      refine G_icmp_ne (tgt := 134) K dX11_all_126 (by decide) (fun hc => ?_) (fun hc => ?_)
      · have h := wpO_f h hc
        refine G_iload 5 rfl K dX11_all_134 ?_
        refine G_istore K dX11_all_136 (Nat.le_of_ble_eq_true rfl) rfl ?_
        refine G_iinc (v := x6 + 1) 6 rfl K dX11_all_138 rfl (Nat.le_of_ble_eq_true rfl) rfl ?_
        refine G_goto (tgt := 53) K dX11_all_141 (by decide) ?_
        exact G_lv (lv' := [(0, .ref (g.2.1 0)), (1, .int x1), (2, .int x2), (3, .int ((b2i x3))), (4, .int (x4 + 1)), (5, .int x5), (6, .int (x6 + 1))]) [3, 4, 5, 6, 2, 1, 0] rfl (E53 (x4 + 1) x5 (x6 + 1) M (wpO_some h))
      · have h := wpO_t h hc
        refine G_iload 6 rfl K dX11_all_129 ?_
        refine G_goto (tgt := 136) K dX11_all_131 (by decide) ?_
        refine G_istore K dX11_all_136 (Nat.le_of_ble_eq_true rfl) rfl ?_
        refine G_iinc (v := x6 + 1) 6 rfl K dX11_all_138 rfl (Nat.le_of_ble_eq_true rfl) rfl ?_
        refine G_goto (tgt := 53) K dX11_all_141 (by decide) ?_
        exact G_lv (lv' := [(0, .ref (g.2.1 0)), (1, .int x1), (2, .int x2), (3, .int ((b2i x3))), (4, .int (x4 + 1)), (5, .int x6), (6, .int (x6 + 1))]) [3, 4, 5, 6, 2, 1, 0] rfl (E53 (x4 + 1) x6 (x6 + 1) M (wpO_some h))
    intro z h
    unfold F_KW_all_b53 at h
    refine G_iload 6 rfl K dX11_all_53 ?_
    refine G_bipush (v := 64) rfl K dX11_all_55 ?_
    refine G_icmp_ge (tgt := 144) K dX11_all_57 (by decide) (fun hc => ?_) (fun hc => ?_)
    · have h := wpO_t h hc
      have h := X53 _ (wpO_some h)
      try dsimp only at h
      exact G_lv (lv' := [(2, .int x2), (4, .int z.1), (5, .int z.2.1)]) [2, 4, 5] rfl (J144 x2 z.1 z.2.1 z.2.2.2 h)
    · have h := wpO_f h hc
      refine G_aload_n rfl 0 rfl K dX11_all_60 ?_
      refine G_get (ci := 11) (k := 0) K rfl in_X11 wd_402 rfl dX11_all_61 (Nat.le_of_ble_eq_true rfl) (sh_0 _ _) (Nat.le_of_ble_eq_true rfl) rfl ?_
      refine G_iload 6 rfl K dX11_all_64 ?_
      obtain ⟨r6, e6, h⟩ := wpO_bind h
      refine G_callVv (ci := 10) [.int z.2.2.1] [] K dX11_all_66 wv_1396 yd_X10_putSpareWay (Nat.le_of_ble_eq_true rfl) (sh_1 _ _) rfl (by decide) (by decide) rfl rfl (Nat.le_of_ble_eq_true rfl) (K_Well_putSpareWay l g htr z.2.2.1 z.2.2.2 _ e6) ?_
      refine G_aload_n rfl 0 rfl K dX11_all_69 ?_
      refine G_get (ci := 11) (k := 5) K rfl in_X11 wd_407 rfl dX11_all_70 (Nat.le_of_ble_eq_true rfl) (sh_0 _ _) (Nat.le_of_ble_eq_true rfl) rfl ?_
      refine G_iload_n rfl 1 rfl K dX11_all_73 ?_
      refine G_bipush (v := 8) rfl K dX11_all_74 ?_
      refine G_aload_n rfl 0 rfl K dX11_all_76 ?_
      refine G_get (ci := 11) (k := 0) K rfl in_X11 wd_402 rfl dX11_all_77 (Nat.le_of_ble_eq_true rfl) (sh_0 _ _) (Nat.le_of_ble_eq_true rfl) rfl ?_
      refine G_get (ci := 10) (k := 1) K rfl in_X10 wd_64 rfl dX11_all_80 (Nat.le_of_ble_eq_true rfl) (sh_1 _ _) (Nat.le_of_ble_eq_true rfl) rfl ?_
      refine G_i2l K dX11_all_83 ?_
      refine G_aload_n rfl 0 rfl K dX11_all_84 ?_
      refine G_get (ci := 11) (k := 0) K rfl in_X11 wd_402 rfl dX11_all_85 (Nat.le_of_ble_eq_true rfl) (sh_0 _ _) (Nat.le_of_ble_eq_true rfl) rfl ?_
      refine G_get (ci := 10) (k := 2) K rfl in_X10 wd_70 rfl dX11_all_88 (Nat.le_of_ble_eq_true rfl) (sh_1 _ _) (Nat.le_of_ble_eq_true rfl) rfl ?_
      refine G_i2l K dX11_all_91 ?_
      obtain ⟨r7, e7, h⟩ := wpO_bind h
      refine G_callVv (ci := 6) [.int x1, .int 8, .long ((r6.1 1 1).toInt64), .long ((r6.1 1 2).toInt64)] [] K dX11_all_92 wv_960 yd_X6_look (Nat.le_of_ble_eq_true rfl) (sh_34 _ _) rfl (by decide) (by decide) rfl rfl (Nat.le_of_ble_eq_true rfl) (K_Pair_look l g htr x1 8 ((r6.1 1 1).toInt64) ((r6.1 1 2).toInt64) r6 _ e7) ?_
      refine G_iload_n rfl 3 rfl K dX11_all_95 ?_
      refine G_ifb_eq (tgt := 113) K dX11_all_96 (by decide) (fun hc => ?_) (fun hc => ?_)
      · have h := wpO_bf h hc
        refine G_aload_n rfl 0 rfl K dX11_all_113 ?_
        obtain ⟨r8, e8, h⟩ := wpO_bind h
        refine G_callVi (ci := 11) [] [] K dX11_all_114 wv_1401 yd_X11_isBestAnswer (Nat.le_of_ble_eq_true rfl) (sh_0 _ _) rfl (by decide) (by decide) rfl rfl (Nat.le_of_ble_eq_true rfl) (K_KW_isBestAnswer l g htr  r7 _ _ e8) ?_
        refine G_ifb_eq (tgt := 138) K dX11_all_117 (by decide) (fun hc => ?_) (fun hc => ?_)
        · have h := wpO_bf h hc
          refine G_iinc (v := z.2.2.1 + 1) 6 rfl K dX11_all_138 rfl (Nat.le_of_ble_eq_true rfl) rfl ?_
          refine G_goto (tgt := 53) K dX11_all_141 (by decide) ?_
          exact G_lv (lv' := [(0, .ref (g.2.1 0)), (1, .int x1), (2, .int x2), (3, .int ((b2i x3))), (4, .int z.1), (5, .int z.2.1), (6, .int (z.2.2.1 + 1))]) [1, 2, 3, 4, 5, 6, 0] rfl (E53 z.1 z.2.1 (z.2.2.1 + 1) r8.2 (wpO_some h))
        · have h := wpO_t h hc
          exact J120 z.1 z.2.1 z.2.2.1 r8.2 h
      · have h := wpO_t h hc
        refine G_aload_n rfl 0 rfl K dX11_all_99 ?_
        refine G_get (ci := 11) (k := 5) K rfl in_X11 wd_407 rfl dX11_all_100 (Nat.le_of_ble_eq_true rfl) (sh_0 _ _) (Nat.le_of_ble_eq_true rfl) rfl ?_
        obtain ⟨r9, e9, h⟩ := wpO_bind h
        refine G_callVi (ci := 6) [] [] K dX11_all_103 wv_994 yd_X6_firstGain (Nat.le_of_ble_eq_true rfl) (sh_34 _ _) rfl (by decide) (by decide) rfl rfl (Nat.le_of_ble_eq_true rfl) (K_Pair_firstGain l g htr  r7 _ e9) ?_
        refine G_iconst (v := (-1)) rfl K dX11_all_106 ?_
        refine G_icmp_ne (tgt := 138) K dX11_all_107 (by decide) (fun hc => ?_) (fun hc => ?_)
        · have h := wpO_f h hc
          refine G_iinc (v := z.2.2.1 + 1) 6 rfl K dX11_all_138 rfl (Nat.le_of_ble_eq_true rfl) rfl ?_
          refine G_goto (tgt := 53) K dX11_all_141 (by decide) ?_
          exact G_lv (lv' := [(0, .ref (g.2.1 0)), (1, .int x1), (2, .int x2), (3, .int ((b2i x3))), (4, .int z.1), (5, .int z.2.1), (6, .int (z.2.2.1 + 1))]) [1, 2, 3, 4, 5, 6, 0] rfl (E53 z.1 z.2.1 (z.2.2.1 + 1) r7 (wpO_some h))
        · have h := wpO_t h hc
          refine G_goto (tgt := 120) K dX11_all_110 (by decide) ?_
          exact J120 z.1 z.2.1 z.2.2.1 r7 h
  have J34 : ∀ (x1 : Int32) (x2 : Int32) (s0 : Bool) (M : Mem), wpO (F_KW_all_j34 x1 x2 s0 M) PHI → GG p l e { frames := 7, cells := 4, slots := 24, locals := 166 } s m args below meth c g 7 (vx_MQ below (Qn g s.heap.size (rvI rr) MZ) (QX g s.heap.size (rvI rr) MZ) args s 4 24 (AS g s.heap.size)) 4 24 34 [(0, .ref (g.2.1 0)), (1, .int x1), (2, .int x2)] [.int ((b2i s0))] M := by
    intro x1 x2 s0 M h
    unfold F_KW_all_j34 at h
    refine G_istore_n rfl K dX11_all_34 (Nat.le_of_ble_eq_true rfl) rfl ?_
    refine G_aload_n rfl 1 rfl K dX11_all_35 ?_
    refine G_get (ci := 11) (k := 6) K rfl in_X11 wd_408 rfl dX11_all_36 (Nat.le_of_ble_eq_true rfl) (sh_0 _ _) (Nat.le_of_ble_eq_true rfl) rfl ?_
    refine G_iconst (v := 1) rfl K dX11_all_39 ?_
    refine G_iload_n rfl 2 rfl K dX11_all_40 ?_
    obtain ⟨r5, e5, h⟩ := wpO_bind h
    refine G_callVv (ci := 0) [.int 1, .int x1] [] K dX11_all_41 wv_1013 yd_X0_look (Nat.le_of_ble_eq_true rfl) (sh_52 _ _) rfl (by decide) (by decide) rfl rfl (Nat.le_of_ble_eq_true rfl) (K_Answer_look l g htr 1 x1 M _ e5) ?_
    refine G_iconst (v := 0) rfl K dX11_all_44 ?_
    refine G_istore K dX11_all_45 (Nat.le_of_ble_eq_true rfl) rfl ?_
    refine G_iconst (v := (-1)) rfl K dX11_all_47 ?_
    refine G_istore K dX11_all_48 (Nat.le_of_ble_eq_true rfl) rfl ?_
    refine G_iconst (v := 0) rfl K dX11_all_50 ?_
    refine G_istore K dX11_all_51 (Nat.le_of_ble_eq_true rfl) rfl ?_
    exact G_lv (lv' := [(0, .ref (g.2.1 0)), (1, .int x1), (2, .int x2), (3, .int ((b2i s0))), (4, .int 0), (5, .int ((-1))), (6, .int 0)]) [4, 5, 6, 3, 2, 1, 0] rfl (J53 x1 x2 s0 0 ((-1)) 0 r5 h)
  unfold F_KW_all at h
  refine G_aload_n rfl 0 rfl K dX11_all_0 ?_
  refine G_iload_n rfl 1 rfl K dX11_all_1 ?_
  obtain ⟨E1, M1, e1, h⟩ | ⟨r1, M1, e1, h⟩ := wpO_x h
  · cases hPHI _ h
    exact G_callXVt (ci := 11) [.int x1] [] K dX11_all_2 wv_898 yd_X11_needWay (Nat.le_of_ble_eq_true rfl) (sh_0 _ _) rfl (by decide) (by decide) rfl rfl (Nat.le_of_ble_eq_true rfl) (K_KW_needWay l g htr x1 M _ _ e1) (GX_out K ht (Nat.le_of_ble_eq_true rfl) (Nat.le_of_ble_eq_true rfl) ⟨rfl, rfl⟩)
  refine G_callXVv (ci := 11) [.int x1] [] K dX11_all_2 wv_898 yd_X11_needWay (Nat.le_of_ble_eq_true rfl) (sh_0 _ _) rfl (by decide) (by decide) rfl rfl (Nat.le_of_ble_eq_true rfl) (K_KW_needWay l g htr x1 M _ _ e1) ?_
  refine G_aload_n rfl 0 rfl K dX11_all_5 ?_
  obtain ⟨E2, M2, e2, h⟩ | ⟨r2, M2, e2, h⟩ := wpO_x h
  · cases hPHI _ h
    exact G_callXVt (ci := 11) [] [] K dX11_all_6 wv_1193 yd_X11_needTwoActs (Nat.le_of_ble_eq_true rfl) (sh_0 _ _) rfl (by decide) (by decide) rfl rfl (Nat.le_of_ble_eq_true rfl) (K_KW_needTwoActs l g htr  M1 _ _ e2) (GX_out K ht (Nat.le_of_ble_eq_true rfl) (Nat.le_of_ble_eq_true rfl) ⟨rfl, rfl⟩)
  refine G_callXVv (ci := 11) [] [] K dX11_all_6 wv_1193 yd_X11_needTwoActs (Nat.le_of_ble_eq_true rfl) (sh_0 _ _) rfl (by decide) (by decide) rfl rfl (Nat.le_of_ble_eq_true rfl) (K_KW_needTwoActs l g htr  M1 _ _ e2) ?_
  refine G_aload_n rfl 0 rfl K dX11_all_9 ?_
  refine G_iload_n rfl 1 rfl K dX11_all_10 ?_
  obtain ⟨E3, M3, e3, h⟩ | ⟨r3, M3, e3, h⟩ := wpO_x h
  · cases hPHI _ h
    exact G_callXVt (ci := 11) [.int x1] [] K dX11_all_11 wv_941 yd_X11_needFree (Nat.le_of_ble_eq_true rfl) (sh_0 _ _) rfl (by decide) (by decide) rfl rfl (Nat.le_of_ble_eq_true rfl) (K_KW_needFree l g htr x1 M2 _ _ e3) (GX_out K ht (Nat.le_of_ble_eq_true rfl) (Nat.le_of_ble_eq_true rfl) ⟨rfl, rfl⟩)
  refine G_callXVv (ci := 11) [.int x1] [] K dX11_all_11 wv_941 yd_X11_needFree (Nat.le_of_ble_eq_true rfl) (sh_0 _ _) rfl (by decide) (by decide) rfl rfl (Nat.le_of_ble_eq_true rfl) (K_KW_needFree l g htr x1 M2 _ _ e3) ?_
  refine G_aload_n rfl 0 rfl K dX11_all_14 ?_
  refine G_iload_n rfl 2 rfl K dX11_all_15 ?_
  refine G_iconst (v := 3) rfl K dX11_all_16 ?_
  obtain ⟨E4, M4, e4, h⟩ | ⟨r4, M4, e4, h⟩ := wpO_x h
  · cases hPHI _ h
    exact G_callXVt (ci := 11) [.int x2, .int 3] [] K dX11_all_17 wv_904 yd_X11_needWhat (Nat.le_of_ble_eq_true rfl) (sh_0 _ _) rfl (by decide) (by decide) rfl rfl (Nat.le_of_ble_eq_true rfl) (K_KW_needWhat l g htr x2 3 M3 _ _ e4) (GX_out K ht (Nat.le_of_ble_eq_true rfl) (Nat.le_of_ble_eq_true rfl) ⟨rfl, rfl⟩)
  refine G_callXVv (ci := 11) [.int x2, .int 3] [] K dX11_all_17 wv_904 yd_X11_needWhat (Nat.le_of_ble_eq_true rfl) (sh_0 _ _) rfl (by decide) (by decide) rfl rfl (Nat.le_of_ble_eq_true rfl) (K_KW_needWhat l g htr x2 3 M3 _ _ e4) ?_
  refine G_iload_n rfl 2 rfl K dX11_all_20 ?_
  refine G_if_eq (tgt := 29) K dX11_all_21 (by decide) (fun hc => ?_) (fun hc => ?_)
  · have h := wpO_t h hc
    refine G_iconst (v := 1) rfl K dX11_all_29 ?_
    refine G_goto (tgt := 34) K dX11_all_30 (by decide) ?_
    exact J34 x1 x2 true M4 h
  · have h := wpO_f h hc
    refine G_iload_n rfl 2 rfl K dX11_all_24 ?_
    refine G_iconst (v := 3) rfl K dX11_all_25 ?_
    refine G_icmp_ne (tgt := 33) K dX11_all_26 (by decide) (fun hc => ?_) (fun hc => ?_)
    · have h := wpO_f h hc
      refine G_iconst (v := 0) rfl K dX11_all_33 ?_
      exact J34 x1 x2 false M4 h
    · have h := wpO_t h hc
      refine G_iconst (v := 1) rfl K dX11_all_29 ?_
      refine G_goto (tgt := 34) K dX11_all_30 (by decide) ?_
      exact J34 x1 x2 true M4 h
theorem wv_1072 : wdV "KeptWell" 228 yX4_leastOf cX4_leastOf 2 (some .int) := ⟨wd_1072, wd_1073, wd_1074, wd_9, wd_1075⟩
theorem wv_1068 : wdV "KeptWell" 225 yX4_threatTo cX4_threatTo 4 (some .int) := ⟨wd_1068, wd_1069, wd_1070, wd_9, wd_1071⟩
def on_X11_least : Nat := 0xace400b61b3500b42a0b00a7e100b61b3500b42a0e00991ca500b61b2a
theorem ob_X11_least : OKB cX11_least on_X11_least 29 := ⟨by decide +kernel, by decide +kernel⟩
theorem dX11_least_0 : dc cX11_least 0 1 (.aload_n 0) 1 := o_42 ob_X11_least rfl rfl rfl
theorem dX11_least_1 : dc cX11_least 1 2 (.iload_n 1) 1 := o_27 ob_X11_least rfl rfl rfl
theorem dX11_least_2 : dc cX11_least 2 5 (.invokevirtual 165) 3 := o_182 ob_X11_least rfl rfl rfl rfl
theorem dX11_least_5 : dc cX11_least 5 6 (.iload_n 2) 1 := o_28 ob_X11_least rfl rfl rfl
theorem dX11_least_6 : dc cX11_least 6 9 (.ifCond .eq 14) 3 := o_153 ob_X11_least rfl rfl rfl rfl
theorem dX11_least_9 : dc cX11_least 9 10 (.aload_n 0) 1 := o_42 ob_X11_least rfl rfl rfl
theorem dX11_least_10 : dc cX11_least 10 13 (.getfield 53) 3 := o_180 ob_X11_least rfl rfl rfl rfl
theorem dX11_least_13 : dc cX11_least 13 14 (.iload_n 1) 1 := o_27 ob_X11_least rfl rfl rfl
theorem dX11_least_14 : dc cX11_least 14 17 (.invokevirtual 225) 3 := o_182 ob_X11_least rfl rfl rfl rfl
theorem dX11_least_17 : dc cX11_least 17 20 (.goto 11) 3 := o_167 ob_X11_least rfl rfl rfl rfl
theorem dX11_least_20 : dc cX11_least 20 21 (.aload_n 0) 1 := o_42 ob_X11_least rfl rfl rfl
theorem dX11_least_21 : dc cX11_least 21 24 (.getfield 53) 3 := o_180 ob_X11_least rfl rfl rfl rfl
theorem dX11_least_24 : dc cX11_least 24 25 (.iload_n 1) 1 := o_27 ob_X11_least rfl rfl rfl
theorem dX11_least_25 : dc cX11_least 25 28 (.invokevirtual 228) 3 := o_182 ob_X11_least rfl rfl rfl rfl
theorem dX11_least_28 : dc cX11_least 28 29 .ireturn 1 := o_172 ob_X11_least rfl rfl rfl
def F_KW_least (x1 : Int32) (x2 : Int32) (M : Mem) : Option ((String ⊕ Int32) × Mem) :=
  xbind (F_KW_needPerson x1 M) fun _ M1 => if x2 = 0 then (F_Day_leastOf x1 M1).bind fun r2 => some ((.inr r2, M1)) else (F_Day_threatTo x1 M1).bind fun r3 => some ((.inr r3, M1))
set_option maxRecDepth 100000 in
set_option maxHeartbeats 4000000 in
theorem K_KW_least (l : Launch) (g : GB) (htr : l.stackTraces = false) (x1 : Int32) (x2 : Int32) (M : Mem) (rr : String ⊕ Int32) (MZ : Mem) (h : F_KW_least x1 x2 M = some (rr, MZ)) : CT l g yX11_least (.code yX11_least cX11_least 3 (some .int) :: wAll) { frames := 7, cells := 1, slots := 6, locals := 121 } [.ref (g.2.1 0), .int x1, .int x2] M (rvI rr) MZ := by
  refine CT.of [(0, .ref (g.2.1 0)), (1, .int x1), (2, .int x2)] (by decide +kernel) (Nat.le_of_ble_eq_true rfl) rfl htr ?_
  intro p e s m args below meth c K hr ht
  skip
  obtain ⟨PHI, hPHI, h⟩ : ∃ PHI : (String ⊕ Int32) × Mem → Prop, (∀ a, PHI a → a = (rr, MZ)) ∧ wpO (F_KW_least x1 x2 M) PHI := ⟨fun a => a = (rr, MZ), fun _ h => h, _, h, rfl⟩
  unfold F_KW_least at h
  refine G_aload_n rfl 0 rfl K dX11_least_0 ?_
  refine G_iload_n rfl 1 rfl K dX11_least_1 ?_
  obtain ⟨E1, M1, e1, h⟩ | ⟨r1, M1, e1, h⟩ := wpO_x h
  · cases hPHI _ h
    exact G_callXVt (ci := 11) [.int x1] [] K dX11_least_2 wv_937 yd_X11_needPerson (Nat.le_of_ble_eq_true rfl) (sh_0 _ _) rfl (by decide) (by decide) rfl rfl (Nat.le_of_ble_eq_true rfl) (K_KW_needPerson l g htr x1 M _ _ e1) (GX_out K ht (Nat.le_of_ble_eq_true rfl) (Nat.le_of_ble_eq_true rfl) ⟨rfl, rfl⟩)
  refine G_callXVv (ci := 11) [.int x1] [] K dX11_least_2 wv_937 yd_X11_needPerson (Nat.le_of_ble_eq_true rfl) (sh_0 _ _) rfl (by decide) (by decide) rfl rfl (Nat.le_of_ble_eq_true rfl) (K_KW_needPerson l g htr x1 M _ _ e1) ?_
  refine G_iload_n rfl 2 rfl K dX11_least_5 ?_
  refine G_if_eq (tgt := 20) K dX11_least_6 (by decide) (fun hc => ?_) (fun hc => ?_)
  · have h := wpO_t h hc
    refine G_aload_n rfl 0 rfl K dX11_least_20 ?_
    refine G_get (ci := 11) (k := 7) K rfl in_X11 wd_409 rfl dX11_least_21 (Nat.le_of_ble_eq_true rfl) (sh_0 _ _) (Nat.le_of_ble_eq_true rfl) rfl ?_
    refine G_iload_n rfl 1 rfl K dX11_least_24 ?_
    obtain ⟨r2, e2, h⟩ := wpO_bind h
    refine G_callVi (ci := 4) [.int x1] [] K dX11_least_25 wv_1072 yd_X4_leastOf (Nat.le_of_ble_eq_true rfl) (sh_68 _ _) rfl (by decide) (by decide) rfl rfl (Nat.le_of_ble_eq_true rfl) (K_Day_leastOf l g htr x1 M1 _ e2) ?_
    cases hPHI _ (wpO_some h)
    exact G_iret K hr rfl dX11_least_28 (Nat.le_of_ble_eq_true rfl) (Nat.le_of_ble_eq_true rfl) ⟨rfl, rfl⟩
  · have h := wpO_f h hc
    refine G_aload_n rfl 0 rfl K dX11_least_9 ?_
    refine G_get (ci := 11) (k := 7) K rfl in_X11 wd_409 rfl dX11_least_10 (Nat.le_of_ble_eq_true rfl) (sh_0 _ _) (Nat.le_of_ble_eq_true rfl) rfl ?_
    refine G_iload_n rfl 1 rfl K dX11_least_13 ?_
    obtain ⟨r3, e3, h⟩ := wpO_bind h
    refine G_callVi (ci := 4) [.int x1] [] K dX11_least_14 wv_1068 yd_X4_threatTo (Nat.le_of_ble_eq_true rfl) (sh_68 _ _) rfl (by decide) (by decide) rfl rfl (Nat.le_of_ble_eq_true rfl) (K_Day_threatTo l g htr x1 M1 _ e3) ?_
    refine G_goto (tgt := 28) K dX11_least_17 (by decide) ?_
    cases hPHI _ (wpO_some h)
    exact G_iret K hr rfl dX11_least_28 (Nat.le_of_ble_eq_true rfl) (Nat.le_of_ble_eq_true rfl) ⟨rfl, rfl⟩
theorem yd_X4_tellLots : ydN yX4_tellLots 2 := ⟨by decide, by decide, by decide +kernel⟩
theorem wv_1084 : wdV "KeptWell" 231 yX4_tellLots cX4_tellLots 5 none := ⟨wd_1084, wd_1085, wd_1086, wd_9, wd_1087⟩
def on_X11_lots : Nat := 0xadb300b61c5300b42ae700b65300b42a1b3500b42aa500b61b2a
theorem ob_X11_lots : OKB cX11_lots on_X11_lots 26 := ⟨by decide +kernel, by decide +kernel⟩
theorem dX11_lots_0 : dc cX11_lots 0 1 (.aload_n 0) 1 := o_42 ob_X11_lots rfl rfl rfl
theorem dX11_lots_1 : dc cX11_lots 1 2 (.iload_n 1) 1 := o_27 ob_X11_lots rfl rfl rfl
theorem dX11_lots_2 : dc cX11_lots 2 5 (.invokevirtual 165) 3 := o_182 ob_X11_lots rfl rfl rfl rfl
theorem dX11_lots_5 : dc cX11_lots 5 6 (.aload_n 0) 1 := o_42 ob_X11_lots rfl rfl rfl
theorem dX11_lots_6 : dc cX11_lots 6 9 (.getfield 53) 3 := o_180 ob_X11_lots rfl rfl rfl rfl
theorem dX11_lots_9 : dc cX11_lots 9 10 (.iload_n 1) 1 := o_27 ob_X11_lots rfl rfl rfl
theorem dX11_lots_10 : dc cX11_lots 10 11 (.aload_n 0) 1 := o_42 ob_X11_lots rfl rfl rfl
theorem dX11_lots_11 : dc cX11_lots 11 14 (.getfield 83) 3 := o_180 ob_X11_lots rfl rfl rfl rfl
theorem dX11_lots_14 : dc cX11_lots 14 17 (.invokevirtual 231) 3 := o_182 ob_X11_lots rfl rfl rfl rfl
theorem dX11_lots_17 : dc cX11_lots 17 18 (.aload_n 0) 1 := o_42 ob_X11_lots rfl rfl rfl
theorem dX11_lots_18 : dc cX11_lots 18 21 (.getfield 83) 3 := o_180 ob_X11_lots rfl rfl rfl rfl
theorem dX11_lots_21 : dc cX11_lots 21 22 (.iload_n 2) 1 := o_28 ob_X11_lots rfl rfl rfl
theorem dX11_lots_22 : dc cX11_lots 22 25 (.invokevirtual 179) 3 := o_182 ob_X11_lots rfl rfl rfl rfl
theorem dX11_lots_25 : dc cX11_lots 25 26 .lreturn 1 := o_173 ob_X11_lots rfl rfl rfl
def F_KW_lots (x1 : Int32) (x2 : Int32) (M : Mem) : Option ((String ⊕ Int64) × Mem) :=
  xbind (F_KW_needPerson x1 M) fun _ M1 => (F_Day_tellLots 93 x1 M1).bind fun r2 => (F_Fraction_part 93 x2 r2).bind fun r3 => some ((.inr r3, r2))
set_option maxRecDepth 100000 in
set_option maxHeartbeats 4000000 in
theorem K_KW_lots (l : Launch) (g : GB) (htr : l.stackTraces = false) (x1 : Int32) (x2 : Int32) (M : Mem) (rr : String ⊕ Int64) (MZ : Mem) (h : F_KW_lots x1 x2 M = some (rr, MZ)) : CT l g yX11_lots (.code yX11_lots cX11_lots 3 (some .long) :: wAll) { frames := 7, cells := 1, slots := 6, locals := 125 } [.ref (g.2.1 0), .int x1, .int x2] M (rvJ rr) MZ := by
  refine CT.of [(0, .ref (g.2.1 0)), (1, .int x1), (2, .int x2)] (by decide +kernel) (Nat.le_of_ble_eq_true rfl) rfl htr ?_
  intro p e s m args below meth c K hr ht
  skip
  obtain ⟨PHI, hPHI, h⟩ : ∃ PHI : (String ⊕ Int64) × Mem → Prop, (∀ a, PHI a → a = (rr, MZ)) ∧ wpO (F_KW_lots x1 x2 M) PHI := ⟨fun a => a = (rr, MZ), fun _ h => h, _, h, rfl⟩
  unfold F_KW_lots at h
  refine G_aload_n rfl 0 rfl K dX11_lots_0 ?_
  refine G_iload_n rfl 1 rfl K dX11_lots_1 ?_
  obtain ⟨E1, M1, e1, h⟩ | ⟨r1, M1, e1, h⟩ := wpO_x h
  · cases hPHI _ h
    exact G_callXVt (ci := 11) [.int x1] [] K dX11_lots_2 wv_937 yd_X11_needPerson (Nat.le_of_ble_eq_true rfl) (sh_0 _ _) rfl (by decide) (by decide) rfl rfl (Nat.le_of_ble_eq_true rfl) (K_KW_needPerson l g htr x1 M _ _ e1) (GX_out K ht (Nat.le_of_ble_eq_true rfl) (Nat.le_of_ble_eq_true rfl) ⟨rfl, rfl⟩)
  refine G_callXVv (ci := 11) [.int x1] [] K dX11_lots_2 wv_937 yd_X11_needPerson (Nat.le_of_ble_eq_true rfl) (sh_0 _ _) rfl (by decide) (by decide) rfl rfl (Nat.le_of_ble_eq_true rfl) (K_KW_needPerson l g htr x1 M _ _ e1) ?_
  refine G_aload_n rfl 0 rfl K dX11_lots_5 ?_
  refine G_get (ci := 11) (k := 7) K rfl in_X11 wd_409 rfl dX11_lots_6 (Nat.le_of_ble_eq_true rfl) (sh_0 _ _) (Nat.le_of_ble_eq_true rfl) rfl ?_
  refine G_iload_n rfl 1 rfl K dX11_lots_9 ?_
  refine G_aload_n rfl 0 rfl K dX11_lots_10 ?_
  refine G_get (ci := 11) (k := 11) K rfl in_X11 wd_413 rfl dX11_lots_11 (Nat.le_of_ble_eq_true rfl) (sh_0 _ _) (Nat.le_of_ble_eq_true rfl) rfl ?_
  obtain ⟨r2, e2, h⟩ := wpO_bind h
  refine G_callVv (ci := 4) [.int x1, .ref (g.2.1 93)] [] K dX11_lots_14 wv_1084 yd_X4_tellLots (Nat.le_of_ble_eq_true rfl) (sh_68 _ _) rfl (by decide) (by decide) rfl rfl (Nat.le_of_ble_eq_true rfl) (K_Day_tellLots l g htr 93 isFrac_93 x1 M1 _ e2) ?_
  refine G_aload_n rfl 0 rfl K dX11_lots_17 ?_
  refine G_get (ci := 11) (k := 11) K rfl in_X11 wd_413 rfl dX11_lots_18 (Nat.le_of_ble_eq_true rfl) (sh_0 _ _) (Nat.le_of_ble_eq_true rfl) rfl ?_
  refine G_iload_n rfl 2 rfl K dX11_lots_21 ?_
  obtain ⟨r3, e3, h⟩ := wpO_bind h
  refine G_callVl (ci := 5) [.int x2] [] K dX11_lots_22 wv_979 yd_X5_part (Nat.le_of_ble_eq_true rfl) (sh_93 _ _) rfl (by decide) (by decide) rfl rfl (Nat.le_of_ble_eq_true rfl) (K_Fraction_part l g htr 93 isFrac_93 x2 r2 _ e3) ?_
  cases hPHI _ (wpO_some h)
  exact G_lret K hr dX11_lots_25 (Nat.le_of_ble_eq_true rfl) (Nat.le_of_ble_eq_true rfl) ⟨rfl, rfl⟩
theorem yd_X4_steadyPairs : ydN yX4_steadyPairs 0 := ⟨by decide, by decide, by decide +kernel⟩
theorem wv_568 : wdV "KeptWell" 234 yX4_steadyPairs cX4_steadyPairs 4 (some .int) := ⟨wd_568, wd_569, wd_570, wd_9, wd_571⟩
def on_X11_once : Nat := 0xacea00b63500b42a
theorem ob_X11_once : OKB cX11_once on_X11_once 8 := ⟨by decide +kernel, by decide +kernel⟩
theorem dX11_once_0 : dc cX11_once 0 1 (.aload_n 0) 1 := o_42 ob_X11_once rfl rfl rfl
theorem dX11_once_1 : dc cX11_once 1 4 (.getfield 53) 3 := o_180 ob_X11_once rfl rfl rfl rfl
theorem dX11_once_4 : dc cX11_once 4 7 (.invokevirtual 234) 3 := o_182 ob_X11_once rfl rfl rfl rfl
theorem dX11_once_7 : dc cX11_once 7 8 .ireturn 1 := o_172 ob_X11_once rfl rfl rfl
def F_KW_once (M : Mem) : Option (Int32) :=
  (F_Day_steadyPairs M).bind fun r1 => some r1
set_option maxRecDepth 100000 in
set_option maxHeartbeats 4000000 in
theorem K_KW_once (l : Launch) (g : GB) (htr : l.stackTraces = false) (M : Mem) (rr : Int32) (h : F_KW_once M = some rr) : CT l g yX11_once (.code yX11_once cX11_once 1 (some .int) :: wAll) { frames := 4, cells := 0, slots := 0, locals := 91 } [.ref (g.2.1 0)] M (.inl (some (.int rr))) M := by
  refine CT.of [(0, .ref (g.2.1 0))] (by decide +kernel) (Nat.le_of_ble_eq_true rfl) rfl htr ?_
  intro p e s m args below meth c K hr ht
  skip
  obtain ⟨PHI, hPHI, h⟩ : ∃ PHI : Int32 → Prop, (∀ a, PHI a → a = rr) ∧ wpO (F_KW_once M) PHI := ⟨fun a => a = rr, fun _ h => h, _, h, rfl⟩
  unfold F_KW_once at h
  refine G_aload_n rfl 0 rfl K dX11_once_0 ?_
  refine G_get (ci := 11) (k := 7) K rfl in_X11 wd_409 rfl dX11_once_1 (Nat.le_of_ble_eq_true rfl) (sh_0 _ _) (Nat.le_of_ble_eq_true rfl) rfl ?_
  obtain ⟨r1, e1, h⟩ := wpO_bind h
  refine G_callVi (ci := 4) [] [] K dX11_once_4 wv_568 yd_X4_steadyPairs (Nat.le_of_ble_eq_true rfl) (sh_68 _ _) rfl (by decide) (by decide) rfl rfl (Nat.le_of_ble_eq_true rfl) (K_Day_steadyPairs l g htr  M _ e1) ?_
  cases hPHI _ (wpO_some h)
  exact G_iret K hr rfl dX11_once_7 (Nat.le_of_ble_eq_true rfl) (Nat.le_of_ble_eq_true rfl) ⟨rfl, rfl⟩
theorem yd_X4_findCorners : ydN yX4_findCorners 0 := ⟨by decide, by decide, by decide +kernel⟩
theorem wv_586 : wdV "KeptWell" 237 yX4_findCorners cX4_findCorners 3 none := ⟨wd_586, wd_587, wd_588, wd_9, wd_589⟩
theorem wv_615 : wdV "KeptWell" 246 yX7_small cX7_small 2 (some .int) := ⟨wd_615, wd_480, wd_481, wd_3, wd_482⟩
def on_X11_corner : Nat := 0xacf600b61bfb00b43500b42a0e00a7f600b61bf300b43500b42a1100991cace803110700a1f000b43500b42a1b0e009b1bed00b63500b42a
theorem ob_X11_corner : OKB cX11_corner on_X11_corner 56 := ⟨by decide +kernel, by decide +kernel⟩
theorem dX11_corner_0 : dc cX11_corner 0 1 (.aload_n 0) 1 := o_42 ob_X11_corner rfl rfl rfl
theorem dX11_corner_1 : dc cX11_corner 1 4 (.getfield 53) 3 := o_180 ob_X11_corner rfl rfl rfl rfl
theorem dX11_corner_4 : dc cX11_corner 4 7 (.invokevirtual 237) 3 := o_182 ob_X11_corner rfl rfl rfl rfl
theorem dX11_corner_7 : dc cX11_corner 7 8 (.iload_n 1) 1 := o_27 ob_X11_corner rfl rfl rfl
theorem dX11_corner_8 : dc cX11_corner 8 11 (.ifCond .lt 14) 3 := o_155 ob_X11_corner rfl rfl rfl rfl
theorem dX11_corner_11 : dc cX11_corner 11 12 (.iload_n 1) 1 := o_27 ob_X11_corner rfl rfl rfl
theorem dX11_corner_12 : dc cX11_corner 12 13 (.aload_n 0) 1 := o_42 ob_X11_corner rfl rfl rfl
theorem dX11_corner_13 : dc cX11_corner 13 16 (.getfield 53) 3 := o_180 ob_X11_corner rfl rfl rfl rfl
theorem dX11_corner_16 : dc cX11_corner 16 19 (.getfield 240) 3 := o_180 ob_X11_corner rfl rfl rfl rfl
theorem dX11_corner_19 : dc cX11_corner 19 22 (.if_icmp .lt 7) 3 := o_161 ob_X11_corner rfl rfl rfl rfl
theorem dX11_corner_22 : dc cX11_corner 22 25 (.sipush 1000) 3 := o_17 ob_X11_corner rfl rfl rfl rfl
theorem dX11_corner_25 : dc cX11_corner 25 26 .ireturn 1 := o_172 ob_X11_corner rfl rfl rfl
theorem dX11_corner_26 : dc cX11_corner 26 27 (.iload_n 2) 1 := o_28 ob_X11_corner rfl rfl rfl
theorem dX11_corner_27 : dc cX11_corner 27 30 (.ifCond .eq 17) 3 := o_153 ob_X11_corner rfl rfl rfl rfl
theorem dX11_corner_30 : dc cX11_corner 30 31 (.aload_n 0) 1 := o_42 ob_X11_corner rfl rfl rfl
theorem dX11_corner_31 : dc cX11_corner 31 34 (.getfield 53) 3 := o_180 ob_X11_corner rfl rfl rfl rfl
theorem dX11_corner_34 : dc cX11_corner 34 37 (.getfield 243) 3 := o_180 ob_X11_corner rfl rfl rfl rfl
theorem dX11_corner_37 : dc cX11_corner 37 38 (.iload_n 1) 1 := o_27 ob_X11_corner rfl rfl rfl
theorem dX11_corner_38 : dc cX11_corner 38 41 (.invokevirtual 246) 3 := o_182 ob_X11_corner rfl rfl rfl rfl
theorem dX11_corner_41 : dc cX11_corner 41 44 (.goto 14) 3 := o_167 ob_X11_corner rfl rfl rfl rfl
theorem dX11_corner_44 : dc cX11_corner 44 45 (.aload_n 0) 1 := o_42 ob_X11_corner rfl rfl rfl
theorem dX11_corner_45 : dc cX11_corner 45 48 (.getfield 53) 3 := o_180 ob_X11_corner rfl rfl rfl rfl
theorem dX11_corner_48 : dc cX11_corner 48 51 (.getfield 251) 3 := o_180 ob_X11_corner rfl rfl rfl rfl
theorem dX11_corner_51 : dc cX11_corner 51 52 (.iload_n 1) 1 := o_27 ob_X11_corner rfl rfl rfl
theorem dX11_corner_52 : dc cX11_corner 52 55 (.invokevirtual 246) 3 := o_182 ob_X11_corner rfl rfl rfl rfl
theorem dX11_corner_55 : dc cX11_corner 55 56 .ireturn 1 := o_172 ob_X11_corner rfl rfl rfl
def F_KW_corner (x1 : Int32) (x2 : Int32) (M : Mem) : Option (Int32 × Mem) :=
  (F_Day_findCorners M).bind fun r1 => if x1 < 0 then some ((1000, r1)) else if x1 < (r1.1 68 5) then if x2 = 0 then (F_Row_small 74 9 x1 r1).bind fun r2 => some ((r2, r1)) else (F_Row_small 76 9 x1 r1).bind fun r3 => some ((r3, r1)) else some ((1000, r1))
set_option maxRecDepth 100000 in
set_option maxHeartbeats 4000000 in
theorem K_KW_corner (l : Launch) (g : GB) (htr : l.stackTraces = false) (x1 : Int32) (x2 : Int32) (M : Mem) (rr : Int32) (MZ : Mem) (h : F_KW_corner x1 x2 M = some (rr, MZ)) : CT l g yX11_corner (.code yX11_corner cX11_corner 3 (some .int) :: wAll) { frames := 6, cells := 0, slots := 0, locals := 139 } [.ref (g.2.1 0), .int x1, .int x2] M (.inl (some (.int rr))) MZ := by
  refine CT.of [(0, .ref (g.2.1 0)), (1, .int x1), (2, .int x2)] (by decide +kernel) (Nat.le_of_ble_eq_true rfl) rfl htr ?_
  intro p e s m args below meth c K hr ht
  skip
  obtain ⟨PHI, hPHI, h⟩ : ∃ PHI : Int32 × Mem → Prop, (∀ a, PHI a → a = (rr, MZ)) ∧ wpO (F_KW_corner x1 x2 M) PHI := ⟨fun a => a = (rr, MZ), fun _ h => h, _, h, rfl⟩
  unfold F_KW_corner at h
  refine G_aload_n rfl 0 rfl K dX11_corner_0 ?_
  refine G_get (ci := 11) (k := 7) K rfl in_X11 wd_409 rfl dX11_corner_1 (Nat.le_of_ble_eq_true rfl) (sh_0 _ _) (Nat.le_of_ble_eq_true rfl) rfl ?_
  obtain ⟨r1, e1, h⟩ := wpO_bind h
  refine G_callVv (ci := 4) [] [] K dX11_corner_4 wv_586 yd_X4_findCorners (Nat.le_of_ble_eq_true rfl) (sh_68 _ _) rfl (by decide) (by decide) rfl rfl (Nat.le_of_ble_eq_true rfl) (K_Day_findCorners l g htr  M _ e1) ?_
  refine G_iload_n rfl 1 rfl K dX11_corner_7 ?_
  refine G_if_lt (tgt := 22) K dX11_corner_8 (by decide) (fun hc => ?_) (fun hc => ?_)
  · have h := wpO_t h hc
    refine G_sipush (v := 1000) rfl K dX11_corner_22 ?_
    cases hPHI _ (wpO_some h)
    exact G_iret K hr rfl dX11_corner_25 (Nat.le_of_ble_eq_true rfl) (Nat.le_of_ble_eq_true rfl) ⟨rfl, rfl⟩
  · have h := wpO_f h hc
    refine G_iload_n rfl 1 rfl K dX11_corner_11 ?_
    refine G_aload_n rfl 0 rfl K dX11_corner_12 ?_
    refine G_get (ci := 11) (k := 7) K rfl in_X11 wd_409 rfl dX11_corner_13 (Nat.le_of_ble_eq_true rfl) (sh_0 _ _) (Nat.le_of_ble_eq_true rfl) rfl ?_
    refine G_get (ci := 4) (k := 5) K rfl in_X4 wd_288 rfl dX11_corner_16 (Nat.le_of_ble_eq_true rfl) (sh_68 _ _) (Nat.le_of_ble_eq_true rfl) rfl ?_
    refine G_icmp_lt (tgt := 26) K dX11_corner_19 (by decide) (fun hc => ?_) (fun hc => ?_)
    · have h := wpO_t h hc
      refine G_iload_n rfl 2 rfl K dX11_corner_26 ?_
      refine G_if_eq (tgt := 44) K dX11_corner_27 (by decide) (fun hc => ?_) (fun hc => ?_)
      · have h := wpO_t h hc
        refine G_aload_n rfl 0 rfl K dX11_corner_44 ?_
        refine G_get (ci := 11) (k := 7) K rfl in_X11 wd_409 rfl dX11_corner_45 (Nat.le_of_ble_eq_true rfl) (sh_0 _ _) (Nat.le_of_ble_eq_true rfl) rfl ?_
        refine G_get (ci := 4) (k := 6) K rfl in_X4 wd_290 rfl dX11_corner_48 (Nat.le_of_ble_eq_true rfl) (sh_68 _ _) (Nat.le_of_ble_eq_true rfl) rfl ?_
        refine G_iload_n rfl 1 rfl K dX11_corner_51 ?_
        obtain ⟨r2, e2, h⟩ := wpO_bind h
        refine G_callVi (ci := 7) [.int x1] [] K dX11_corner_52 wv_615 yd_X7_small (Nat.le_of_ble_eq_true rfl) (sh_73 _ _) rfl (by decide) (by decide) rfl rfl (Nat.le_of_ble_eq_true rfl) (K_Row_small l g htr 73 74 9 isRow_73 x1 r1 _ e2) ?_
        cases hPHI _ (wpO_some h)
        exact G_iret K hr rfl dX11_corner_55 (Nat.le_of_ble_eq_true rfl) (Nat.le_of_ble_eq_true rfl) ⟨rfl, rfl⟩
      · have h := wpO_f h hc
        refine G_aload_n rfl 0 rfl K dX11_corner_30 ?_
        refine G_get (ci := 11) (k := 7) K rfl in_X11 wd_409 rfl dX11_corner_31 (Nat.le_of_ble_eq_true rfl) (sh_0 _ _) (Nat.le_of_ble_eq_true rfl) rfl ?_
        refine G_get (ci := 4) (k := 7) K rfl in_X4 wd_292 rfl dX11_corner_34 (Nat.le_of_ble_eq_true rfl) (sh_68 _ _) (Nat.le_of_ble_eq_true rfl) rfl ?_
        refine G_iload_n rfl 1 rfl K dX11_corner_37 ?_
        obtain ⟨r3, e3, h⟩ := wpO_bind h
        refine G_callVi (ci := 7) [.int x1] [] K dX11_corner_38 wv_615 yd_X7_small (Nat.le_of_ble_eq_true rfl) (sh_75 _ _) rfl (by decide) (by decide) rfl rfl (Nat.le_of_ble_eq_true rfl) (K_Row_small l g htr 75 76 9 isRow_75 x1 r1 _ e3) ?_
        refine G_goto (tgt := 55) K dX11_corner_41 (by decide) ?_
        cases hPHI _ (wpO_some h)
        exact G_iret K hr rfl dX11_corner_55 (Nat.le_of_ble_eq_true rfl) (Nat.le_of_ble_eq_true rfl) ⟨rfl, rfl⟩
    · have h := wpO_f h hc
      refine G_sipush (v := 1000) rfl K dX11_corner_22 ?_
      cases hPHI _ (wpO_some h)
      exact G_iret K hr rfl dX11_corner_25 (Nat.le_of_ble_eq_true rfl) (Nat.le_of_ble_eq_true rfl) ⟨rfl, rfl⟩
theorem yd_X4_bodyHas : ydN yX4_bodyHas 3 := ⟨by decide, by decide, by decide +kernel⟩
theorem yd_X4_mustBeKept : ydN yX4_mustBeKept 3 := ⟨by decide, by decide, by decide +kernel⟩
theorem wv_1128 : wdV "KeptWell" 256 yX4_bodyHas cX4_bodyHas 14 (some .boolean) := ⟨wd_1128, wd_1129, wd_1130, wd_9, wd_1131⟩
theorem wv_1139 : wdV "KeptWell" 260 yX4_mustBeKept cX4_mustBeKept 4 (some .boolean) := ⟨wd_1139, wd_1140, wd_1141, wd_9, wd_1142⟩
def on_X11_in : Nat := 0xac030400a7040700990401b61d1c1b3500b42a10009904151900990001b61d1c1b3500b42aed00b63500b42a6200b6ff12fe121c2a6200b6ff12fe121b2a6200b6e80311041d2a
theorem ob_X11_in : OKB cX11_in on_X11_in 71 := ⟨by decide +kernel, by decide +kernel⟩
theorem dX11_in_0 : dc cX11_in 0 1 (.aload_n 0) 1 := o_42 ob_X11_in rfl rfl rfl
theorem dX11_in_1 : dc cX11_in 1 2 (.iload_n 3) 1 := o_29 ob_X11_in rfl rfl rfl
theorem dX11_in_2 : dc cX11_in 2 3 (.iconst 1) 1 := o_4 ob_X11_in rfl rfl rfl
theorem dX11_in_3 : dc cX11_in 3 6 (.sipush 1000) 3 := o_17 ob_X11_in rfl rfl rfl rfl
theorem dX11_in_6 : dc cX11_in 6 9 (.invokevirtual 98) 3 := o_182 ob_X11_in rfl rfl rfl rfl
theorem dX11_in_9 : dc cX11_in 9 10 (.aload_n 0) 1 := o_42 ob_X11_in rfl rfl rfl
theorem dX11_in_10 : dc cX11_in 10 11 (.iload_n 1) 1 := o_27 ob_X11_in rfl rfl rfl
theorem dX11_in_11 : dc cX11_in 11 13 (.ldc 254) 2 := o_18 ob_X11_in rfl rfl rfl rfl
theorem dX11_in_13 : dc cX11_in 13 15 (.ldc 255) 2 := o_18 ob_X11_in rfl rfl rfl rfl
theorem dX11_in_15 : dc cX11_in 15 18 (.invokevirtual 98) 3 := o_182 ob_X11_in rfl rfl rfl rfl
theorem dX11_in_18 : dc cX11_in 18 19 (.aload_n 0) 1 := o_42 ob_X11_in rfl rfl rfl
theorem dX11_in_19 : dc cX11_in 19 20 (.iload_n 2) 1 := o_28 ob_X11_in rfl rfl rfl
theorem dX11_in_20 : dc cX11_in 20 22 (.ldc 254) 2 := o_18 ob_X11_in rfl rfl rfl rfl
theorem dX11_in_22 : dc cX11_in 22 24 (.ldc 255) 2 := o_18 ob_X11_in rfl rfl rfl rfl
theorem dX11_in_24 : dc cX11_in 24 27 (.invokevirtual 98) 3 := o_182 ob_X11_in rfl rfl rfl rfl
theorem dX11_in_27 : dc cX11_in 27 28 (.aload_n 0) 1 := o_42 ob_X11_in rfl rfl rfl
theorem dX11_in_28 : dc cX11_in 28 31 (.getfield 53) 3 := o_180 ob_X11_in rfl rfl rfl rfl
theorem dX11_in_31 : dc cX11_in 31 34 (.invokevirtual 237) 3 := o_182 ob_X11_in rfl rfl rfl rfl
theorem dX11_in_34 : dc cX11_in 34 35 (.aload_n 0) 1 := o_42 ob_X11_in rfl rfl rfl
theorem dX11_in_35 : dc cX11_in 35 38 (.getfield 53) 3 := o_180 ob_X11_in rfl rfl rfl rfl
theorem dX11_in_38 : dc cX11_in 38 39 (.iload_n 1) 1 := o_27 ob_X11_in rfl rfl rfl
theorem dX11_in_39 : dc cX11_in 39 40 (.iload_n 2) 1 := o_28 ob_X11_in rfl rfl rfl
theorem dX11_in_40 : dc cX11_in 40 41 (.iload_n 3) 1 := o_29 ob_X11_in rfl rfl rfl
theorem dX11_in_41 : dc cX11_in 41 44 (.invokevirtual 256) 3 := o_182 ob_X11_in rfl rfl rfl rfl
theorem dX11_in_44 : dc cX11_in 44 47 (.ifCond .eq 25) 3 := o_153 ob_X11_in rfl rfl rfl rfl
theorem dX11_in_47 : dc cX11_in 47 49 (.iload 4) 2 := o_21 ob_X11_in rfl rfl rfl rfl
theorem dX11_in_49 : dc cX11_in 49 52 (.ifCond .eq 16) 3 := o_153 ob_X11_in rfl rfl rfl rfl
theorem dX11_in_52 : dc cX11_in 52 53 (.aload_n 0) 1 := o_42 ob_X11_in rfl rfl rfl
theorem dX11_in_53 : dc cX11_in 53 56 (.getfield 53) 3 := o_180 ob_X11_in rfl rfl rfl rfl
theorem dX11_in_56 : dc cX11_in 56 57 (.iload_n 1) 1 := o_27 ob_X11_in rfl rfl rfl
theorem dX11_in_57 : dc cX11_in 57 58 (.iload_n 2) 1 := o_28 ob_X11_in rfl rfl rfl
theorem dX11_in_58 : dc cX11_in 58 59 (.iload_n 3) 1 := o_29 ob_X11_in rfl rfl rfl
theorem dX11_in_59 : dc cX11_in 59 62 (.invokevirtual 260) 3 := o_182 ob_X11_in rfl rfl rfl rfl
theorem dX11_in_62 : dc cX11_in 62 65 (.ifCond .eq 7) 3 := o_153 ob_X11_in rfl rfl rfl rfl
theorem dX11_in_65 : dc cX11_in 65 66 (.iconst 1) 1 := o_4 ob_X11_in rfl rfl rfl
theorem dX11_in_66 : dc cX11_in 66 69 (.goto 4) 3 := o_167 ob_X11_in rfl rfl rfl rfl
theorem dX11_in_69 : dc cX11_in 69 70 (.iconst 0) 1 := o_3 ob_X11_in rfl rfl rfl
theorem dX11_in_70 : dc cX11_in 70 71 .ireturn 1 := o_172 ob_X11_in rfl rfl rfl
def F_KW_in (x1 : Int32) (x2 : Int32) (x3 : Int32) (x4 : Int32) (M : Mem) : Option ((String ⊕ Bool) × Mem) :=
  xbind (F_KW_needNumber x3 1 1000 M) fun _ M1 => xbind (F_KW_needNumber x1 ((-100000)) 100000 M1) fun _ M2 => xbind (F_KW_needNumber x2 ((-100000)) 100000 M2) fun _ M3 => (F_Day_findCorners M3).bind fun r4 => (F_Day_bodyHas x1 x2 x3 r4).bind fun r5 => if r5 = true then if x4 = 0 then some ((.inr true, r4)) else (F_Day_mustBeKept x1 x2 x3 r4).bind fun r6 => if r6 = true then some ((.inr true, r4)) else some ((.inr false, r4)) else some ((.inr false, r4))
set_option maxRecDepth 100000 in
set_option maxHeartbeats 4000000 in
theorem K_KW_in (l : Launch) (g : GB) (htr : l.stackTraces = false) (x1 : Int32) (x2 : Int32) (x3 : Int32) (x4 : Int32) (M : Mem) (rr : String ⊕ Bool) (MZ : Mem) (h : F_KW_in x1 x2 x3 x4 M = some (rr, MZ)) : CT l g yX11_in (.code yX11_in cX11_in 5 (some .boolean) :: wAll) { frames := 7, cells := 3, slots := 18, locals := 139 } [.ref (g.2.1 0), .int x1, .int x2, .int x3, .int x4] M (rvB rr) MZ := by
  refine CT.of [(0, .ref (g.2.1 0)), (1, .int x1), (2, .int x2), (3, .int x3), (4, .int x4)] (by decide +kernel) (Nat.le_of_ble_eq_true rfl) rfl htr ?_
  intro p e s m args below meth c K hr ht
  skip
  obtain ⟨PHI, hPHI, h⟩ : ∃ PHI : (String ⊕ Bool) × Mem → Prop, (∀ a, PHI a → a = (rr, MZ)) ∧ wpO (F_KW_in x1 x2 x3 x4 M) PHI := ⟨fun a => a = (rr, MZ), fun _ h => h, _, h, rfl⟩
  unfold F_KW_in at h
  refine G_aload_n rfl 0 rfl K dX11_in_0 ?_
  refine G_iload_n rfl 3 rfl K dX11_in_1 ?_
  refine G_iconst (v := 1) rfl K dX11_in_2 ?_
  refine G_sipush (v := 1000) rfl K dX11_in_3 ?_
  obtain ⟨E1, M1, e1, h⟩ | ⟨r1, M1, e1, h⟩ := wpO_x h
  · cases hPHI _ h
    exact G_callXVt (ci := 11) [.int x3, .int 1, .int 1000] [] K dX11_in_6 wv_654 yd_X11_needNumber (Nat.le_of_ble_eq_true rfl) (sh_0 _ _) rfl (by decide) (by decide) rfl rfl (Nat.le_of_ble_eq_true rfl) (K_KW_needNumber l g htr x3 1 1000 M _ _ e1) (GX_out K ht (Nat.le_of_ble_eq_true rfl) (Nat.le_of_ble_eq_true rfl) ⟨rfl, rfl⟩)
  refine G_callXVv (ci := 11) [.int x3, .int 1, .int 1000] [] K dX11_in_6 wv_654 yd_X11_needNumber (Nat.le_of_ble_eq_true rfl) (sh_0 _ _) rfl (by decide) (by decide) rfl rfl (Nat.le_of_ble_eq_true rfl) (K_KW_needNumber l g htr x3 1 1000 M _ _ e1) ?_
  refine G_aload_n rfl 0 rfl K dX11_in_9 ?_
  refine G_iload_n rfl 1 rfl K dX11_in_10 ?_
  refine G_ldc (v := (-100000)) K dX11_in_11 wd_1126 ?_
  refine G_ldc (v := 100000) K dX11_in_13 wd_1127 ?_
  obtain ⟨E2, M2, e2, h⟩ | ⟨r2, M2, e2, h⟩ := wpO_x h
  · cases hPHI _ h
    exact G_callXVt (ci := 11) [.int x1, .int ((-100000)), .int 100000] [] K dX11_in_15 wv_654 yd_X11_needNumber (Nat.le_of_ble_eq_true rfl) (sh_0 _ _) rfl (by decide) (by decide) rfl rfl (Nat.le_of_ble_eq_true rfl) (K_KW_needNumber l g htr x1 ((-100000)) 100000 M1 _ _ e2) (GX_out K ht (Nat.le_of_ble_eq_true rfl) (Nat.le_of_ble_eq_true rfl) ⟨rfl, rfl⟩)
  refine G_callXVv (ci := 11) [.int x1, .int ((-100000)), .int 100000] [] K dX11_in_15 wv_654 yd_X11_needNumber (Nat.le_of_ble_eq_true rfl) (sh_0 _ _) rfl (by decide) (by decide) rfl rfl (Nat.le_of_ble_eq_true rfl) (K_KW_needNumber l g htr x1 ((-100000)) 100000 M1 _ _ e2) ?_
  refine G_aload_n rfl 0 rfl K dX11_in_18 ?_
  refine G_iload_n rfl 2 rfl K dX11_in_19 ?_
  refine G_ldc (v := (-100000)) K dX11_in_20 wd_1126 ?_
  refine G_ldc (v := 100000) K dX11_in_22 wd_1127 ?_
  obtain ⟨E3, M3, e3, h⟩ | ⟨r3, M3, e3, h⟩ := wpO_x h
  · cases hPHI _ h
    exact G_callXVt (ci := 11) [.int x2, .int ((-100000)), .int 100000] [] K dX11_in_24 wv_654 yd_X11_needNumber (Nat.le_of_ble_eq_true rfl) (sh_0 _ _) rfl (by decide) (by decide) rfl rfl (Nat.le_of_ble_eq_true rfl) (K_KW_needNumber l g htr x2 ((-100000)) 100000 M2 _ _ e3) (GX_out K ht (Nat.le_of_ble_eq_true rfl) (Nat.le_of_ble_eq_true rfl) ⟨rfl, rfl⟩)
  refine G_callXVv (ci := 11) [.int x2, .int ((-100000)), .int 100000] [] K dX11_in_24 wv_654 yd_X11_needNumber (Nat.le_of_ble_eq_true rfl) (sh_0 _ _) rfl (by decide) (by decide) rfl rfl (Nat.le_of_ble_eq_true rfl) (K_KW_needNumber l g htr x2 ((-100000)) 100000 M2 _ _ e3) ?_
  refine G_aload_n rfl 0 rfl K dX11_in_27 ?_
  refine G_get (ci := 11) (k := 7) K rfl in_X11 wd_409 rfl dX11_in_28 (Nat.le_of_ble_eq_true rfl) (sh_0 _ _) (Nat.le_of_ble_eq_true rfl) rfl ?_
  obtain ⟨r4, e4, h⟩ := wpO_bind h
  refine G_callVv (ci := 4) [] [] K dX11_in_31 wv_586 yd_X4_findCorners (Nat.le_of_ble_eq_true rfl) (sh_68 _ _) rfl (by decide) (by decide) rfl rfl (Nat.le_of_ble_eq_true rfl) (K_Day_findCorners l g htr  M3 _ e4) ?_
  refine G_aload_n rfl 0 rfl K dX11_in_34 ?_
  refine G_get (ci := 11) (k := 7) K rfl in_X11 wd_409 rfl dX11_in_35 (Nat.le_of_ble_eq_true rfl) (sh_0 _ _) (Nat.le_of_ble_eq_true rfl) rfl ?_
  refine G_iload_n rfl 1 rfl K dX11_in_38 ?_
  refine G_iload_n rfl 2 rfl K dX11_in_39 ?_
  refine G_iload_n rfl 3 rfl K dX11_in_40 ?_
  obtain ⟨r5, e5, h⟩ := wpO_bind h
  refine G_callVi (ci := 4) [.int x1, .int x2, .int x3] [] K dX11_in_41 wv_1128 yd_X4_bodyHas (Nat.le_of_ble_eq_true rfl) (sh_68 _ _) rfl (by decide) (by decide) rfl rfl (Nat.le_of_ble_eq_true rfl) (K_Day_bodyHas l g htr x1 x2 x3 r4 _ e5) ?_
  refine G_ifb_eq (tgt := 69) K dX11_in_44 (by decide) (fun hc => ?_) (fun hc => ?_)
  · have h := wpO_bf h hc
    refine G_iconst (v := 0) rfl K dX11_in_69 ?_
    cases hPHI _ (wpO_some h)
    exact G_iret K hr rfl dX11_in_70 (Nat.le_of_ble_eq_true rfl) (Nat.le_of_ble_eq_true rfl) ⟨rfl, rfl⟩
  · have h := wpO_t h hc
    refine G_iload 4 rfl K dX11_in_47 ?_
    refine G_if_eq (tgt := 65) K dX11_in_49 (by decide) (fun hc => ?_) (fun hc => ?_)
    · have h := wpO_t h hc
      refine G_iconst (v := 1) rfl K dX11_in_65 ?_
      refine G_goto (tgt := 70) K dX11_in_66 (by decide) ?_
      cases hPHI _ (wpO_some h)
      exact G_iret K hr rfl dX11_in_70 (Nat.le_of_ble_eq_true rfl) (Nat.le_of_ble_eq_true rfl) ⟨rfl, rfl⟩
    · have h := wpO_f h hc
      refine G_aload_n rfl 0 rfl K dX11_in_52 ?_
      refine G_get (ci := 11) (k := 7) K rfl in_X11 wd_409 rfl dX11_in_53 (Nat.le_of_ble_eq_true rfl) (sh_0 _ _) (Nat.le_of_ble_eq_true rfl) rfl ?_
      refine G_iload_n rfl 1 rfl K dX11_in_56 ?_
      refine G_iload_n rfl 2 rfl K dX11_in_57 ?_
      refine G_iload_n rfl 3 rfl K dX11_in_58 ?_
      obtain ⟨r6, e6, h⟩ := wpO_bind h
      refine G_callVi (ci := 4) [.int x1, .int x2, .int x3] [] K dX11_in_59 wv_1139 yd_X4_mustBeKept (Nat.le_of_ble_eq_true rfl) (sh_68 _ _) rfl (by decide) (by decide) rfl rfl (Nat.le_of_ble_eq_true rfl) (K_Day_mustBeKept l g htr x1 x2 x3 r4 _ e6) ?_
      refine G_ifb_eq (tgt := 69) K dX11_in_62 (by decide) (fun hc => ?_) (fun hc => ?_)
      · have h := wpO_bf h hc
        refine G_iconst (v := 0) rfl K dX11_in_69 ?_
        cases hPHI _ (wpO_some h)
        exact G_iret K hr rfl dX11_in_70 (Nat.le_of_ble_eq_true rfl) (Nat.le_of_ble_eq_true rfl) ⟨rfl, rfl⟩
      · have h := wpO_t h hc
        refine G_iconst (v := 1) rfl K dX11_in_65 ?_
        refine G_goto (tgt := 70) K dX11_in_66 (by decide) ?_
        cases hPHI _ (wpO_some h)
        exact G_iret K hr rfl dX11_in_70 (Nat.le_of_ble_eq_true rfl) (Nat.le_of_ble_eq_true rfl) ⟨rfl, rfl⟩
theorem yd_X4_fewestThreatDays : ydN yX4_fewestThreatDays 4 := ⟨by decide, by decide, by decide +kernel⟩
theorem wv_1151 : wdV "KeptWell" 263 yX4_fewestThreatDays cX4_fewestThreatDays 6 (some .int) := ⟨wd_1151, wd_1152, wd_1153, wd_9, wd_1154⟩
def on_X11_mild : Nat := 0xac0701b604151d1c1b3500b42a6900b604152a6900b61d2a6900b61c2a6900b61b2a
theorem ob_X11_mild : OKB cX11_mild on_X11_mild 34 := ⟨by decide +kernel, by decide +kernel⟩
theorem dX11_mild_0 : dc cX11_mild 0 1 (.aload_n 0) 1 := o_42 ob_X11_mild rfl rfl rfl
theorem dX11_mild_1 : dc cX11_mild 1 2 (.iload_n 1) 1 := o_27 ob_X11_mild rfl rfl rfl
theorem dX11_mild_2 : dc cX11_mild 2 5 (.invokevirtual 105) 3 := o_182 ob_X11_mild rfl rfl rfl rfl
theorem dX11_mild_5 : dc cX11_mild 5 6 (.aload_n 0) 1 := o_42 ob_X11_mild rfl rfl rfl
theorem dX11_mild_6 : dc cX11_mild 6 7 (.iload_n 2) 1 := o_28 ob_X11_mild rfl rfl rfl
theorem dX11_mild_7 : dc cX11_mild 7 10 (.invokevirtual 105) 3 := o_182 ob_X11_mild rfl rfl rfl rfl
theorem dX11_mild_10 : dc cX11_mild 10 11 (.aload_n 0) 1 := o_42 ob_X11_mild rfl rfl rfl
theorem dX11_mild_11 : dc cX11_mild 11 12 (.iload_n 3) 1 := o_29 ob_X11_mild rfl rfl rfl
theorem dX11_mild_12 : dc cX11_mild 12 15 (.invokevirtual 105) 3 := o_182 ob_X11_mild rfl rfl rfl rfl
theorem dX11_mild_15 : dc cX11_mild 15 16 (.aload_n 0) 1 := o_42 ob_X11_mild rfl rfl rfl
theorem dX11_mild_16 : dc cX11_mild 16 18 (.iload 4) 2 := o_21 ob_X11_mild rfl rfl rfl rfl
theorem dX11_mild_18 : dc cX11_mild 18 21 (.invokevirtual 105) 3 := o_182 ob_X11_mild rfl rfl rfl rfl
theorem dX11_mild_21 : dc cX11_mild 21 22 (.aload_n 0) 1 := o_42 ob_X11_mild rfl rfl rfl
theorem dX11_mild_22 : dc cX11_mild 22 25 (.getfield 53) 3 := o_180 ob_X11_mild rfl rfl rfl rfl
theorem dX11_mild_25 : dc cX11_mild 25 26 (.iload_n 1) 1 := o_27 ob_X11_mild rfl rfl rfl
theorem dX11_mild_26 : dc cX11_mild 26 27 (.iload_n 2) 1 := o_28 ob_X11_mild rfl rfl rfl
theorem dX11_mild_27 : dc cX11_mild 27 28 (.iload_n 3) 1 := o_29 ob_X11_mild rfl rfl rfl
theorem dX11_mild_28 : dc cX11_mild 28 30 (.iload 4) 2 := o_21 ob_X11_mild rfl rfl rfl rfl
theorem dX11_mild_30 : dc cX11_mild 30 33 (.invokevirtual 263) 3 := o_182 ob_X11_mild rfl rfl rfl rfl
theorem dX11_mild_33 : dc cX11_mild 33 34 .ireturn 1 := o_172 ob_X11_mild rfl rfl rfl
def F_KW_mild (x1 : Int32) (x2 : Int32) (x3 : Int32) (x4 : Int32) (M : Mem) : Option ((String ⊕ Int32) × Mem) :=
  xbind (F_KW_needAct x1 M) fun _ M1 => xbind (F_KW_needAct x2 M1) fun _ M2 => xbind (F_KW_needAct x3 M2) fun _ M3 => xbind (F_KW_needAct x4 M3) fun _ M4 => (F_Day_fewestThreatDays x1 x2 x3 x4 M4).bind fun r5 => some ((.inr r5.1, r5.2))
set_option maxRecDepth 100000 in
set_option maxHeartbeats 4000000 in
theorem K_KW_mild (l : Launch) (g : GB) (htr : l.stackTraces = false) (x1 : Int32) (x2 : Int32) (x3 : Int32) (x4 : Int32) (M : Mem) (rr : String ⊕ Int32) (MZ : Mem) (h : F_KW_mild x1 x2 x3 x4 M = some (rr, MZ)) : CT l g yX11_mild (.code yX11_mild cX11_mild 5 (some .int) :: wAll) { frames := 7, cells := 4, slots := 24, locals := 128 } [.ref (g.2.1 0), .int x1, .int x2, .int x3, .int x4] M (rvI rr) MZ := by
  refine CT.of [(0, .ref (g.2.1 0)), (1, .int x1), (2, .int x2), (3, .int x3), (4, .int x4)] (by decide +kernel) (Nat.le_of_ble_eq_true rfl) rfl htr ?_
  intro p e s m args below meth c K hr ht
  skip
  obtain ⟨PHI, hPHI, h⟩ : ∃ PHI : (String ⊕ Int32) × Mem → Prop, (∀ a, PHI a → a = (rr, MZ)) ∧ wpO (F_KW_mild x1 x2 x3 x4 M) PHI := ⟨fun a => a = (rr, MZ), fun _ h => h, _, h, rfl⟩
  unfold F_KW_mild at h
  refine G_aload_n rfl 0 rfl K dX11_mild_0 ?_
  refine G_iload_n rfl 1 rfl K dX11_mild_1 ?_
  obtain ⟨E1, M1, e1, h⟩ | ⟨r1, M1, e1, h⟩ := wpO_x h
  · cases hPHI _ h
    exact G_callXVt (ci := 11) [.int x1] [] K dX11_mild_2 wv_731 yd_X11_needAct (Nat.le_of_ble_eq_true rfl) (sh_0 _ _) rfl (by decide) (by decide) rfl rfl (Nat.le_of_ble_eq_true rfl) (K_KW_needAct l g htr x1 M _ _ e1) (GX_out K ht (Nat.le_of_ble_eq_true rfl) (Nat.le_of_ble_eq_true rfl) ⟨rfl, rfl⟩)
  refine G_callXVv (ci := 11) [.int x1] [] K dX11_mild_2 wv_731 yd_X11_needAct (Nat.le_of_ble_eq_true rfl) (sh_0 _ _) rfl (by decide) (by decide) rfl rfl (Nat.le_of_ble_eq_true rfl) (K_KW_needAct l g htr x1 M _ _ e1) ?_
  refine G_aload_n rfl 0 rfl K dX11_mild_5 ?_
  refine G_iload_n rfl 2 rfl K dX11_mild_6 ?_
  obtain ⟨E2, M2, e2, h⟩ | ⟨r2, M2, e2, h⟩ := wpO_x h
  · cases hPHI _ h
    exact G_callXVt (ci := 11) [.int x2] [] K dX11_mild_7 wv_731 yd_X11_needAct (Nat.le_of_ble_eq_true rfl) (sh_0 _ _) rfl (by decide) (by decide) rfl rfl (Nat.le_of_ble_eq_true rfl) (K_KW_needAct l g htr x2 M1 _ _ e2) (GX_out K ht (Nat.le_of_ble_eq_true rfl) (Nat.le_of_ble_eq_true rfl) ⟨rfl, rfl⟩)
  refine G_callXVv (ci := 11) [.int x2] [] K dX11_mild_7 wv_731 yd_X11_needAct (Nat.le_of_ble_eq_true rfl) (sh_0 _ _) rfl (by decide) (by decide) rfl rfl (Nat.le_of_ble_eq_true rfl) (K_KW_needAct l g htr x2 M1 _ _ e2) ?_
  refine G_aload_n rfl 0 rfl K dX11_mild_10 ?_
  refine G_iload_n rfl 3 rfl K dX11_mild_11 ?_
  obtain ⟨E3, M3, e3, h⟩ | ⟨r3, M3, e3, h⟩ := wpO_x h
  · cases hPHI _ h
    exact G_callXVt (ci := 11) [.int x3] [] K dX11_mild_12 wv_731 yd_X11_needAct (Nat.le_of_ble_eq_true rfl) (sh_0 _ _) rfl (by decide) (by decide) rfl rfl (Nat.le_of_ble_eq_true rfl) (K_KW_needAct l g htr x3 M2 _ _ e3) (GX_out K ht (Nat.le_of_ble_eq_true rfl) (Nat.le_of_ble_eq_true rfl) ⟨rfl, rfl⟩)
  refine G_callXVv (ci := 11) [.int x3] [] K dX11_mild_12 wv_731 yd_X11_needAct (Nat.le_of_ble_eq_true rfl) (sh_0 _ _) rfl (by decide) (by decide) rfl rfl (Nat.le_of_ble_eq_true rfl) (K_KW_needAct l g htr x3 M2 _ _ e3) ?_
  refine G_aload_n rfl 0 rfl K dX11_mild_15 ?_
  refine G_iload 4 rfl K dX11_mild_16 ?_
  obtain ⟨E4, M4, e4, h⟩ | ⟨r4, M4, e4, h⟩ := wpO_x h
  · cases hPHI _ h
    exact G_callXVt (ci := 11) [.int x4] [] K dX11_mild_18 wv_731 yd_X11_needAct (Nat.le_of_ble_eq_true rfl) (sh_0 _ _) rfl (by decide) (by decide) rfl rfl (Nat.le_of_ble_eq_true rfl) (K_KW_needAct l g htr x4 M3 _ _ e4) (GX_out K ht (Nat.le_of_ble_eq_true rfl) (Nat.le_of_ble_eq_true rfl) ⟨rfl, rfl⟩)
  refine G_callXVv (ci := 11) [.int x4] [] K dX11_mild_18 wv_731 yd_X11_needAct (Nat.le_of_ble_eq_true rfl) (sh_0 _ _) rfl (by decide) (by decide) rfl rfl (Nat.le_of_ble_eq_true rfl) (K_KW_needAct l g htr x4 M3 _ _ e4) ?_
  refine G_aload_n rfl 0 rfl K dX11_mild_21 ?_
  refine G_get (ci := 11) (k := 7) K rfl in_X11 wd_409 rfl dX11_mild_22 (Nat.le_of_ble_eq_true rfl) (sh_0 _ _) (Nat.le_of_ble_eq_true rfl) rfl ?_
  refine G_iload_n rfl 1 rfl K dX11_mild_25 ?_
  refine G_iload_n rfl 2 rfl K dX11_mild_26 ?_
  refine G_iload_n rfl 3 rfl K dX11_mild_27 ?_
  refine G_iload 4 rfl K dX11_mild_28 ?_
  obtain ⟨r5, e5, h⟩ := wpO_bind h
  refine G_callVi (ci := 4) [.int x1, .int x2, .int x3, .int x4] [] K dX11_mild_30 wv_1151 yd_X4_fewestThreatDays (Nat.le_of_ble_eq_true rfl) (sh_68 _ _) rfl (by decide) (by decide) rfl rfl (Nat.le_of_ble_eq_true rfl) (K_Day_fewestThreatDays l g htr x1 x2 x3 x4 M4 _ _ e5) ?_
  cases hPHI _ (wpO_some h)
  exact G_iret K hr rfl dX11_mild_33 (Nat.le_of_ble_eq_true rfl) (Nat.le_of_ble_eq_true rfl) ⟨rfl, rfl⟩
def on_X11_mistakes : Nat := 0xb10e01b51c0a00b42a0b01b51b0a00b42a6200b664041c031b2a6200b60910041c2a
theorem ob_X11_mistakes : OKB cX11_mistakes on_X11_mistakes 34 := ⟨by decide +kernel, by decide +kernel⟩
theorem dX11_mistakes_0 : dc cX11_mistakes 0 1 (.aload_n 0) 1 := o_42 ob_X11_mistakes rfl rfl rfl
theorem dX11_mistakes_1 : dc cX11_mistakes 1 2 (.iload_n 2) 1 := o_28 ob_X11_mistakes rfl rfl rfl
theorem dX11_mistakes_2 : dc cX11_mistakes 2 3 (.iconst 1) 1 := o_4 ob_X11_mistakes rfl rfl rfl
theorem dX11_mistakes_3 : dc cX11_mistakes 3 5 (.bipush 9) 2 := o_16 ob_X11_mistakes rfl rfl rfl rfl
theorem dX11_mistakes_5 : dc cX11_mistakes 5 8 (.invokevirtual 98) 3 := o_182 ob_X11_mistakes rfl rfl rfl rfl
theorem dX11_mistakes_8 : dc cX11_mistakes 8 9 (.aload_n 0) 1 := o_42 ob_X11_mistakes rfl rfl rfl
theorem dX11_mistakes_9 : dc cX11_mistakes 9 10 (.iload_n 1) 1 := o_27 ob_X11_mistakes rfl rfl rfl
theorem dX11_mistakes_10 : dc cX11_mistakes 10 11 (.iconst 0) 1 := o_3 ob_X11_mistakes rfl rfl rfl
theorem dX11_mistakes_11 : dc cX11_mistakes 11 12 (.iload_n 2) 1 := o_28 ob_X11_mistakes rfl rfl rfl
theorem dX11_mistakes_12 : dc cX11_mistakes 12 13 (.iconst 1) 1 := o_4 ob_X11_mistakes rfl rfl rfl
theorem dX11_mistakes_13 : dc cX11_mistakes 13 14 .isub 1 := o_100 ob_X11_mistakes rfl rfl rfl
theorem dX11_mistakes_14 : dc cX11_mistakes 14 17 (.invokevirtual 98) 3 := o_182 ob_X11_mistakes rfl rfl rfl rfl
theorem dX11_mistakes_17 : dc cX11_mistakes 17 18 (.aload_n 0) 1 := o_42 ob_X11_mistakes rfl rfl rfl
theorem dX11_mistakes_18 : dc cX11_mistakes 18 21 (.getfield 10) 3 := o_180 ob_X11_mistakes rfl rfl rfl rfl
theorem dX11_mistakes_21 : dc cX11_mistakes 21 22 (.iload_n 1) 1 := o_27 ob_X11_mistakes rfl rfl rfl
theorem dX11_mistakes_22 : dc cX11_mistakes 22 25 (.putfield 267) 3 := o_181 ob_X11_mistakes rfl rfl rfl rfl
theorem dX11_mistakes_25 : dc cX11_mistakes 25 26 (.aload_n 0) 1 := o_42 ob_X11_mistakes rfl rfl rfl
theorem dX11_mistakes_26 : dc cX11_mistakes 26 29 (.getfield 10) 3 := o_180 ob_X11_mistakes rfl rfl rfl rfl
theorem dX11_mistakes_29 : dc cX11_mistakes 29 30 (.iload_n 2) 1 := o_28 ob_X11_mistakes rfl rfl rfl
theorem dX11_mistakes_30 : dc cX11_mistakes 30 33 (.putfield 270) 3 := o_181 ob_X11_mistakes rfl rfl rfl rfl
theorem dX11_mistakes_33 : dc cX11_mistakes 33 34 .return_ 1 := o_177 ob_X11_mistakes rfl rfl rfl
def F_KW_mistakes (x1 : Int32) (x2 : Int32) (M : Mem) : Option ((String ⊕ Unit) × Mem) :=
  xbind (F_KW_needNumber x2 1 9 M) fun _ M1 => xbind (F_KW_needNumber x1 0 (x2 - 1) M1) fun _ M2 => some ((.inr (), mSI (mSI M2 1 3 x1) 1 4 x2))
set_option maxRecDepth 100000 in
set_option maxHeartbeats 4000000 in
theorem K_KW_mistakes (l : Launch) (g : GB) (htr : l.stackTraces = false) (x1 : Int32) (x2 : Int32) (M : Mem) (rr : String ⊕ Unit) (MZ : Mem) (h : F_KW_mistakes x1 x2 M = some (rr, MZ)) : CT l g yX11_mistakes (.code yX11_mistakes cX11_mistakes 3 none :: wAll) { frames := 7, cells := 2, slots := 12, locals := 123 } [.ref (g.2.1 0), .int x1, .int x2] M (rvU rr) MZ := by
  refine CT.of [(0, .ref (g.2.1 0)), (1, .int x1), (2, .int x2)] (by decide +kernel) (Nat.le_of_ble_eq_true rfl) rfl htr ?_
  intro p e s m args below meth c K hr ht
  skip
  obtain ⟨PHI, hPHI, h⟩ : ∃ PHI : (String ⊕ Unit) × Mem → Prop, (∀ a, PHI a → a = (rr, MZ)) ∧ wpO (F_KW_mistakes x1 x2 M) PHI := ⟨fun a => a = (rr, MZ), fun _ h => h, _, h, rfl⟩
  unfold F_KW_mistakes at h
  refine G_aload_n rfl 0 rfl K dX11_mistakes_0 ?_
  refine G_iload_n rfl 2 rfl K dX11_mistakes_1 ?_
  refine G_iconst (v := 1) rfl K dX11_mistakes_2 ?_
  refine G_bipush (v := 9) rfl K dX11_mistakes_3 ?_
  obtain ⟨E1, M1, e1, h⟩ | ⟨r1, M1, e1, h⟩ := wpO_x h
  · cases hPHI _ h
    exact G_callXVt (ci := 11) [.int x2, .int 1, .int 9] [] K dX11_mistakes_5 wv_654 yd_X11_needNumber (Nat.le_of_ble_eq_true rfl) (sh_0 _ _) rfl (by decide) (by decide) rfl rfl (Nat.le_of_ble_eq_true rfl) (K_KW_needNumber l g htr x2 1 9 M _ _ e1) (GX_out K ht (Nat.le_of_ble_eq_true rfl) (Nat.le_of_ble_eq_true rfl) ⟨rfl, rfl⟩)
  refine G_callXVv (ci := 11) [.int x2, .int 1, .int 9] [] K dX11_mistakes_5 wv_654 yd_X11_needNumber (Nat.le_of_ble_eq_true rfl) (sh_0 _ _) rfl (by decide) (by decide) rfl rfl (Nat.le_of_ble_eq_true rfl) (K_KW_needNumber l g htr x2 1 9 M _ _ e1) ?_
  refine G_aload_n rfl 0 rfl K dX11_mistakes_8 ?_
  refine G_iload_n rfl 1 rfl K dX11_mistakes_9 ?_
  refine G_iconst (v := 0) rfl K dX11_mistakes_10 ?_
  refine G_iload_n rfl 2 rfl K dX11_mistakes_11 ?_
  refine G_iconst (v := 1) rfl K dX11_mistakes_12 ?_
  refine G_isub K dX11_mistakes_13 ?_
  obtain ⟨E2, M2, e2, h⟩ | ⟨r2, M2, e2, h⟩ := wpO_x h
  · cases hPHI _ h
    exact G_callXVt (ci := 11) [.int x1, .int 0, .int (x2 - 1)] [] K dX11_mistakes_14 wv_654 yd_X11_needNumber (Nat.le_of_ble_eq_true rfl) (sh_0 _ _) rfl (by decide) (by decide) rfl rfl (Nat.le_of_ble_eq_true rfl) (K_KW_needNumber l g htr x1 0 (x2 - 1) M1 _ _ e2) (GX_out K ht (Nat.le_of_ble_eq_true rfl) (Nat.le_of_ble_eq_true rfl) ⟨rfl, rfl⟩)
  refine G_callXVv (ci := 11) [.int x1, .int 0, .int (x2 - 1)] [] K dX11_mistakes_14 wv_654 yd_X11_needNumber (Nat.le_of_ble_eq_true rfl) (sh_0 _ _) rfl (by decide) (by decide) rfl rfl (Nat.le_of_ble_eq_true rfl) (K_KW_needNumber l g htr x1 0 (x2 - 1) M1 _ _ e2) ?_
  refine G_aload_n rfl 0 rfl K dX11_mistakes_17 ?_
  refine G_get (ci := 11) (k := 0) K rfl in_X11 wd_402 rfl dX11_mistakes_18 (Nat.le_of_ble_eq_true rfl) (sh_0 _ _) (Nat.le_of_ble_eq_true rfl) rfl ?_
  refine G_iload_n rfl 1 rfl K dX11_mistakes_21 ?_
  refine G_putI (ci := 10) (k := 3) (ty := .int) K rfl in_X10 tyX10 tyX10_ok nmX10 wd_76 rfl rfl rfl rfl rfl dX11_mistakes_22 (Nat.le_of_ble_eq_true rfl) (sh_1 _ _) (sh_1 _ _) (Nat.le_of_ble_eq_true rfl) (Nat.le_of_ble_eq_true rfl) rfl ?_
  refine G_aload_n rfl 0 rfl K dX11_mistakes_25 ?_
  refine G_get (ci := 11) (k := 0) K rfl in_X11 wd_402 rfl dX11_mistakes_26 (Nat.le_of_ble_eq_true rfl) (sh_0 _ _) (Nat.le_of_ble_eq_true rfl) rfl ?_
  refine G_iload_n rfl 2 rfl K dX11_mistakes_29 ?_
  refine G_putI (ci := 10) (k := 4) (ty := .int) K rfl in_X10 tyX10 tyX10_ok nmX10 wd_80 rfl rfl rfl rfl rfl dX11_mistakes_30 (Nat.le_of_ble_eq_true rfl) (sh_1 _ _) (sh_1 _ _) (Nat.le_of_ble_eq_true rfl) (Nat.le_of_ble_eq_true rfl) rfl ?_
  cases hPHI _ (wpO_some h)
  exact G_vret K hr dX11_mistakes_33 (Nat.le_of_ble_eq_true rfl) (Nat.le_of_ble_eq_true rfl) ⟨rfl, rfl⟩
def on_X11_needTwoMoods : Nat := 0xb1bf2d01b7592b01bb0b00a4058e00b61b0a00b42a
theorem ob_X11_needTwoMoods : OKB cX11_needTwoMoods on_X11_needTwoMoods 21 := ⟨by decide +kernel, by decide +kernel⟩
theorem dX11_needTwoMoods_0 : dc cX11_needTwoMoods 0 1 (.aload_n 0) 1 := o_42 ob_X11_needTwoMoods rfl rfl rfl
theorem dX11_needTwoMoods_1 : dc cX11_needTwoMoods 1 4 (.getfield 10) 3 := o_180 ob_X11_needTwoMoods rfl rfl rfl rfl
theorem dX11_needTwoMoods_4 : dc cX11_needTwoMoods 4 5 (.iload_n 1) 1 := o_27 ob_X11_needTwoMoods rfl rfl rfl
theorem dX11_needTwoMoods_5 : dc cX11_needTwoMoods 5 8 (.invokevirtual 142) 3 := o_182 ob_X11_needTwoMoods rfl rfl rfl rfl
theorem dX11_needTwoMoods_8 : dc cX11_needTwoMoods 8 9 (.iconst 2) 1 := o_5 ob_X11_needTwoMoods rfl rfl rfl
theorem dX11_needTwoMoods_9 : dc cX11_needTwoMoods 9 12 (.if_icmp .le 11) 3 := o_164 ob_X11_needTwoMoods rfl rfl rfl rfl
theorem dX11_needTwoMoods_12 : dc cX11_needTwoMoods 12 15 (.new 299) 3 := o_187 ob_X11_needTwoMoods rfl rfl rfl rfl
theorem dX11_needTwoMoods_15 : dc cX11_needTwoMoods 15 16 .dup 1 := o_89 ob_X11_needTwoMoods rfl rfl rfl
theorem dX11_needTwoMoods_16 : dc cX11_needTwoMoods 16 19 (.invokespecial 301) 3 := o_183 ob_X11_needTwoMoods rfl rfl rfl rfl
theorem dX11_needTwoMoods_19 : dc cX11_needTwoMoods 19 20 .athrow 1 := o_191 ob_X11_needTwoMoods rfl rfl rfl
theorem dX11_needTwoMoods_20 : dc cX11_needTwoMoods 20 21 .return_ 1 := o_177 ob_X11_needTwoMoods rfl rfl rfl
def F_KW_needTwoMoods (x1 : Int32) (M : Mem) : Option ((String ⊕ Unit) × Mem) :=
  (F_Well_moodsOf x1 M).bind fun r1 => if r1 ≤ 2 then some ((.inr (), M)) else some ((.inl "java/lang/IllegalStateException", M))
set_option maxRecDepth 100000 in
set_option maxHeartbeats 4000000 in
theorem K_KW_needTwoMoods (l : Launch) (g : GB) (htr : l.stackTraces = false) (x1 : Int32) (M : Mem) (rr : String ⊕ Unit) (MZ : Mem) (h : F_KW_needTwoMoods x1 M = some (rr, MZ)) : CT l g yX11_needTwoMoods (.code yX11_needTwoMoods cX11_needTwoMoods 2 none :: wAll) { frames := 6, cells := 1, slots := 6, locals := 100 } [.ref (g.2.1 0), .int x1] M (rvU rr) MZ := by
  refine CT.of [(0, .ref (g.2.1 0)), (1, .int x1)] (by decide +kernel) (Nat.le_of_ble_eq_true rfl) rfl htr ?_
  intro p e s m args below meth c K hr ht
  skip
  obtain ⟨PHI, hPHI, h⟩ : ∃ PHI : (String ⊕ Unit) × Mem → Prop, (∀ a, PHI a → a = (rr, MZ)) ∧ wpO (F_KW_needTwoMoods x1 M) PHI := ⟨fun a => a = (rr, MZ), fun _ h => h, _, h, rfl⟩
  unfold F_KW_needTwoMoods at h
  refine G_aload_n rfl 0 rfl K dX11_needTwoMoods_0 ?_
  refine G_get (ci := 11) (k := 0) K rfl in_X11 wd_402 rfl dX11_needTwoMoods_1 (Nat.le_of_ble_eq_true rfl) (sh_0 _ _) (Nat.le_of_ble_eq_true rfl) rfl ?_
  refine G_iload_n rfl 1 rfl K dX11_needTwoMoods_4 ?_
  obtain ⟨r1, e1, h⟩ := wpO_bind h
  refine G_callVi (ci := 10) [.int x1] [] K dX11_needTwoMoods_5 wv_902 yd_X10_moodsOf (Nat.le_of_ble_eq_true rfl) (sh_1 _ _) rfl (by decide) (by decide) rfl rfl (Nat.le_of_ble_eq_true rfl) (K_Well_moodsOf l g htr x1 M _ e1) ?_
  refine G_iconst (v := 2) rfl K dX11_needTwoMoods_8 ?_
  refine G_icmp_le (tgt := 20) K dX11_needTwoMoods_9 (by decide) (fun hc => ?_) (fun hc => ?_)
  · have h := wpO_t h hc
    cases hPHI _ (wpO_some h)
    exact G_vret K hr dX11_needTwoMoods_20 (Nat.le_of_ble_eq_true rfl) (Nat.le_of_ble_eq_true rfl) ⟨rfl, rfl⟩
  · have h := wpO_f h hc
    cases hPHI _ (wpO_some h)
    exact G_throw K ex_299_301 (fun ls h => h.trans K.1.2.2.1.symm) dX11_needTwoMoods_12 dX11_needTwoMoods_15 dX11_needTwoMoods_16 dX11_needTwoMoods_19 ht (by decide) (Nat.le_of_ble_eq_true rfl) (Nat.le_of_ble_eq_true rfl) (Nat.le_of_ble_eq_true rfl) (by decide) (by decide) ⟨rfl, rfl⟩
theorem yd_X11_needTwoMoods : ydN yX11_needTwoMoods 1 := ⟨by decide, by decide, by decide +kernel⟩
theorem yd_X6_tellDoubted : ydN yX6_tellDoubted 3 := ⟨by decide, by decide, by decide +kernel⟩
theorem wv_1197 : wdV "KeptWell" 273 yX11_needTwoMoods cX11_needTwoMoods 2 none := ⟨wd_1197, wd_1199, ws_X11_needTwoMoods, wd_1, wd_1200⟩
theorem wv_1201 : wdV "KeptWell" 276 yX6_tellDoubted cX6_tellDoubted 11 none := ⟨wd_1201, wd_1202, wd_1203, wd_6, wd_1204⟩
def on_X11_doubt : Nat := 0xadb300b605155300b42a1401b65300b42a04151d2700b42aab00b6857300b40a00b42a857000b40a00b42a1c1b2700b42a1101b61c2a1101b61b2ad100b62aa800b61c2aa800b61b2aa500b61d2a8b00b61c2a8b00b61b2a
theorem ob_X11_doubt : OKB cX11_doubt on_X11_doubt 88 := ⟨by decide +kernel, by decide +kernel⟩
theorem dX11_doubt_0 : dc cX11_doubt 0 1 (.aload_n 0) 1 := o_42 ob_X11_doubt rfl rfl rfl
theorem dX11_doubt_1 : dc cX11_doubt 1 2 (.iload_n 1) 1 := o_27 ob_X11_doubt rfl rfl rfl
theorem dX11_doubt_2 : dc cX11_doubt 2 5 (.invokevirtual 139) 3 := o_182 ob_X11_doubt rfl rfl rfl rfl
theorem dX11_doubt_5 : dc cX11_doubt 5 6 (.aload_n 0) 1 := o_42 ob_X11_doubt rfl rfl rfl
theorem dX11_doubt_6 : dc cX11_doubt 6 7 (.iload_n 2) 1 := o_28 ob_X11_doubt rfl rfl rfl
theorem dX11_doubt_7 : dc cX11_doubt 7 10 (.invokevirtual 139) 3 := o_182 ob_X11_doubt rfl rfl rfl rfl
theorem dX11_doubt_10 : dc cX11_doubt 10 11 (.aload_n 0) 1 := o_42 ob_X11_doubt rfl rfl rfl
theorem dX11_doubt_11 : dc cX11_doubt 11 12 (.iload_n 3) 1 := o_29 ob_X11_doubt rfl rfl rfl
theorem dX11_doubt_12 : dc cX11_doubt 12 15 (.invokevirtual 165) 3 := o_182 ob_X11_doubt rfl rfl rfl rfl
theorem dX11_doubt_15 : dc cX11_doubt 15 16 (.aload_n 0) 1 := o_42 ob_X11_doubt rfl rfl rfl
theorem dX11_doubt_16 : dc cX11_doubt 16 17 (.iload_n 1) 1 := o_27 ob_X11_doubt rfl rfl rfl
theorem dX11_doubt_17 : dc cX11_doubt 17 20 (.invokevirtual 168) 3 := o_182 ob_X11_doubt rfl rfl rfl rfl
theorem dX11_doubt_20 : dc cX11_doubt 20 21 (.aload_n 0) 1 := o_42 ob_X11_doubt rfl rfl rfl
theorem dX11_doubt_21 : dc cX11_doubt 21 22 (.iload_n 2) 1 := o_28 ob_X11_doubt rfl rfl rfl
theorem dX11_doubt_22 : dc cX11_doubt 22 25 (.invokevirtual 168) 3 := o_182 ob_X11_doubt rfl rfl rfl rfl
theorem dX11_doubt_25 : dc cX11_doubt 25 26 (.aload_n 0) 1 := o_42 ob_X11_doubt rfl rfl rfl
theorem dX11_doubt_26 : dc cX11_doubt 26 29 (.invokevirtual 209) 3 := o_182 ob_X11_doubt rfl rfl rfl rfl
theorem dX11_doubt_29 : dc cX11_doubt 29 30 (.aload_n 0) 1 := o_42 ob_X11_doubt rfl rfl rfl
theorem dX11_doubt_30 : dc cX11_doubt 30 31 (.iload_n 1) 1 := o_27 ob_X11_doubt rfl rfl rfl
theorem dX11_doubt_31 : dc cX11_doubt 31 34 (.invokevirtual 273) 3 := o_182 ob_X11_doubt rfl rfl rfl rfl
theorem dX11_doubt_34 : dc cX11_doubt 34 35 (.aload_n 0) 1 := o_42 ob_X11_doubt rfl rfl rfl
theorem dX11_doubt_35 : dc cX11_doubt 35 36 (.iload_n 2) 1 := o_28 ob_X11_doubt rfl rfl rfl
theorem dX11_doubt_36 : dc cX11_doubt 36 39 (.invokevirtual 273) 3 := o_182 ob_X11_doubt rfl rfl rfl rfl
theorem dX11_doubt_39 : dc cX11_doubt 39 40 (.aload_n 0) 1 := o_42 ob_X11_doubt rfl rfl rfl
theorem dX11_doubt_40 : dc cX11_doubt 40 43 (.getfield 39) 3 := o_180 ob_X11_doubt rfl rfl rfl rfl
theorem dX11_doubt_43 : dc cX11_doubt 43 44 (.iload_n 1) 1 := o_27 ob_X11_doubt rfl rfl rfl
theorem dX11_doubt_44 : dc cX11_doubt 44 45 (.iload_n 2) 1 := o_28 ob_X11_doubt rfl rfl rfl
theorem dX11_doubt_45 : dc cX11_doubt 45 46 (.aload_n 0) 1 := o_42 ob_X11_doubt rfl rfl rfl
theorem dX11_doubt_46 : dc cX11_doubt 46 49 (.getfield 10) 3 := o_180 ob_X11_doubt rfl rfl rfl rfl
theorem dX11_doubt_49 : dc cX11_doubt 49 52 (.getfield 112) 3 := o_180 ob_X11_doubt rfl rfl rfl rfl
theorem dX11_doubt_52 : dc cX11_doubt 52 53 .i2l 1 := o_133 ob_X11_doubt rfl rfl rfl
theorem dX11_doubt_53 : dc cX11_doubt 53 54 (.aload_n 0) 1 := o_42 ob_X11_doubt rfl rfl rfl
theorem dX11_doubt_54 : dc cX11_doubt 54 57 (.getfield 10) 3 := o_180 ob_X11_doubt rfl rfl rfl rfl
theorem dX11_doubt_57 : dc cX11_doubt 57 60 (.getfield 115) 3 := o_180 ob_X11_doubt rfl rfl rfl rfl
theorem dX11_doubt_60 : dc cX11_doubt 60 61 .i2l 1 := o_133 ob_X11_doubt rfl rfl rfl
theorem dX11_doubt_61 : dc cX11_doubt 61 64 (.invokevirtual 171) 3 := o_182 ob_X11_doubt rfl rfl rfl rfl
theorem dX11_doubt_64 : dc cX11_doubt 64 65 (.aload_n 0) 1 := o_42 ob_X11_doubt rfl rfl rfl
theorem dX11_doubt_65 : dc cX11_doubt 65 68 (.getfield 39) 3 := o_180 ob_X11_doubt rfl rfl rfl rfl
theorem dX11_doubt_68 : dc cX11_doubt 68 69 (.iload_n 3) 1 := o_29 ob_X11_doubt rfl rfl rfl
theorem dX11_doubt_69 : dc cX11_doubt 69 71 (.iload 4) 2 := o_21 ob_X11_doubt rfl rfl rfl rfl
theorem dX11_doubt_71 : dc cX11_doubt 71 72 (.aload_n 0) 1 := o_42 ob_X11_doubt rfl rfl rfl
theorem dX11_doubt_72 : dc cX11_doubt 72 75 (.getfield 83) 3 := o_180 ob_X11_doubt rfl rfl rfl rfl
theorem dX11_doubt_75 : dc cX11_doubt 75 78 (.invokevirtual 276) 3 := o_182 ob_X11_doubt rfl rfl rfl rfl
theorem dX11_doubt_78 : dc cX11_doubt 78 79 (.aload_n 0) 1 := o_42 ob_X11_doubt rfl rfl rfl
theorem dX11_doubt_79 : dc cX11_doubt 79 82 (.getfield 83) 3 := o_180 ob_X11_doubt rfl rfl rfl rfl
theorem dX11_doubt_82 : dc cX11_doubt 82 84 (.iload 5) 2 := o_21 ob_X11_doubt rfl rfl rfl rfl
theorem dX11_doubt_84 : dc cX11_doubt 84 87 (.invokevirtual 179) 3 := o_182 ob_X11_doubt rfl rfl rfl rfl
theorem dX11_doubt_87 : dc cX11_doubt 87 88 .lreturn 1 := o_173 ob_X11_doubt rfl rfl rfl
def F_KW_doubt (x1 : Int32) (x2 : Int32) (x3 : Int32) (x4 : Int32) (x5 : Int32) (M : Mem) : Option ((String ⊕ Int64) × Mem) :=
  xbind (F_KW_needWay x1 M) fun _ M1 => xbind (F_KW_needWay x2 M1) fun _ M2 => xbind (F_KW_needPerson x3 M2) fun _ M3 => xbind (F_KW_needFree x1 M3) fun _ M4 => xbind (F_KW_needFree x2 M4) fun _ M5 => xbind (F_KW_needTwoActs M5) fun _ M6 => xbind (F_KW_needTwoMoods x1 M6) fun _ M7 => xbind (F_KW_needTwoMoods x2 M7) fun _ M8 => (F_Pair_look x1 x2 ((M8.1 1 1).toInt64) ((M8.1 1 2).toInt64) M8).bind fun r9 => (F_Pair_tellDoubted 93 x3 x4 r9).bind fun r10 => (F_Fraction_part 93 x5 r10).bind fun r11 => some ((.inr r11, r10))
set_option maxRecDepth 100000 in
set_option maxHeartbeats 4000000 in
theorem K_KW_doubt (l : Launch) (g : GB) (htr : l.stackTraces = false) (x1 : Int32) (x2 : Int32) (x3 : Int32) (x4 : Int32) (x5 : Int32) (M : Mem) (rr : String ⊕ Int64) (MZ : Mem) (h : F_KW_doubt x1 x2 x3 x4 x5 M = some (rr, MZ)) : CT l g yX11_doubt (.code yX11_doubt cX11_doubt 6 (some .long) :: wAll) { frames := 7, cells := 8, slots := 48, locals := 140 } [.ref (g.2.1 0), .int x1, .int x2, .int x3, .int x4, .int x5] M (rvJ rr) MZ := by
  refine CT.of [(0, .ref (g.2.1 0)), (1, .int x1), (2, .int x2), (3, .int x3), (4, .int x4), (5, .int x5)] (by decide +kernel) (Nat.le_of_ble_eq_true rfl) rfl htr ?_
  intro p e s m args below meth c K hr ht
  skip
  obtain ⟨PHI, hPHI, h⟩ : ∃ PHI : (String ⊕ Int64) × Mem → Prop, (∀ a, PHI a → a = (rr, MZ)) ∧ wpO (F_KW_doubt x1 x2 x3 x4 x5 M) PHI := ⟨fun a => a = (rr, MZ), fun _ h => h, _, h, rfl⟩
  unfold F_KW_doubt at h
  refine G_aload_n rfl 0 rfl K dX11_doubt_0 ?_
  refine G_iload_n rfl 1 rfl K dX11_doubt_1 ?_
  obtain ⟨E1, M1, e1, h⟩ | ⟨r1, M1, e1, h⟩ := wpO_x h
  · cases hPHI _ h
    exact G_callXVt (ci := 11) [.int x1] [] K dX11_doubt_2 wv_898 yd_X11_needWay (Nat.le_of_ble_eq_true rfl) (sh_0 _ _) rfl (by decide) (by decide) rfl rfl (Nat.le_of_ble_eq_true rfl) (K_KW_needWay l g htr x1 M _ _ e1) (GX_out K ht (Nat.le_of_ble_eq_true rfl) (Nat.le_of_ble_eq_true rfl) ⟨rfl, rfl⟩)
  refine G_callXVv (ci := 11) [.int x1] [] K dX11_doubt_2 wv_898 yd_X11_needWay (Nat.le_of_ble_eq_true rfl) (sh_0 _ _) rfl (by decide) (by decide) rfl rfl (Nat.le_of_ble_eq_true rfl) (K_KW_needWay l g htr x1 M _ _ e1) ?_
  refine G_aload_n rfl 0 rfl K dX11_doubt_5 ?_
  refine G_iload_n rfl 2 rfl K dX11_doubt_6 ?_
  obtain ⟨E2, M2, e2, h⟩ | ⟨r2, M2, e2, h⟩ := wpO_x h
  · cases hPHI _ h
    exact G_callXVt (ci := 11) [.int x2] [] K dX11_doubt_7 wv_898 yd_X11_needWay (Nat.le_of_ble_eq_true rfl) (sh_0 _ _) rfl (by decide) (by decide) rfl rfl (Nat.le_of_ble_eq_true rfl) (K_KW_needWay l g htr x2 M1 _ _ e2) (GX_out K ht (Nat.le_of_ble_eq_true rfl) (Nat.le_of_ble_eq_true rfl) ⟨rfl, rfl⟩)
  refine G_callXVv (ci := 11) [.int x2] [] K dX11_doubt_7 wv_898 yd_X11_needWay (Nat.le_of_ble_eq_true rfl) (sh_0 _ _) rfl (by decide) (by decide) rfl rfl (Nat.le_of_ble_eq_true rfl) (K_KW_needWay l g htr x2 M1 _ _ e2) ?_
  refine G_aload_n rfl 0 rfl K dX11_doubt_10 ?_
  refine G_iload_n rfl 3 rfl K dX11_doubt_11 ?_
  obtain ⟨E3, M3, e3, h⟩ | ⟨r3, M3, e3, h⟩ := wpO_x h
  · cases hPHI _ h
    exact G_callXVt (ci := 11) [.int x3] [] K dX11_doubt_12 wv_937 yd_X11_needPerson (Nat.le_of_ble_eq_true rfl) (sh_0 _ _) rfl (by decide) (by decide) rfl rfl (Nat.le_of_ble_eq_true rfl) (K_KW_needPerson l g htr x3 M2 _ _ e3) (GX_out K ht (Nat.le_of_ble_eq_true rfl) (Nat.le_of_ble_eq_true rfl) ⟨rfl, rfl⟩)
  refine G_callXVv (ci := 11) [.int x3] [] K dX11_doubt_12 wv_937 yd_X11_needPerson (Nat.le_of_ble_eq_true rfl) (sh_0 _ _) rfl (by decide) (by decide) rfl rfl (Nat.le_of_ble_eq_true rfl) (K_KW_needPerson l g htr x3 M2 _ _ e3) ?_
  refine G_aload_n rfl 0 rfl K dX11_doubt_15 ?_
  refine G_iload_n rfl 1 rfl K dX11_doubt_16 ?_
  obtain ⟨E4, M4, e4, h⟩ | ⟨r4, M4, e4, h⟩ := wpO_x h
  · cases hPHI _ h
    exact G_callXVt (ci := 11) [.int x1] [] K dX11_doubt_17 wv_941 yd_X11_needFree (Nat.le_of_ble_eq_true rfl) (sh_0 _ _) rfl (by decide) (by decide) rfl rfl (Nat.le_of_ble_eq_true rfl) (K_KW_needFree l g htr x1 M3 _ _ e4) (GX_out K ht (Nat.le_of_ble_eq_true rfl) (Nat.le_of_ble_eq_true rfl) ⟨rfl, rfl⟩)
  refine G_callXVv (ci := 11) [.int x1] [] K dX11_doubt_17 wv_941 yd_X11_needFree (Nat.le_of_ble_eq_true rfl) (sh_0 _ _) rfl (by decide) (by decide) rfl rfl (Nat.le_of_ble_eq_true rfl) (K_KW_needFree l g htr x1 M3 _ _ e4) ?_
  refine G_aload_n rfl 0 rfl K dX11_doubt_20 ?_
  refine G_iload_n rfl 2 rfl K dX11_doubt_21 ?_
  obtain ⟨E5, M5, e5, h⟩ | ⟨r5, M5, e5, h⟩ := wpO_x h
  · cases hPHI _ h
    exact G_callXVt (ci := 11) [.int x2] [] K dX11_doubt_22 wv_941 yd_X11_needFree (Nat.le_of_ble_eq_true rfl) (sh_0 _ _) rfl (by decide) (by decide) rfl rfl (Nat.le_of_ble_eq_true rfl) (K_KW_needFree l g htr x2 M4 _ _ e5) (GX_out K ht (Nat.le_of_ble_eq_true rfl) (Nat.le_of_ble_eq_true rfl) ⟨rfl, rfl⟩)
  refine G_callXVv (ci := 11) [.int x2] [] K dX11_doubt_22 wv_941 yd_X11_needFree (Nat.le_of_ble_eq_true rfl) (sh_0 _ _) rfl (by decide) (by decide) rfl rfl (Nat.le_of_ble_eq_true rfl) (K_KW_needFree l g htr x2 M4 _ _ e5) ?_
  refine G_aload_n rfl 0 rfl K dX11_doubt_25 ?_
  obtain ⟨E6, M6, e6, h⟩ | ⟨r6, M6, e6, h⟩ := wpO_x h
  · cases hPHI _ h
    exact G_callXVt (ci := 11) [] [] K dX11_doubt_26 wv_1193 yd_X11_needTwoActs (Nat.le_of_ble_eq_true rfl) (sh_0 _ _) rfl (by decide) (by decide) rfl rfl (Nat.le_of_ble_eq_true rfl) (K_KW_needTwoActs l g htr  M5 _ _ e6) (GX_out K ht (Nat.le_of_ble_eq_true rfl) (Nat.le_of_ble_eq_true rfl) ⟨rfl, rfl⟩)
  refine G_callXVv (ci := 11) [] [] K dX11_doubt_26 wv_1193 yd_X11_needTwoActs (Nat.le_of_ble_eq_true rfl) (sh_0 _ _) rfl (by decide) (by decide) rfl rfl (Nat.le_of_ble_eq_true rfl) (K_KW_needTwoActs l g htr  M5 _ _ e6) ?_
  refine G_aload_n rfl 0 rfl K dX11_doubt_29 ?_
  refine G_iload_n rfl 1 rfl K dX11_doubt_30 ?_
  obtain ⟨E7, M7, e7, h⟩ | ⟨r7, M7, e7, h⟩ := wpO_x h
  · cases hPHI _ h
    exact G_callXVt (ci := 11) [.int x1] [] K dX11_doubt_31 wv_1197 yd_X11_needTwoMoods (Nat.le_of_ble_eq_true rfl) (sh_0 _ _) rfl (by decide) (by decide) rfl rfl (Nat.le_of_ble_eq_true rfl) (K_KW_needTwoMoods l g htr x1 M6 _ _ e7) (GX_out K ht (Nat.le_of_ble_eq_true rfl) (Nat.le_of_ble_eq_true rfl) ⟨rfl, rfl⟩)
  refine G_callXVv (ci := 11) [.int x1] [] K dX11_doubt_31 wv_1197 yd_X11_needTwoMoods (Nat.le_of_ble_eq_true rfl) (sh_0 _ _) rfl (by decide) (by decide) rfl rfl (Nat.le_of_ble_eq_true rfl) (K_KW_needTwoMoods l g htr x1 M6 _ _ e7) ?_
  refine G_aload_n rfl 0 rfl K dX11_doubt_34 ?_
  refine G_iload_n rfl 2 rfl K dX11_doubt_35 ?_
  obtain ⟨E8, M8, e8, h⟩ | ⟨r8, M8, e8, h⟩ := wpO_x h
  · cases hPHI _ h
    exact G_callXVt (ci := 11) [.int x2] [] K dX11_doubt_36 wv_1197 yd_X11_needTwoMoods (Nat.le_of_ble_eq_true rfl) (sh_0 _ _) rfl (by decide) (by decide) rfl rfl (Nat.le_of_ble_eq_true rfl) (K_KW_needTwoMoods l g htr x2 M7 _ _ e8) (GX_out K ht (Nat.le_of_ble_eq_true rfl) (Nat.le_of_ble_eq_true rfl) ⟨rfl, rfl⟩)
  refine G_callXVv (ci := 11) [.int x2] [] K dX11_doubt_36 wv_1197 yd_X11_needTwoMoods (Nat.le_of_ble_eq_true rfl) (sh_0 _ _) rfl (by decide) (by decide) rfl rfl (Nat.le_of_ble_eq_true rfl) (K_KW_needTwoMoods l g htr x2 M7 _ _ e8) ?_
  refine G_aload_n rfl 0 rfl K dX11_doubt_39 ?_
  refine G_get (ci := 11) (k := 5) K rfl in_X11 wd_407 rfl dX11_doubt_40 (Nat.le_of_ble_eq_true rfl) (sh_0 _ _) (Nat.le_of_ble_eq_true rfl) rfl ?_
  refine G_iload_n rfl 1 rfl K dX11_doubt_43 ?_
  refine G_iload_n rfl 2 rfl K dX11_doubt_44 ?_
  refine G_aload_n rfl 0 rfl K dX11_doubt_45 ?_
  refine G_get (ci := 11) (k := 0) K rfl in_X11 wd_402 rfl dX11_doubt_46 (Nat.le_of_ble_eq_true rfl) (sh_0 _ _) (Nat.le_of_ble_eq_true rfl) rfl ?_
  refine G_get (ci := 10) (k := 1) K rfl in_X10 wd_64 rfl dX11_doubt_49 (Nat.le_of_ble_eq_true rfl) (sh_1 _ _) (Nat.le_of_ble_eq_true rfl) rfl ?_
  refine G_i2l K dX11_doubt_52 ?_
  refine G_aload_n rfl 0 rfl K dX11_doubt_53 ?_
  refine G_get (ci := 11) (k := 0) K rfl in_X11 wd_402 rfl dX11_doubt_54 (Nat.le_of_ble_eq_true rfl) (sh_0 _ _) (Nat.le_of_ble_eq_true rfl) rfl ?_
  refine G_get (ci := 10) (k := 2) K rfl in_X10 wd_70 rfl dX11_doubt_57 (Nat.le_of_ble_eq_true rfl) (sh_1 _ _) (Nat.le_of_ble_eq_true rfl) rfl ?_
  refine G_i2l K dX11_doubt_60 ?_
  obtain ⟨r9, e9, h⟩ := wpO_bind h
  refine G_callVv (ci := 6) [.int x1, .int x2, .long ((M8.1 1 1).toInt64), .long ((M8.1 1 2).toInt64)] [] K dX11_doubt_61 wv_960 yd_X6_look (Nat.le_of_ble_eq_true rfl) (sh_34 _ _) rfl (by decide) (by decide) rfl rfl (Nat.le_of_ble_eq_true rfl) (K_Pair_look l g htr x1 x2 ((M8.1 1 1).toInt64) ((M8.1 1 2).toInt64) M8 _ e9) ?_
  refine G_aload_n rfl 0 rfl K dX11_doubt_64 ?_
  refine G_get (ci := 11) (k := 5) K rfl in_X11 wd_407 rfl dX11_doubt_65 (Nat.le_of_ble_eq_true rfl) (sh_0 _ _) (Nat.le_of_ble_eq_true rfl) rfl ?_
  refine G_iload_n rfl 3 rfl K dX11_doubt_68 ?_
  refine G_iload 4 rfl K dX11_doubt_69 ?_
  refine G_aload_n rfl 0 rfl K dX11_doubt_71 ?_
  refine G_get (ci := 11) (k := 11) K rfl in_X11 wd_413 rfl dX11_doubt_72 (Nat.le_of_ble_eq_true rfl) (sh_0 _ _) (Nat.le_of_ble_eq_true rfl) rfl ?_
  obtain ⟨r10, e10, h⟩ := wpO_bind h
  refine G_callVv (ci := 6) [.int x3, .int x4, .ref (g.2.1 93)] [] K dX11_doubt_75 wv_1201 yd_X6_tellDoubted (Nat.le_of_ble_eq_true rfl) (sh_34 _ _) rfl (by decide) (by decide) rfl rfl (Nat.le_of_ble_eq_true rfl) (K_Pair_tellDoubted l g htr 93 isFrac_93 x3 x4 r9 _ e10) ?_
  refine G_aload_n rfl 0 rfl K dX11_doubt_78 ?_
  refine G_get (ci := 11) (k := 11) K rfl in_X11 wd_413 rfl dX11_doubt_79 (Nat.le_of_ble_eq_true rfl) (sh_0 _ _) (Nat.le_of_ble_eq_true rfl) rfl ?_
  refine G_iload 5 rfl K dX11_doubt_82 ?_
  obtain ⟨r11, e11, h⟩ := wpO_bind h
  refine G_callVl (ci := 5) [.int x5] [] K dX11_doubt_84 wv_979 yd_X5_part (Nat.le_of_ble_eq_true rfl) (sh_93 _ _) rfl (by decide) (by decide) rfl rfl (Nat.le_of_ble_eq_true rfl) (K_Fraction_part l g htr 93 isFrac_93 x5 r10 _ e11) ?_
  cases hPHI _ (wpO_some h)
  exact G_lret K hr dX11_doubt_87 (Nat.le_of_ble_eq_true rfl) (Nat.le_of_ble_eq_true rfl) ⟨rfl, rfl⟩
theorem yd_X8_isRowOfDays : ydN yX8_isRowOfDays 0 := ⟨by decide, by decide, by decide +kernel⟩
theorem wv_1232 : wdV "KeptWell" 280 yX8_isRowOfDays cX8_isRowOfDays 2 (some .boolean) := ⟨wd_1232, wd_1233, wd_1234, wd_5, wd_1235⟩
theorem wv_1236 : wdV "KeptWell" 289 yX7_takeFrom cX7_takeFrom 3 none := ⟨wd_1236, wd_625, wd_626, wd_3, wd_627⟩
def on_X11_row : Nat := 0xac2501b40a00b42abf7c00b7597a00bb0b009a1b5f00b5031a00b42a2501b56c055f00b41a00b42a0a00b42a2101b61e01b41a00b42a1b01b40a00b42a2400991b3c1801b61a00b42a
theorem ob_X11_row : OKB cX11_row on_X11_row 73 := ⟨by decide +kernel, by decide +kernel⟩
theorem dX11_row_0 : dc cX11_row 0 1 (.aload_n 0) 1 := o_42 ob_X11_row rfl rfl rfl
theorem dX11_row_1 : dc cX11_row 1 4 (.getfield 26) 3 := o_180 ob_X11_row rfl rfl rfl rfl
theorem dX11_row_4 : dc cX11_row 4 7 (.invokevirtual 280) 3 := o_182 ob_X11_row rfl rfl rfl rfl
theorem dX11_row_7 : dc cX11_row 7 8 (.istore_n 1) 1 := o_60 ob_X11_row rfl rfl rfl
theorem dX11_row_8 : dc cX11_row 8 9 (.iload_n 1) 1 := o_27 ob_X11_row rfl rfl rfl
theorem dX11_row_9 : dc cX11_row 9 12 (.ifCond .eq 36) 3 := o_153 ob_X11_row rfl rfl rfl rfl
theorem dX11_row_12 : dc cX11_row 12 13 (.aload_n 0) 1 := o_42 ob_X11_row rfl rfl rfl
theorem dX11_row_13 : dc cX11_row 13 16 (.getfield 10) 3 := o_180 ob_X11_row rfl rfl rfl rfl
theorem dX11_row_16 : dc cX11_row 16 19 (.getfield 283) 3 := o_180 ob_X11_row rfl rfl rfl rfl
theorem dX11_row_19 : dc cX11_row 19 20 (.aload_n 0) 1 := o_42 ob_X11_row rfl rfl rfl
theorem dX11_row_20 : dc cX11_row 20 23 (.getfield 26) 3 := o_180 ob_X11_row rfl rfl rfl rfl
theorem dX11_row_23 : dc cX11_row 23 26 (.getfield 286) 3 := o_180 ob_X11_row rfl rfl rfl rfl
theorem dX11_row_26 : dc cX11_row 26 29 (.invokevirtual 289) 3 := o_182 ob_X11_row rfl rfl rfl rfl
theorem dX11_row_29 : dc cX11_row 29 30 (.aload_n 0) 1 := o_42 ob_X11_row rfl rfl rfl
theorem dX11_row_30 : dc cX11_row 30 33 (.getfield 10) 3 := o_180 ob_X11_row rfl rfl rfl rfl
theorem dX11_row_33 : dc cX11_row 33 34 (.aload_n 0) 1 := o_42 ob_X11_row rfl rfl rfl
theorem dX11_row_34 : dc cX11_row 34 37 (.getfield 26) 3 := o_180 ob_X11_row rfl rfl rfl rfl
theorem dX11_row_37 : dc cX11_row 37 40 (.getfield 95) 3 := o_180 ob_X11_row rfl rfl rfl rfl
theorem dX11_row_40 : dc cX11_row 40 41 (.iconst 2) 1 := o_5 ob_X11_row rfl rfl rfl
theorem dX11_row_41 : dc cX11_row 41 42 .idiv 1 := o_108 ob_X11_row rfl rfl rfl
theorem dX11_row_42 : dc cX11_row 42 45 (.putfield 293) 3 := o_181 ob_X11_row rfl rfl rfl rfl
theorem dX11_row_45 : dc cX11_row 45 46 (.aload_n 0) 1 := o_42 ob_X11_row rfl rfl rfl
theorem dX11_row_46 : dc cX11_row 46 49 (.getfield 26) 3 := o_180 ob_X11_row rfl rfl rfl rfl
theorem dX11_row_49 : dc cX11_row 49 50 (.iconst 0) 1 := o_3 ob_X11_row rfl rfl rfl
theorem dX11_row_50 : dc cX11_row 50 53 (.putfield 95) 3 := o_181 ob_X11_row rfl rfl rfl rfl
theorem dX11_row_53 : dc cX11_row 53 54 (.iload_n 1) 1 := o_27 ob_X11_row rfl rfl rfl
theorem dX11_row_54 : dc cX11_row 54 57 (.ifCond .ne 11) 3 := o_154 ob_X11_row rfl rfl rfl rfl
theorem dX11_row_57 : dc cX11_row 57 60 (.new 122) 3 := o_187 ob_X11_row rfl rfl rfl rfl
theorem dX11_row_60 : dc cX11_row 60 61 .dup 1 := o_89 ob_X11_row rfl rfl rfl
theorem dX11_row_61 : dc cX11_row 61 64 (.invokespecial 124) 3 := o_183 ob_X11_row rfl rfl rfl rfl
theorem dX11_row_64 : dc cX11_row 64 65 .athrow 1 := o_191 ob_X11_row rfl rfl rfl
theorem dX11_row_65 : dc cX11_row 65 66 (.aload_n 0) 1 := o_42 ob_X11_row rfl rfl rfl
theorem dX11_row_66 : dc cX11_row 66 69 (.getfield 10) 3 := o_180 ob_X11_row rfl rfl rfl rfl
theorem dX11_row_69 : dc cX11_row 69 72 (.getfield 293) 3 := o_180 ob_X11_row rfl rfl rfl rfl
theorem dX11_row_72 : dc cX11_row 72 73 .ireturn 1 := o_172 ob_X11_row rfl rfl rfl
def F_KW_row_j45 (x1 : Bool) (M : Mem) : Option ((String ⊕ Int32) × Mem) :=
  if x1 = true then some ((.inr ((mSI M 27 1 0).1 1 7), mSI M 27 1 0)) else some ((.inl "java/lang/IllegalArgumentException", mSI M 27 1 0))
def F_KW_row (M : Mem) : Option ((String ⊕ Int32) × Mem) :=
  (F_Tape_isRowOfDays M).bind fun r1 => if r1 = true then (F_Row_takeFrom 7 400 29 400 M).bind fun r2 => F_KW_row_j45 r1 (mSI r2 1 7 ((r2.1 27 1) / 2)) else F_KW_row_j45 r1 M
set_option maxRecDepth 100000 in
set_option maxHeartbeats 4000000 in
theorem K_KW_row (l : Launch) (g : GB) (htr : l.stackTraces = false) (M : Mem) (rr : String ⊕ Int32) (MZ : Mem) (h : F_KW_row M = some (rr, MZ)) : CT l g yX11_row (.code yX11_row cX11_row 2 (some .int) :: wAll) { frames := 6, cells := 1, slots := 6, locals := 100 } [.ref (g.2.1 0)] M (rvI rr) MZ := by
  refine CT.of [(0, .ref (g.2.1 0))] (by decide +kernel) (Nat.le_of_ble_eq_true rfl) rfl htr ?_
  intro p e s m args below meth c K hr ht
  skip
  obtain ⟨PHI, hPHI, h⟩ : ∃ PHI : (String ⊕ Int32) × Mem → Prop, (∀ a, PHI a → a = (rr, MZ)) ∧ wpO (F_KW_row M) PHI := ⟨fun a => a = (rr, MZ), fun _ h => h, _, h, rfl⟩
  have J45 : ∀ (x1 : Bool) (M : Mem), wpO (F_KW_row_j45 x1 M) PHI → GG p l e { frames := 6, cells := 1, slots := 6, locals := 100 } s m args below meth c g 2 (vx_MQ below (Qn g s.heap.size (rvI rr) MZ) (QX g s.heap.size (rvI rr) MZ) args s 1 6 (AS g s.heap.size)) 0 0 45 [(0, .ref (g.2.1 0)), (1, .int ((b2i x1)))] [] M := by
    intro x1 M h
    unfold F_KW_row_j45 at h
    refine G_aload_n rfl 0 rfl K dX11_row_45 ?_
    refine G_get (ci := 11) (k := 3) K rfl in_X11 wd_405 rfl dX11_row_46 (Nat.le_of_ble_eq_true rfl) (sh_0 _ _) (Nat.le_of_ble_eq_true rfl) rfl ?_
    refine G_iconst (v := 0) rfl K dX11_row_49 ?_
    refine G_putI (ci := 8) (k := 1) (ty := .int) K rfl in_X8 tyX8 tyX8_ok nmX8 wd_150 rfl rfl rfl rfl rfl dX11_row_50 (Nat.le_of_ble_eq_true rfl) (sh_27 _ _) (sh_27 _ _) (Nat.le_of_ble_eq_true rfl) (Nat.le_of_ble_eq_true rfl) rfl ?_
    refine G_iload_n rfl 1 rfl K dX11_row_53 ?_
    refine G_ifb_ne (tgt := 65) K dX11_row_54 (by decide) (fun hc => ?_) (fun hc => ?_)
    · have h := wpO_t h hc
      refine G_aload_n rfl 0 rfl K dX11_row_65 ?_
      refine G_get (ci := 11) (k := 0) K rfl in_X11 wd_402 rfl dX11_row_66 (Nat.le_of_ble_eq_true rfl) (sh_0 _ _) (Nat.le_of_ble_eq_true rfl) rfl ?_
      refine G_get (ci := 10) (k := 7) K rfl in_X10 wd_90 rfl dX11_row_69 (Nat.le_of_ble_eq_true rfl) (sh_1 _ _) (Nat.le_of_ble_eq_true rfl) rfl ?_
      cases hPHI _ (wpO_some h)
      exact G_iret K hr rfl dX11_row_72 (Nat.le_of_ble_eq_true rfl) (Nat.le_of_ble_eq_true rfl) ⟨rfl, rfl⟩
    · have h := wpO_bf h hc
      cases hPHI _ (wpO_some h)
      exact G_throw K ex_122_124 (fun ls h => h.trans K.1.2.2.1.symm) dX11_row_57 dX11_row_60 dX11_row_61 dX11_row_64 ht (by decide) (Nat.le_of_ble_eq_true rfl) (Nat.le_of_ble_eq_true rfl) (Nat.le_of_ble_eq_true rfl) (by decide) (by decide) ⟨rfl, rfl⟩
  unfold F_KW_row at h
  refine G_aload_n rfl 0 rfl K dX11_row_0 ?_
  refine G_get (ci := 11) (k := 3) K rfl in_X11 wd_405 rfl dX11_row_1 (Nat.le_of_ble_eq_true rfl) (sh_0 _ _) (Nat.le_of_ble_eq_true rfl) rfl ?_
  obtain ⟨r1, e1, h⟩ := wpO_bind h
  refine G_callVi (ci := 8) [] [] K dX11_row_4 wv_1232 yd_X8_isRowOfDays (Nat.le_of_ble_eq_true rfl) (sh_27 _ _) rfl (by decide) (by decide) rfl rfl (Nat.le_of_ble_eq_true rfl) (K_Tape_isRowOfDays l g htr  M _ e1) ?_
  refine G_istore_n rfl K dX11_row_7 (Nat.le_of_ble_eq_true rfl) rfl ?_
  refine G_iload_n rfl 0 rfl K dX11_row_8 ?_
  refine G_ifb_eq (tgt := 45) K dX11_row_9 (by decide) (fun hc => ?_) (fun hc => ?_)
  · have h := wpO_bf h hc
    exact G_lv (lv' := [(0, .ref (g.2.1 0)), (1, .int ((b2i r1)))]) [1, 0] rfl (J45 r1 M h)
  · have h := wpO_t h hc
    refine G_aload_n rfl 1 rfl K dX11_row_12 ?_
    refine G_get (ci := 11) (k := 0) K rfl in_X11 wd_402 rfl dX11_row_13 (Nat.le_of_ble_eq_true rfl) (sh_0 _ _) (Nat.le_of_ble_eq_true rfl) rfl ?_
    refine G_get (ci := 10) (k := 11) K rfl in_X10 wd_98 rfl dX11_row_16 (Nat.le_of_ble_eq_true rfl) (sh_1 _ _) (Nat.le_of_ble_eq_true rfl) rfl ?_
    refine G_aload_n rfl 1 rfl K dX11_row_19 ?_
    refine G_get (ci := 11) (k := 3) K rfl in_X11 wd_405 rfl dX11_row_20 (Nat.le_of_ble_eq_true rfl) (sh_0 _ _) (Nat.le_of_ble_eq_true rfl) rfl ?_
    refine G_get (ci := 8) (k := 0) K rfl in_X8 wd_148 rfl dX11_row_23 (Nat.le_of_ble_eq_true rfl) (sh_27 _ _) (Nat.le_of_ble_eq_true rfl) rfl ?_
    obtain ⟨r2, e2, h⟩ := wpO_bind h
    refine G_callVv (ci := 7) [.ref (g.2.1 28)] [] K dX11_row_26 wv_1236 yd_X7_takeFrom (Nat.le_of_ble_eq_true rfl) (sh_6 _ _) rfl (by decide) (by decide) rfl rfl (Nat.le_of_ble_eq_true rfl) (K_Row_takeFrom l g htr 6 7 400 28 29 400 isRow_6 isRow_28 M _ e2) ?_
    refine G_aload_n rfl 1 rfl K dX11_row_29 ?_
    refine G_get (ci := 11) (k := 0) K rfl in_X11 wd_402 rfl dX11_row_30 (Nat.le_of_ble_eq_true rfl) (sh_0 _ _) (Nat.le_of_ble_eq_true rfl) rfl ?_
    refine G_aload_n rfl 1 rfl K dX11_row_33 ?_
    refine G_get (ci := 11) (k := 3) K rfl in_X11 wd_405 rfl dX11_row_34 (Nat.le_of_ble_eq_true rfl) (sh_0 _ _) (Nat.le_of_ble_eq_true rfl) rfl ?_
    refine G_get (ci := 8) (k := 1) K rfl in_X8 wd_150 rfl dX11_row_37 (Nat.le_of_ble_eq_true rfl) (sh_27 _ _) (Nat.le_of_ble_eq_true rfl) rfl ?_
    refine G_iconst (v := 2) rfl K dX11_row_40 ?_
    refine G_idiv (by decide) K dX11_row_41 ?_
    refine G_putI (ci := 10) (k := 7) (ty := .int) K rfl in_X10 tyX10 tyX10_ok nmX10 wd_90 rfl rfl rfl rfl rfl dX11_row_42 (Nat.le_of_ble_eq_true rfl) (sh_1 _ _) (sh_1 _ _) (Nat.le_of_ble_eq_true rfl) (Nat.le_of_ble_eq_true rfl) rfl ?_
    exact G_lv (lv' := [(0, .ref (g.2.1 0)), (1, .int ((b2i r1)))]) [1, 0] rfl (J45 r1 (mSI r2 1 7 ((r2.1 27 1) / 2)) h)
theorem yd_X9_firstOtherwise : ydN yX9_firstOtherwise 2 := ⟨by decide, by decide, by decide +kernel⟩
theorem yd_X10_doesUnknownAct : ydN yX10_doesUnknownAct 0 := ⟨by decide, by decide, by decide +kernel⟩
theorem wv_1244 : wdV "KeptWell" 296 yX10_doesUnknownAct cX10_doesUnknownAct 2 (some .boolean) := ⟨wd_1244, wd_1245, wd_1246, wd_2, wd_1247⟩
theorem wv_1248 : wdV "KeptWell" 302 yX9_firstOtherwise cX9_firstOtherwise 6 (some .int) := ⟨wd_1248, wd_1249, wd_1250, wd_10, wd_1251⟩
def on_X11_judge : Nat := 0xac2e01b61c1b3c00b42abf2d01b7592b01bb0b00992801b60a00b42ab700b61c1b2a
theorem ob_X11_judge : OKB cX11_judge on_X11_judge 34 := ⟨by decide +kernel, by decide +kernel⟩
theorem dX11_judge_0 : dc cX11_judge 0 1 (.aload_n 0) 1 := o_42 ob_X11_judge rfl rfl rfl
theorem dX11_judge_1 : dc cX11_judge 1 2 (.iload_n 1) 1 := o_27 ob_X11_judge rfl rfl rfl
theorem dX11_judge_2 : dc cX11_judge 2 3 (.iload_n 2) 1 := o_28 ob_X11_judge rfl rfl rfl
theorem dX11_judge_3 : dc cX11_judge 3 6 (.invokevirtual 183) 3 := o_182 ob_X11_judge rfl rfl rfl rfl
theorem dX11_judge_6 : dc cX11_judge 6 7 (.aload_n 0) 1 := o_42 ob_X11_judge rfl rfl rfl
theorem dX11_judge_7 : dc cX11_judge 7 10 (.getfield 10) 3 := o_180 ob_X11_judge rfl rfl rfl rfl
theorem dX11_judge_10 : dc cX11_judge 10 13 (.invokevirtual 296) 3 := o_182 ob_X11_judge rfl rfl rfl rfl
theorem dX11_judge_13 : dc cX11_judge 13 16 (.ifCond .eq 11) 3 := o_153 ob_X11_judge rfl rfl rfl rfl
theorem dX11_judge_16 : dc cX11_judge 16 19 (.new 299) 3 := o_187 ob_X11_judge rfl rfl rfl rfl
theorem dX11_judge_19 : dc cX11_judge 19 20 .dup 1 := o_89 ob_X11_judge rfl rfl rfl
theorem dX11_judge_20 : dc cX11_judge 20 23 (.invokespecial 301) 3 := o_183 ob_X11_judge rfl rfl rfl rfl
theorem dX11_judge_23 : dc cX11_judge 23 24 .athrow 1 := o_191 ob_X11_judge rfl rfl rfl
theorem dX11_judge_24 : dc cX11_judge 24 25 (.aload_n 0) 1 := o_42 ob_X11_judge rfl rfl rfl
theorem dX11_judge_25 : dc cX11_judge 25 28 (.getfield 60) 3 := o_180 ob_X11_judge rfl rfl rfl rfl
theorem dX11_judge_28 : dc cX11_judge 28 29 (.iload_n 1) 1 := o_27 ob_X11_judge rfl rfl rfl
theorem dX11_judge_29 : dc cX11_judge 29 30 (.iload_n 2) 1 := o_28 ob_X11_judge rfl rfl rfl
theorem dX11_judge_30 : dc cX11_judge 30 33 (.invokevirtual 302) 3 := o_182 ob_X11_judge rfl rfl rfl rfl
theorem dX11_judge_33 : dc cX11_judge 33 34 .ireturn 1 := o_172 ob_X11_judge rfl rfl rfl
def F_KW_judge (x1 : Int32) (x2 : Int32) (M : Mem) : Option ((String ⊕ Int32) × Mem) :=
  xbind (F_KW_needPair x1 x2 M) fun _ M1 => (F_Well_doesUnknownAct M1).bind fun r2 => if r2 = true then some ((.inl "java/lang/IllegalStateException", M1)) else (F_Walk_firstOtherwise x1 x2 M1).bind fun r3 => some ((.inr r3.1, r3.2))
set_option maxRecDepth 100000 in
set_option maxHeartbeats 4000000 in
theorem K_KW_judge (l : Launch) (g : GB) (htr : l.stackTraces = false) (x1 : Int32) (x2 : Int32) (M : Mem) (rr : String ⊕ Int32) (MZ : Mem) (h : F_KW_judge x1 x2 M = some (rr, MZ)) : CT l g yX11_judge (.code yX11_judge cX11_judge 3 (some .int) :: wAll) { frames := 8, cells := 5, slots := 30, locals := 143 } [.ref (g.2.1 0), .int x1, .int x2] M (rvI rr) MZ := by
  refine CT.of [(0, .ref (g.2.1 0)), (1, .int x1), (2, .int x2)] (by decide +kernel) (Nat.le_of_ble_eq_true rfl) rfl htr ?_
  intro p e s m args below meth c K hr ht
  skip
  obtain ⟨PHI, hPHI, h⟩ : ∃ PHI : (String ⊕ Int32) × Mem → Prop, (∀ a, PHI a → a = (rr, MZ)) ∧ wpO (F_KW_judge x1 x2 M) PHI := ⟨fun a => a = (rr, MZ), fun _ h => h, _, h, rfl⟩
  unfold F_KW_judge at h
  refine G_aload_n rfl 0 rfl K dX11_judge_0 ?_
  refine G_iload_n rfl 1 rfl K dX11_judge_1 ?_
  refine G_iload_n rfl 2 rfl K dX11_judge_2 ?_
  obtain ⟨E1, M1, e1, h⟩ | ⟨r1, M1, e1, h⟩ := wpO_x h
  · cases hPHI _ h
    exact G_callXVt (ci := 11) [.int x1, .int x2] [] K dX11_judge_3 wv_990 yd_X11_needPair (Nat.le_of_ble_eq_true rfl) (sh_0 _ _) rfl (by decide) (by decide) rfl rfl (Nat.le_of_ble_eq_true rfl) (K_KW_needPair l g htr x1 x2 M _ _ e1) (GX_out K ht (Nat.le_of_ble_eq_true rfl) (Nat.le_of_ble_eq_true rfl) ⟨rfl, rfl⟩)
  refine G_callXVv (ci := 11) [.int x1, .int x2] [] K dX11_judge_3 wv_990 yd_X11_needPair (Nat.le_of_ble_eq_true rfl) (sh_0 _ _) rfl (by decide) (by decide) rfl rfl (Nat.le_of_ble_eq_true rfl) (K_KW_needPair l g htr x1 x2 M _ _ e1) ?_
  refine G_aload_n rfl 0 rfl K dX11_judge_6 ?_
  refine G_get (ci := 11) (k := 0) K rfl in_X11 wd_402 rfl dX11_judge_7 (Nat.le_of_ble_eq_true rfl) (sh_0 _ _) (Nat.le_of_ble_eq_true rfl) rfl ?_
  obtain ⟨r2, e2, h⟩ := wpO_bind h
  refine G_callVi (ci := 10) [] [] K dX11_judge_10 wv_1244 yd_X10_doesUnknownAct (Nat.le_of_ble_eq_true rfl) (sh_1 _ _) rfl (by decide) (by decide) rfl rfl (Nat.le_of_ble_eq_true rfl) (K_Well_doesUnknownAct l g htr  M1 _ e2) ?_
  refine G_ifb_eq (tgt := 24) K dX11_judge_13 (by decide) (fun hc => ?_) (fun hc => ?_)
  · have h := wpO_bf h hc
    refine G_aload_n rfl 0 rfl K dX11_judge_24 ?_
    refine G_get (ci := 11) (k := 8) K rfl in_X11 wd_410 rfl dX11_judge_25 (Nat.le_of_ble_eq_true rfl) (sh_0 _ _) (Nat.le_of_ble_eq_true rfl) rfl ?_
    refine G_iload_n rfl 1 rfl K dX11_judge_28 ?_
    refine G_iload_n rfl 2 rfl K dX11_judge_29 ?_
    obtain ⟨r3, e3, h⟩ := wpO_bind h
    refine G_callVi (ci := 9) [.int x1, .int x2] [] K dX11_judge_30 wv_1248 yd_X9_firstOtherwise (Nat.le_of_ble_eq_true rfl) (sh_79 _ _) rfl (by decide) (by decide) rfl rfl (Nat.le_of_ble_eq_true rfl) (K_Walk_firstOtherwise l g htr x1 x2 M1 _ _ e3) ?_
    cases hPHI _ (wpO_some h)
    exact G_iret K hr rfl dX11_judge_33 (Nat.le_of_ble_eq_true rfl) (Nat.le_of_ble_eq_true rfl) ⟨rfl, rfl⟩
  · have h := wpO_t h hc
    cases hPHI _ (wpO_some h)
    exact G_throw K ex_299_301 (fun ls h => h.trans K.1.2.2.1.symm) dX11_judge_16 dX11_judge_19 dX11_judge_20 dX11_judge_23 ht (by decide) (Nat.le_of_ble_eq_true rfl) (Nat.le_of_ble_eq_true rfl) (Nat.le_of_ble_eq_true rfl) (by decide) (by decide) ⟨rfl, rfl⟩
theorem yd_X9_broughtByRow : ydN yX9_broughtByRow 1 := ⟨by decide, by decide, by decide +kernel⟩
theorem wv_1270 : wdV "KeptWell" 305 yX9_broughtByRow cX9_broughtByRow 4 (some .int) := ⟨wd_1270, wd_1271, wd_1272, wd_10, wd_1273⟩
def on_X11_brought : Nat := 0xac3101b61b3c00b42aa500b61b2a
theorem ob_X11_brought : OKB cX11_brought on_X11_brought 14 := ⟨by decide +kernel, by decide +kernel⟩
theorem dX11_brought_0 : dc cX11_brought 0 1 (.aload_n 0) 1 := o_42 ob_X11_brought rfl rfl rfl
theorem dX11_brought_1 : dc cX11_brought 1 2 (.iload_n 1) 1 := o_27 ob_X11_brought rfl rfl rfl
theorem dX11_brought_2 : dc cX11_brought 2 5 (.invokevirtual 165) 3 := o_182 ob_X11_brought rfl rfl rfl rfl
theorem dX11_brought_5 : dc cX11_brought 5 6 (.aload_n 0) 1 := o_42 ob_X11_brought rfl rfl rfl
theorem dX11_brought_6 : dc cX11_brought 6 9 (.getfield 60) 3 := o_180 ob_X11_brought rfl rfl rfl rfl
theorem dX11_brought_9 : dc cX11_brought 9 10 (.iload_n 1) 1 := o_27 ob_X11_brought rfl rfl rfl
theorem dX11_brought_10 : dc cX11_brought 10 13 (.invokevirtual 305) 3 := o_182 ob_X11_brought rfl rfl rfl rfl
theorem dX11_brought_13 : dc cX11_brought 13 14 .ireturn 1 := o_172 ob_X11_brought rfl rfl rfl
def F_KW_brought (x1 : Int32) (M : Mem) : Option ((String ⊕ Int32) × Mem) :=
  xbind (F_KW_needPerson x1 M) fun _ M1 => (F_Walk_broughtByRow x1 M1).bind fun r2 => some ((.inr r2, M1))
set_option maxRecDepth 100000 in
set_option maxHeartbeats 4000000 in
theorem K_KW_brought (l : Launch) (g : GB) (htr : l.stackTraces = false) (x1 : Int32) (M : Mem) (rr : String ⊕ Int32) (MZ : Mem) (h : F_KW_brought x1 M = some (rr, MZ)) : CT l g yX11_brought (.code yX11_brought cX11_brought 2 (some .int) :: wAll) { frames := 7, cells := 1, slots := 6, locals := 121 } [.ref (g.2.1 0), .int x1] M (rvI rr) MZ := by
  refine CT.of [(0, .ref (g.2.1 0)), (1, .int x1)] (by decide +kernel) (Nat.le_of_ble_eq_true rfl) rfl htr ?_
  intro p e s m args below meth c K hr ht
  skip
  obtain ⟨PHI, hPHI, h⟩ : ∃ PHI : (String ⊕ Int32) × Mem → Prop, (∀ a, PHI a → a = (rr, MZ)) ∧ wpO (F_KW_brought x1 M) PHI := ⟨fun a => a = (rr, MZ), fun _ h => h, _, h, rfl⟩
  unfold F_KW_brought at h
  refine G_aload_n rfl 0 rfl K dX11_brought_0 ?_
  refine G_iload_n rfl 1 rfl K dX11_brought_1 ?_
  obtain ⟨E1, M1, e1, h⟩ | ⟨r1, M1, e1, h⟩ := wpO_x h
  · cases hPHI _ h
    exact G_callXVt (ci := 11) [.int x1] [] K dX11_brought_2 wv_937 yd_X11_needPerson (Nat.le_of_ble_eq_true rfl) (sh_0 _ _) rfl (by decide) (by decide) rfl rfl (Nat.le_of_ble_eq_true rfl) (K_KW_needPerson l g htr x1 M _ _ e1) (GX_out K ht (Nat.le_of_ble_eq_true rfl) (Nat.le_of_ble_eq_true rfl) ⟨rfl, rfl⟩)
  refine G_callXVv (ci := 11) [.int x1] [] K dX11_brought_2 wv_937 yd_X11_needPerson (Nat.le_of_ble_eq_true rfl) (sh_0 _ _) rfl (by decide) (by decide) rfl rfl (Nat.le_of_ble_eq_true rfl) (K_KW_needPerson l g htr x1 M _ _ e1) ?_
  refine G_aload_n rfl 0 rfl K dX11_brought_5 ?_
  refine G_get (ci := 11) (k := 8) K rfl in_X11 wd_410 rfl dX11_brought_6 (Nat.le_of_ble_eq_true rfl) (sh_0 _ _) (Nat.le_of_ble_eq_true rfl) rfl ?_
  refine G_iload_n rfl 1 rfl K dX11_brought_9 ?_
  obtain ⟨r2, e2, h⟩ := wpO_bind h
  refine G_callVi (ci := 9) [.int x1] [] K dX11_brought_10 wv_1270 yd_X9_broughtByRow (Nat.le_of_ble_eq_true rfl) (sh_79 _ _) rfl (by decide) (by decide) rfl rfl (Nat.le_of_ble_eq_true rfl) (K_Walk_broughtByRow l g htr x1 M1 _ e2) ?_
  cases hPHI _ (wpO_some h)
  exact G_iret K hr rfl dX11_brought_13 (Nat.le_of_ble_eq_true rfl) (Nat.le_of_ble_eq_true rfl) ⟨rfl, rfl⟩
theorem yd_X9_draw : ydN yX9_draw 5 := ⟨by decide, by decide, by decide +kernel⟩
theorem wv_1282 : wdV "KeptWell" 308 yX9_draw cX9_draw 12 (some .int) := ⟨wd_1282, wd_1283, wd_1284, wd_10, wd_1285⟩
def on_X11_drawn : Nat := 0xac3401b6051504151d1c1b3c00b42a9600b60605152ad100b62a07009e0b01b40a00b42aa800b61c2aa800b61b2a6200b66410031d2a8b00b61c2a8b00b61b2a
theorem ob_X11_drawn : OKB cX11_drawn on_X11_drawn 64 := ⟨by decide +kernel, by decide +kernel⟩
theorem dX11_drawn_0 : dc cX11_drawn 0 1 (.aload_n 0) 1 := o_42 ob_X11_drawn rfl rfl rfl
theorem dX11_drawn_1 : dc cX11_drawn 1 2 (.iload_n 1) 1 := o_27 ob_X11_drawn rfl rfl rfl
theorem dX11_drawn_2 : dc cX11_drawn 2 5 (.invokevirtual 139) 3 := o_182 ob_X11_drawn rfl rfl rfl rfl
theorem dX11_drawn_5 : dc cX11_drawn 5 6 (.aload_n 0) 1 := o_42 ob_X11_drawn rfl rfl rfl
theorem dX11_drawn_6 : dc cX11_drawn 6 7 (.iload_n 2) 1 := o_28 ob_X11_drawn rfl rfl rfl
theorem dX11_drawn_7 : dc cX11_drawn 7 10 (.invokevirtual 139) 3 := o_182 ob_X11_drawn rfl rfl rfl rfl
theorem dX11_drawn_10 : dc cX11_drawn 10 11 (.aload_n 0) 1 := o_42 ob_X11_drawn rfl rfl rfl
theorem dX11_drawn_11 : dc cX11_drawn 11 12 (.iload_n 3) 1 := o_29 ob_X11_drawn rfl rfl rfl
theorem dX11_drawn_12 : dc cX11_drawn 12 13 (.iconst 0) 1 := o_3 ob_X11_drawn rfl rfl rfl
theorem dX11_drawn_13 : dc cX11_drawn 13 15 (.bipush 100) 2 := o_16 ob_X11_drawn rfl rfl rfl rfl
theorem dX11_drawn_15 : dc cX11_drawn 15 18 (.invokevirtual 98) 3 := o_182 ob_X11_drawn rfl rfl rfl rfl
theorem dX11_drawn_18 : dc cX11_drawn 18 19 (.aload_n 0) 1 := o_42 ob_X11_drawn rfl rfl rfl
theorem dX11_drawn_19 : dc cX11_drawn 19 20 (.iload_n 1) 1 := o_27 ob_X11_drawn rfl rfl rfl
theorem dX11_drawn_20 : dc cX11_drawn 20 23 (.invokevirtual 168) 3 := o_182 ob_X11_drawn rfl rfl rfl rfl
theorem dX11_drawn_23 : dc cX11_drawn 23 24 (.aload_n 0) 1 := o_42 ob_X11_drawn rfl rfl rfl
theorem dX11_drawn_24 : dc cX11_drawn 24 25 (.iload_n 2) 1 := o_28 ob_X11_drawn rfl rfl rfl
theorem dX11_drawn_25 : dc cX11_drawn 25 28 (.invokevirtual 168) 3 := o_182 ob_X11_drawn rfl rfl rfl rfl
theorem dX11_drawn_28 : dc cX11_drawn 28 29 (.aload_n 0) 1 := o_42 ob_X11_drawn rfl rfl rfl
theorem dX11_drawn_29 : dc cX11_drawn 29 32 (.getfield 10) 3 := o_180 ob_X11_drawn rfl rfl rfl rfl
theorem dX11_drawn_32 : dc cX11_drawn 32 35 (.getfield 267) 3 := o_180 ob_X11_drawn rfl rfl rfl rfl
theorem dX11_drawn_35 : dc cX11_drawn 35 38 (.ifCond .le 7) 3 := o_158 ob_X11_drawn rfl rfl rfl rfl
theorem dX11_drawn_38 : dc cX11_drawn 38 39 (.aload_n 0) 1 := o_42 ob_X11_drawn rfl rfl rfl
theorem dX11_drawn_39 : dc cX11_drawn 39 42 (.invokevirtual 209) 3 := o_182 ob_X11_drawn rfl rfl rfl rfl
theorem dX11_drawn_42 : dc cX11_drawn 42 43 (.aload_n 0) 1 := o_42 ob_X11_drawn rfl rfl rfl
theorem dX11_drawn_43 : dc cX11_drawn 43 45 (.iload 5) 2 := o_21 ob_X11_drawn rfl rfl rfl rfl
theorem dX11_drawn_45 : dc cX11_drawn 45 46 (.iconst 3) 1 := o_6 ob_X11_drawn rfl rfl rfl
theorem dX11_drawn_46 : dc cX11_drawn 46 49 (.invokevirtual 150) 3 := o_182 ob_X11_drawn rfl rfl rfl rfl
theorem dX11_drawn_49 : dc cX11_drawn 49 50 (.aload_n 0) 1 := o_42 ob_X11_drawn rfl rfl rfl
theorem dX11_drawn_50 : dc cX11_drawn 50 53 (.getfield 60) 3 := o_180 ob_X11_drawn rfl rfl rfl rfl
theorem dX11_drawn_53 : dc cX11_drawn 53 54 (.iload_n 1) 1 := o_27 ob_X11_drawn rfl rfl rfl
theorem dX11_drawn_54 : dc cX11_drawn 54 55 (.iload_n 2) 1 := o_28 ob_X11_drawn rfl rfl rfl
theorem dX11_drawn_55 : dc cX11_drawn 55 56 (.iload_n 3) 1 := o_29 ob_X11_drawn rfl rfl rfl
theorem dX11_drawn_56 : dc cX11_drawn 56 58 (.iload 4) 2 := o_21 ob_X11_drawn rfl rfl rfl rfl
theorem dX11_drawn_58 : dc cX11_drawn 58 60 (.iload 5) 2 := o_21 ob_X11_drawn rfl rfl rfl rfl
theorem dX11_drawn_60 : dc cX11_drawn 60 63 (.invokevirtual 308) 3 := o_182 ob_X11_drawn rfl rfl rfl rfl
theorem dX11_drawn_63 : dc cX11_drawn 63 64 .ireturn 1 := o_172 ob_X11_drawn rfl rfl rfl
def F_KW_drawn_j42 (x1 : Int32) (x2 : Int32) (x3 : Int32) (x4 : Int32) (x5 : Int32) (M : Mem) : Option ((String ⊕ Int32) × Mem) :=
  xbind (F_KW_needWhat x5 3 M) fun _ M6 => (F_Walk_draw x1 x2 x3 x4 x5 M6).bind fun r7 => some ((.inr r7.1, r7.2))
def F_KW_drawn (x1 : Int32) (x2 : Int32) (x3 : Int32) (x4 : Int32) (x5 : Int32) (M : Mem) : Option ((String ⊕ Int32) × Mem) :=
  xbind (F_KW_needWay x1 M) fun _ M1 => xbind (F_KW_needWay x2 M1) fun _ M2 => xbind (F_KW_needNumber x3 0 100 M2) fun _ M3 => xbind (F_KW_needFree x1 M3) fun _ M4 => xbind (F_KW_needFree x2 M4) fun _ M5 => if (M5.1 1 3) ≤ 0 then F_KW_drawn_j42 x1 x2 x3 x4 x5 M5 else xbind (F_KW_needTwoActs M5) fun _ M8 => F_KW_drawn_j42 x1 x2 x3 x4 x5 M8
set_option maxRecDepth 100000 in
set_option maxHeartbeats 4000000 in
theorem K_KW_drawn (l : Launch) (g : GB) (htr : l.stackTraces = false) (x1 : Int32) (x2 : Int32) (x3 : Int32) (x4 : Int32) (x5 : Int32) (M : Mem) (rr : String ⊕ Int32) (MZ : Mem) (h : F_KW_drawn x1 x2 x3 x4 x5 M = some (rr, MZ)) : CT l g yX11_drawn (.code yX11_drawn cX11_drawn 6 (some .int) :: wAll) { frames := 7, cells := 7, slots := 42, locals := 123 } [.ref (g.2.1 0), .int x1, .int x2, .int x3, .int x4, .int x5] M (rvI rr) MZ := by
  refine CT.of [(0, .ref (g.2.1 0)), (1, .int x1), (2, .int x2), (3, .int x3), (4, .int x4), (5, .int x5)] (by decide +kernel) (Nat.le_of_ble_eq_true rfl) rfl htr ?_
  intro p e s m args below meth c K hr ht
  skip
  obtain ⟨PHI, hPHI, h⟩ : ∃ PHI : (String ⊕ Int32) × Mem → Prop, (∀ a, PHI a → a = (rr, MZ)) ∧ wpO (F_KW_drawn x1 x2 x3 x4 x5 M) PHI := ⟨fun a => a = (rr, MZ), fun _ h => h, _, h, rfl⟩
  have J42 : ∀ (x1 : Int32) (x2 : Int32) (x3 : Int32) (x4 : Int32) (x5 : Int32) (M : Mem), wpO (F_KW_drawn_j42 x1 x2 x3 x4 x5 M) PHI → GG p l e { frames := 7, cells := 7, slots := 42, locals := 123 } s m args below meth c g 6 (vx_MQ below (Qn g s.heap.size (rvI rr) MZ) (QX g s.heap.size (rvI rr) MZ) args s 7 42 (AS g s.heap.size)) 6 36 42 [(0, .ref (g.2.1 0)), (1, .int x1), (2, .int x2), (3, .int x3), (4, .int x4), (5, .int x5)] [] M := by
    intro x1 x2 x3 x4 x5 M h
    unfold F_KW_drawn_j42 at h
    refine G_aload_n rfl 0 rfl K dX11_drawn_42 ?_
    refine G_iload 5 rfl K dX11_drawn_43 ?_
    refine G_iconst (v := 3) rfl K dX11_drawn_45 ?_
    obtain ⟨E6, M6, e6, h⟩ | ⟨r6, M6, e6, h⟩ := wpO_x h
    · cases hPHI _ h
      exact G_callXVt (ci := 11) [.int x5, .int 3] [] K dX11_drawn_46 wv_904 yd_X11_needWhat (Nat.le_of_ble_eq_true rfl) (sh_0 _ _) rfl (by decide) (by decide) rfl rfl (Nat.le_of_ble_eq_true rfl) (K_KW_needWhat l g htr x5 3 M _ _ e6) (GX_out K ht (Nat.le_of_ble_eq_true rfl) (Nat.le_of_ble_eq_true rfl) ⟨rfl, rfl⟩)
    refine G_callXVv (ci := 11) [.int x5, .int 3] [] K dX11_drawn_46 wv_904 yd_X11_needWhat (Nat.le_of_ble_eq_true rfl) (sh_0 _ _) rfl (by decide) (by decide) rfl rfl (Nat.le_of_ble_eq_true rfl) (K_KW_needWhat l g htr x5 3 M _ _ e6) ?_
    refine G_aload_n rfl 0 rfl K dX11_drawn_49 ?_
    refine G_get (ci := 11) (k := 8) K rfl in_X11 wd_410 rfl dX11_drawn_50 (Nat.le_of_ble_eq_true rfl) (sh_0 _ _) (Nat.le_of_ble_eq_true rfl) rfl ?_
    refine G_iload_n rfl 1 rfl K dX11_drawn_53 ?_
    refine G_iload_n rfl 2 rfl K dX11_drawn_54 ?_
    refine G_iload_n rfl 3 rfl K dX11_drawn_55 ?_
    refine G_iload 4 rfl K dX11_drawn_56 ?_
    refine G_iload 5 rfl K dX11_drawn_58 ?_
    obtain ⟨r7, e7, h⟩ := wpO_bind h
    refine G_callVi (ci := 9) [.int x1, .int x2, .int x3, .int x4, .int x5] [] K dX11_drawn_60 wv_1282 yd_X9_draw (Nat.le_of_ble_eq_true rfl) (sh_79 _ _) rfl (by decide) (by decide) rfl rfl (Nat.le_of_ble_eq_true rfl) (K_Walk_draw l g htr x1 x2 x3 x4 x5 M6 _ _ e7) ?_
    cases hPHI _ (wpO_some h)
    exact G_iret K hr rfl dX11_drawn_63 (Nat.le_of_ble_eq_true rfl) (Nat.le_of_ble_eq_true rfl) ⟨rfl, rfl⟩
  unfold F_KW_drawn at h
  refine G_aload_n rfl 0 rfl K dX11_drawn_0 ?_
  refine G_iload_n rfl 1 rfl K dX11_drawn_1 ?_
  obtain ⟨E1, M1, e1, h⟩ | ⟨r1, M1, e1, h⟩ := wpO_x h
  · cases hPHI _ h
    exact G_callXVt (ci := 11) [.int x1] [] K dX11_drawn_2 wv_898 yd_X11_needWay (Nat.le_of_ble_eq_true rfl) (sh_0 _ _) rfl (by decide) (by decide) rfl rfl (Nat.le_of_ble_eq_true rfl) (K_KW_needWay l g htr x1 M _ _ e1) (GX_out K ht (Nat.le_of_ble_eq_true rfl) (Nat.le_of_ble_eq_true rfl) ⟨rfl, rfl⟩)
  refine G_callXVv (ci := 11) [.int x1] [] K dX11_drawn_2 wv_898 yd_X11_needWay (Nat.le_of_ble_eq_true rfl) (sh_0 _ _) rfl (by decide) (by decide) rfl rfl (Nat.le_of_ble_eq_true rfl) (K_KW_needWay l g htr x1 M _ _ e1) ?_
  refine G_aload_n rfl 0 rfl K dX11_drawn_5 ?_
  refine G_iload_n rfl 2 rfl K dX11_drawn_6 ?_
  obtain ⟨E2, M2, e2, h⟩ | ⟨r2, M2, e2, h⟩ := wpO_x h
  · cases hPHI _ h
    exact G_callXVt (ci := 11) [.int x2] [] K dX11_drawn_7 wv_898 yd_X11_needWay (Nat.le_of_ble_eq_true rfl) (sh_0 _ _) rfl (by decide) (by decide) rfl rfl (Nat.le_of_ble_eq_true rfl) (K_KW_needWay l g htr x2 M1 _ _ e2) (GX_out K ht (Nat.le_of_ble_eq_true rfl) (Nat.le_of_ble_eq_true rfl) ⟨rfl, rfl⟩)
  refine G_callXVv (ci := 11) [.int x2] [] K dX11_drawn_7 wv_898 yd_X11_needWay (Nat.le_of_ble_eq_true rfl) (sh_0 _ _) rfl (by decide) (by decide) rfl rfl (Nat.le_of_ble_eq_true rfl) (K_KW_needWay l g htr x2 M1 _ _ e2) ?_
  refine G_aload_n rfl 0 rfl K dX11_drawn_10 ?_
  refine G_iload_n rfl 3 rfl K dX11_drawn_11 ?_
  refine G_iconst (v := 0) rfl K dX11_drawn_12 ?_
  refine G_bipush (v := 100) rfl K dX11_drawn_13 ?_
  obtain ⟨E3, M3, e3, h⟩ | ⟨r3, M3, e3, h⟩ := wpO_x h
  · cases hPHI _ h
    exact G_callXVt (ci := 11) [.int x3, .int 0, .int 100] [] K dX11_drawn_15 wv_654 yd_X11_needNumber (Nat.le_of_ble_eq_true rfl) (sh_0 _ _) rfl (by decide) (by decide) rfl rfl (Nat.le_of_ble_eq_true rfl) (K_KW_needNumber l g htr x3 0 100 M2 _ _ e3) (GX_out K ht (Nat.le_of_ble_eq_true rfl) (Nat.le_of_ble_eq_true rfl) ⟨rfl, rfl⟩)
  refine G_callXVv (ci := 11) [.int x3, .int 0, .int 100] [] K dX11_drawn_15 wv_654 yd_X11_needNumber (Nat.le_of_ble_eq_true rfl) (sh_0 _ _) rfl (by decide) (by decide) rfl rfl (Nat.le_of_ble_eq_true rfl) (K_KW_needNumber l g htr x3 0 100 M2 _ _ e3) ?_
  refine G_aload_n rfl 0 rfl K dX11_drawn_18 ?_
  refine G_iload_n rfl 1 rfl K dX11_drawn_19 ?_
  obtain ⟨E4, M4, e4, h⟩ | ⟨r4, M4, e4, h⟩ := wpO_x h
  · cases hPHI _ h
    exact G_callXVt (ci := 11) [.int x1] [] K dX11_drawn_20 wv_941 yd_X11_needFree (Nat.le_of_ble_eq_true rfl) (sh_0 _ _) rfl (by decide) (by decide) rfl rfl (Nat.le_of_ble_eq_true rfl) (K_KW_needFree l g htr x1 M3 _ _ e4) (GX_out K ht (Nat.le_of_ble_eq_true rfl) (Nat.le_of_ble_eq_true rfl) ⟨rfl, rfl⟩)
  refine G_callXVv (ci := 11) [.int x1] [] K dX11_drawn_20 wv_941 yd_X11_needFree (Nat.le_of_ble_eq_true rfl) (sh_0 _ _) rfl (by decide) (by decide) rfl rfl (Nat.le_of_ble_eq_true rfl) (K_KW_needFree l g htr x1 M3 _ _ e4) ?_
  refine G_aload_n rfl 0 rfl K dX11_drawn_23 ?_
  refine G_iload_n rfl 2 rfl K dX11_drawn_24 ?_
  obtain ⟨E5, M5, e5, h⟩ | ⟨r5, M5, e5, h⟩ := wpO_x h
  · cases hPHI _ h
    exact G_callXVt (ci := 11) [.int x2] [] K dX11_drawn_25 wv_941 yd_X11_needFree (Nat.le_of_ble_eq_true rfl) (sh_0 _ _) rfl (by decide) (by decide) rfl rfl (Nat.le_of_ble_eq_true rfl) (K_KW_needFree l g htr x2 M4 _ _ e5) (GX_out K ht (Nat.le_of_ble_eq_true rfl) (Nat.le_of_ble_eq_true rfl) ⟨rfl, rfl⟩)
  refine G_callXVv (ci := 11) [.int x2] [] K dX11_drawn_25 wv_941 yd_X11_needFree (Nat.le_of_ble_eq_true rfl) (sh_0 _ _) rfl (by decide) (by decide) rfl rfl (Nat.le_of_ble_eq_true rfl) (K_KW_needFree l g htr x2 M4 _ _ e5) ?_
  refine G_aload_n rfl 0 rfl K dX11_drawn_28 ?_
  refine G_get (ci := 11) (k := 0) K rfl in_X11 wd_402 rfl dX11_drawn_29 (Nat.le_of_ble_eq_true rfl) (sh_0 _ _) (Nat.le_of_ble_eq_true rfl) rfl ?_
  refine G_get (ci := 10) (k := 3) K rfl in_X10 wd_76 rfl dX11_drawn_32 (Nat.le_of_ble_eq_true rfl) (sh_1 _ _) (Nat.le_of_ble_eq_true rfl) rfl ?_
  refine G_if_le (tgt := 42) K dX11_drawn_35 (by decide) (fun hc => ?_) (fun hc => ?_)
  · have h := wpO_t h hc
    exact G_wide (k := 6) (n := 36) (by decide) (by decide) (J42 x1 x2 x3 x4 x5 M5 h)
  · have h := wpO_f h hc
    refine G_aload_n rfl 0 rfl K dX11_drawn_38 ?_
    obtain ⟨E8, M8, e8, h⟩ | ⟨r8, M8, e8, h⟩ := wpO_x h
    · cases hPHI _ h
      exact G_callXVt (ci := 11) [] [] K dX11_drawn_39 wv_1193 yd_X11_needTwoActs (Nat.le_of_ble_eq_true rfl) (sh_0 _ _) rfl (by decide) (by decide) rfl rfl (Nat.le_of_ble_eq_true rfl) (K_KW_needTwoActs l g htr  M5 _ _ e8) (GX_out K ht (Nat.le_of_ble_eq_true rfl) (Nat.le_of_ble_eq_true rfl) ⟨rfl, rfl⟩)
    refine G_callXVv (ci := 11) [] [] K dX11_drawn_39 wv_1193 yd_X11_needTwoActs (Nat.le_of_ble_eq_true rfl) (sh_0 _ _) rfl (by decide) (by decide) rfl rfl (Nat.le_of_ble_eq_true rfl) (K_KW_needTwoActs l g htr  M5 _ _ e8) ?_
    exact J42 x1 x2 x3 x4 x5 M8 h
theorem wv_1298 : wdV "KeptWell" 315 yX7_put cX7_put 4 none := ⟨wd_1298, wd_452, wd_453, wd_3, wd_454⟩
def on_X11_field : Nat := 0xb13b01b6851c1b3801b40a00b42a6200b6e80311031c2a8b00b61b2a
theorem ob_X11_field : OKB cX11_field on_X11_field 28 := ⟨by decide +kernel, by decide +kernel⟩
theorem dX11_field_0 : dc cX11_field 0 1 (.aload_n 0) 1 := o_42 ob_X11_field rfl rfl rfl
theorem dX11_field_1 : dc cX11_field 1 2 (.iload_n 1) 1 := o_27 ob_X11_field rfl rfl rfl
theorem dX11_field_2 : dc cX11_field 2 5 (.invokevirtual 139) 3 := o_182 ob_X11_field rfl rfl rfl rfl
theorem dX11_field_5 : dc cX11_field 5 6 (.aload_n 0) 1 := o_42 ob_X11_field rfl rfl rfl
theorem dX11_field_6 : dc cX11_field 6 7 (.iload_n 2) 1 := o_28 ob_X11_field rfl rfl rfl
theorem dX11_field_7 : dc cX11_field 7 8 (.iconst 0) 1 := o_3 ob_X11_field rfl rfl rfl
theorem dX11_field_8 : dc cX11_field 8 11 (.sipush 1000) 3 := o_17 ob_X11_field rfl rfl rfl rfl
theorem dX11_field_11 : dc cX11_field 11 14 (.invokevirtual 98) 3 := o_182 ob_X11_field rfl rfl rfl rfl
theorem dX11_field_14 : dc cX11_field 14 15 (.aload_n 0) 1 := o_42 ob_X11_field rfl rfl rfl
theorem dX11_field_15 : dc cX11_field 15 18 (.getfield 10) 3 := o_180 ob_X11_field rfl rfl rfl rfl
theorem dX11_field_18 : dc cX11_field 18 21 (.getfield 312) 3 := o_180 ob_X11_field rfl rfl rfl rfl
theorem dX11_field_21 : dc cX11_field 21 22 (.iload_n 1) 1 := o_27 ob_X11_field rfl rfl rfl
theorem dX11_field_22 : dc cX11_field 22 23 (.iload_n 2) 1 := o_28 ob_X11_field rfl rfl rfl
theorem dX11_field_23 : dc cX11_field 23 24 .i2l 1 := o_133 ob_X11_field rfl rfl rfl
theorem dX11_field_24 : dc cX11_field 24 27 (.invokevirtual 315) 3 := o_182 ob_X11_field rfl rfl rfl rfl
theorem dX11_field_27 : dc cX11_field 27 28 .return_ 1 := o_177 ob_X11_field rfl rfl rfl
def F_KW_field (x1 : Int32) (x2 : Int32) (M : Mem) : Option ((String ⊕ Unit) × Mem) :=
  xbind (F_KW_needWay x1 M) fun _ M1 => xbind (F_KW_needNumber x2 0 1000 M1) fun _ M2 => (F_Row_put 9 8 x1 x2.toInt64 M2).bind fun r3 => some ((.inr (), r3))
set_option maxRecDepth 100000 in
set_option maxHeartbeats 4000000 in
theorem K_KW_field (l : Launch) (g : GB) (htr : l.stackTraces = false) (x1 : Int32) (x2 : Int32) (M : Mem) (rr : String ⊕ Unit) (MZ : Mem) (h : F_KW_field x1 x2 M = some (rr, MZ)) : CT l g yX11_field (.code yX11_field cX11_field 3 none :: wAll) { frames := 7, cells := 2, slots := 12, locals := 123 } [.ref (g.2.1 0), .int x1, .int x2] M (rvU rr) MZ := by
  refine CT.of [(0, .ref (g.2.1 0)), (1, .int x1), (2, .int x2)] (by decide +kernel) (Nat.le_of_ble_eq_true rfl) rfl htr ?_
  intro p e s m args below meth c K hr ht
  skip
  obtain ⟨PHI, hPHI, h⟩ : ∃ PHI : (String ⊕ Unit) × Mem → Prop, (∀ a, PHI a → a = (rr, MZ)) ∧ wpO (F_KW_field x1 x2 M) PHI := ⟨fun a => a = (rr, MZ), fun _ h => h, _, h, rfl⟩
  unfold F_KW_field at h
  refine G_aload_n rfl 0 rfl K dX11_field_0 ?_
  refine G_iload_n rfl 1 rfl K dX11_field_1 ?_
  obtain ⟨E1, M1, e1, h⟩ | ⟨r1, M1, e1, h⟩ := wpO_x h
  · cases hPHI _ h
    exact G_callXVt (ci := 11) [.int x1] [] K dX11_field_2 wv_898 yd_X11_needWay (Nat.le_of_ble_eq_true rfl) (sh_0 _ _) rfl (by decide) (by decide) rfl rfl (Nat.le_of_ble_eq_true rfl) (K_KW_needWay l g htr x1 M _ _ e1) (GX_out K ht (Nat.le_of_ble_eq_true rfl) (Nat.le_of_ble_eq_true rfl) ⟨rfl, rfl⟩)
  refine G_callXVv (ci := 11) [.int x1] [] K dX11_field_2 wv_898 yd_X11_needWay (Nat.le_of_ble_eq_true rfl) (sh_0 _ _) rfl (by decide) (by decide) rfl rfl (Nat.le_of_ble_eq_true rfl) (K_KW_needWay l g htr x1 M _ _ e1) ?_
  refine G_aload_n rfl 0 rfl K dX11_field_5 ?_
  refine G_iload_n rfl 2 rfl K dX11_field_6 ?_
  refine G_iconst (v := 0) rfl K dX11_field_7 ?_
  refine G_sipush (v := 1000) rfl K dX11_field_8 ?_
  obtain ⟨E2, M2, e2, h⟩ | ⟨r2, M2, e2, h⟩ := wpO_x h
  · cases hPHI _ h
    exact G_callXVt (ci := 11) [.int x2, .int 0, .int 1000] [] K dX11_field_11 wv_654 yd_X11_needNumber (Nat.le_of_ble_eq_true rfl) (sh_0 _ _) rfl (by decide) (by decide) rfl rfl (Nat.le_of_ble_eq_true rfl) (K_KW_needNumber l g htr x2 0 1000 M1 _ _ e2) (GX_out K ht (Nat.le_of_ble_eq_true rfl) (Nat.le_of_ble_eq_true rfl) ⟨rfl, rfl⟩)
  refine G_callXVv (ci := 11) [.int x2, .int 0, .int 1000] [] K dX11_field_11 wv_654 yd_X11_needNumber (Nat.le_of_ble_eq_true rfl) (sh_0 _ _) rfl (by decide) (by decide) rfl rfl (Nat.le_of_ble_eq_true rfl) (K_KW_needNumber l g htr x2 0 1000 M1 _ _ e2) ?_
  refine G_aload_n rfl 0 rfl K dX11_field_14 ?_
  refine G_get (ci := 11) (k := 0) K rfl in_X11 wd_402 rfl dX11_field_15 (Nat.le_of_ble_eq_true rfl) (sh_0 _ _) (Nat.le_of_ble_eq_true rfl) rfl ?_
  refine G_get (ci := 10) (k := 12) K rfl in_X10 wd_101 rfl dX11_field_18 (Nat.le_of_ble_eq_true rfl) (sh_1 _ _) (Nat.le_of_ble_eq_true rfl) rfl ?_
  refine G_iload_n rfl 1 rfl K dX11_field_21 ?_
  refine G_iload_n rfl 2 rfl K dX11_field_22 ?_
  refine G_i2l K dX11_field_23 ?_
  obtain ⟨r3, e3, h⟩ := wpO_bind h
  refine G_callVv (ci := 7) [.int x1, .long x2.toInt64] [] K dX11_field_24 wv_1298 yd_X7_put (Nat.le_of_ble_eq_true rfl) (sh_8 _ _) rfl (by decide) (by decide) rfl rfl (Nat.le_of_ble_eq_true rfl) (K_Row_put l g htr 8 9 8 isRow_8 x1 x2.toInt64 M2 _ e3) ?_
  cases hPHI _ (wpO_some h)
  exact G_vret K hr dX11_field_27 (Nat.le_of_ble_eq_true rfl) (Nat.le_of_ble_eq_true rfl) ⟨rfl, rfl⟩
def on_X11_rounds : Nat := 0xb13f01b51b0a00b42a6200b61e10041b2a
theorem ob_X11_rounds : OKB cX11_rounds on_X11_rounds 17 := ⟨by decide +kernel, by decide +kernel⟩
theorem dX11_rounds_0 : dc cX11_rounds 0 1 (.aload_n 0) 1 := o_42 ob_X11_rounds rfl rfl rfl
theorem dX11_rounds_1 : dc cX11_rounds 1 2 (.iload_n 1) 1 := o_27 ob_X11_rounds rfl rfl rfl
theorem dX11_rounds_2 : dc cX11_rounds 2 3 (.iconst 1) 1 := o_4 ob_X11_rounds rfl rfl rfl
theorem dX11_rounds_3 : dc cX11_rounds 3 5 (.bipush 30) 2 := o_16 ob_X11_rounds rfl rfl rfl rfl
theorem dX11_rounds_5 : dc cX11_rounds 5 8 (.invokevirtual 98) 3 := o_182 ob_X11_rounds rfl rfl rfl rfl
theorem dX11_rounds_8 : dc cX11_rounds 8 9 (.aload_n 0) 1 := o_42 ob_X11_rounds rfl rfl rfl
theorem dX11_rounds_9 : dc cX11_rounds 9 12 (.getfield 10) 3 := o_180 ob_X11_rounds rfl rfl rfl rfl
theorem dX11_rounds_12 : dc cX11_rounds 12 13 (.iload_n 1) 1 := o_27 ob_X11_rounds rfl rfl rfl
theorem dX11_rounds_13 : dc cX11_rounds 13 16 (.putfield 319) 3 := o_181 ob_X11_rounds rfl rfl rfl rfl
theorem dX11_rounds_16 : dc cX11_rounds 16 17 .return_ 1 := o_177 ob_X11_rounds rfl rfl rfl
def F_KW_rounds (x1 : Int32) (M : Mem) : Option ((String ⊕ Unit) × Mem) :=
  xbind (F_KW_needNumber x1 1 30 M) fun _ M1 => some ((.inr (), mSI M1 1 5 x1))
set_option maxRecDepth 100000 in
set_option maxHeartbeats 4000000 in
theorem K_KW_rounds (l : Launch) (g : GB) (htr : l.stackTraces = false) (x1 : Int32) (M : Mem) (rr : String ⊕ Unit) (MZ : Mem) (h : F_KW_rounds x1 M = some (rr, MZ)) : CT l g yX11_rounds (.code yX11_rounds cX11_rounds 2 none :: wAll) { frames := 7, cells := 1, slots := 6, locals := 123 } [.ref (g.2.1 0), .int x1] M (rvU rr) MZ := by
  refine CT.of [(0, .ref (g.2.1 0)), (1, .int x1)] (by decide +kernel) (Nat.le_of_ble_eq_true rfl) rfl htr ?_
  intro p e s m args below meth c K hr ht
  skip
  obtain ⟨PHI, hPHI, h⟩ : ∃ PHI : (String ⊕ Unit) × Mem → Prop, (∀ a, PHI a → a = (rr, MZ)) ∧ wpO (F_KW_rounds x1 M) PHI := ⟨fun a => a = (rr, MZ), fun _ h => h, _, h, rfl⟩
  unfold F_KW_rounds at h
  refine G_aload_n rfl 0 rfl K dX11_rounds_0 ?_
  refine G_iload_n rfl 1 rfl K dX11_rounds_1 ?_
  refine G_iconst (v := 1) rfl K dX11_rounds_2 ?_
  refine G_bipush (v := 30) rfl K dX11_rounds_3 ?_
  obtain ⟨E1, M1, e1, h⟩ | ⟨r1, M1, e1, h⟩ := wpO_x h
  · cases hPHI _ h
    exact G_callXVt (ci := 11) [.int x1, .int 1, .int 30] [] K dX11_rounds_5 wv_654 yd_X11_needNumber (Nat.le_of_ble_eq_true rfl) (sh_0 _ _) rfl (by decide) (by decide) rfl rfl (Nat.le_of_ble_eq_true rfl) (K_KW_needNumber l g htr x1 1 30 M _ _ e1) (GX_out K ht (Nat.le_of_ble_eq_true rfl) (Nat.le_of_ble_eq_true rfl) ⟨rfl, rfl⟩)
  refine G_callXVv (ci := 11) [.int x1, .int 1, .int 30] [] K dX11_rounds_5 wv_654 yd_X11_needNumber (Nat.le_of_ble_eq_true rfl) (sh_0 _ _) rfl (by decide) (by decide) rfl rfl (Nat.le_of_ble_eq_true rfl) (K_KW_needNumber l g htr x1 1 30 M _ _ e1) ?_
  refine G_aload_n rfl 0 rfl K dX11_rounds_8 ?_
  refine G_get (ci := 11) (k := 0) K rfl in_X11 wd_402 rfl dX11_rounds_9 (Nat.le_of_ble_eq_true rfl) (sh_0 _ _) (Nat.le_of_ble_eq_true rfl) rfl ?_
  refine G_iload_n rfl 1 rfl K dX11_rounds_12 ?_
  refine G_putI (ci := 10) (k := 5) (ty := .int) K rfl in_X10 tyX10 tyX10_ok nmX10 wd_83 rfl rfl rfl rfl rfl dX11_rounds_13 (Nat.le_of_ble_eq_true rfl) (sh_1 _ _) (sh_1 _ _) (Nat.le_of_ble_eq_true rfl) (Nat.le_of_ble_eq_true rfl) rfl ?_
  cases hPHI _ (wpO_some h)
  exact G_vret K hr dX11_rounds_16 (Nat.le_of_ble_eq_true rfl) (Nat.le_of_ble_eq_true rfl) ⟨rfl, rfl⟩
theorem wv_1313 : wdV "KeptWell" 322 yX9_gotInRounds cX9_gotInRounds 7 (some .int) := ⟨wd_1313, wd_1314, wd_1315, wd_10, wd_1316⟩
def on_X11_meet : Nat := 0xac4201b61c1b3c00b42ab700b61c1b2a
theorem ob_X11_meet : OKB cX11_meet on_X11_meet 16 := ⟨by decide +kernel, by decide +kernel⟩
theorem dX11_meet_0 : dc cX11_meet 0 1 (.aload_n 0) 1 := o_42 ob_X11_meet rfl rfl rfl
theorem dX11_meet_1 : dc cX11_meet 1 2 (.iload_n 1) 1 := o_27 ob_X11_meet rfl rfl rfl
theorem dX11_meet_2 : dc cX11_meet 2 3 (.iload_n 2) 1 := o_28 ob_X11_meet rfl rfl rfl
theorem dX11_meet_3 : dc cX11_meet 3 6 (.invokevirtual 183) 3 := o_182 ob_X11_meet rfl rfl rfl rfl
theorem dX11_meet_6 : dc cX11_meet 6 7 (.aload_n 0) 1 := o_42 ob_X11_meet rfl rfl rfl
theorem dX11_meet_7 : dc cX11_meet 7 10 (.getfield 60) 3 := o_180 ob_X11_meet rfl rfl rfl rfl
theorem dX11_meet_10 : dc cX11_meet 10 11 (.iload_n 1) 1 := o_27 ob_X11_meet rfl rfl rfl
theorem dX11_meet_11 : dc cX11_meet 11 12 (.iload_n 2) 1 := o_28 ob_X11_meet rfl rfl rfl
theorem dX11_meet_12 : dc cX11_meet 12 15 (.invokevirtual 322) 3 := o_182 ob_X11_meet rfl rfl rfl rfl
theorem dX11_meet_15 : dc cX11_meet 15 16 .ireturn 1 := o_172 ob_X11_meet rfl rfl rfl
def F_KW_meet (x1 : Int32) (x2 : Int32) (M : Mem) : Option ((String ⊕ Int32) × Mem) :=
  xbind (F_KW_needPair x1 x2 M) fun _ M1 => (F_Walk_gotInRounds x1 x2 M1).bind fun r2 => some ((.inr r2.1, r2.2))
set_option maxRecDepth 100000 in
set_option maxHeartbeats 4000000 in
theorem K_KW_meet (l : Launch) (g : GB) (htr : l.stackTraces = false) (x1 : Int32) (x2 : Int32) (M : Mem) (rr : String ⊕ Int32) (MZ : Mem) (h : F_KW_meet x1 x2 M = some (rr, MZ)) : CT l g yX11_meet (.code yX11_meet cX11_meet 3 (some .int) :: wAll) { frames := 8, cells := 4, slots := 24, locals := 143 } [.ref (g.2.1 0), .int x1, .int x2] M (rvI rr) MZ := by
  refine CT.of [(0, .ref (g.2.1 0)), (1, .int x1), (2, .int x2)] (by decide +kernel) (Nat.le_of_ble_eq_true rfl) rfl htr ?_
  intro p e s m args below meth c K hr ht
  skip
  obtain ⟨PHI, hPHI, h⟩ : ∃ PHI : (String ⊕ Int32) × Mem → Prop, (∀ a, PHI a → a = (rr, MZ)) ∧ wpO (F_KW_meet x1 x2 M) PHI := ⟨fun a => a = (rr, MZ), fun _ h => h, _, h, rfl⟩
  unfold F_KW_meet at h
  refine G_aload_n rfl 0 rfl K dX11_meet_0 ?_
  refine G_iload_n rfl 1 rfl K dX11_meet_1 ?_
  refine G_iload_n rfl 2 rfl K dX11_meet_2 ?_
  obtain ⟨E1, M1, e1, h⟩ | ⟨r1, M1, e1, h⟩ := wpO_x h
  · cases hPHI _ h
    exact G_callXVt (ci := 11) [.int x1, .int x2] [] K dX11_meet_3 wv_990 yd_X11_needPair (Nat.le_of_ble_eq_true rfl) (sh_0 _ _) rfl (by decide) (by decide) rfl rfl (Nat.le_of_ble_eq_true rfl) (K_KW_needPair l g htr x1 x2 M _ _ e1) (GX_out K ht (Nat.le_of_ble_eq_true rfl) (Nat.le_of_ble_eq_true rfl) ⟨rfl, rfl⟩)
  refine G_callXVv (ci := 11) [.int x1, .int x2] [] K dX11_meet_3 wv_990 yd_X11_needPair (Nat.le_of_ble_eq_true rfl) (sh_0 _ _) rfl (by decide) (by decide) rfl rfl (Nat.le_of_ble_eq_true rfl) (K_KW_needPair l g htr x1 x2 M _ _ e1) ?_
  refine G_aload_n rfl 0 rfl K dX11_meet_6 ?_
  refine G_get (ci := 11) (k := 8) K rfl in_X11 wd_410 rfl dX11_meet_7 (Nat.le_of_ble_eq_true rfl) (sh_0 _ _) (Nat.le_of_ble_eq_true rfl) rfl ?_
  refine G_iload_n rfl 1 rfl K dX11_meet_10 ?_
  refine G_iload_n rfl 2 rfl K dX11_meet_11 ?_
  obtain ⟨r2, e2, h⟩ := wpO_bind h
  refine G_callVi (ci := 9) [.int x1, .int x2] [] K dX11_meet_12 wv_1313 yd_X9_gotInRounds (Nat.le_of_ble_eq_true rfl) (sh_79 _ _) rfl (by decide) (by decide) rfl rfl (Nat.le_of_ble_eq_true rfl) (K_Walk_gotInRounds l g htr x1 x2 M1 _ _ e2) ?_
  cases hPHI _ (wpO_some h)
  exact G_iret K hr rfl dX11_meet_15 (Nat.le_of_ble_eq_true rfl) (Nat.le_of_ble_eq_true rfl) ⟨rfl, rfl⟩
theorem yd_X3_growSteps : ydN yX3_growSteps 1 := ⟨by decide, by decide, by decide +kernel⟩
theorem wv_1324 : wdV "KeptWell" 325 yX3_growSteps cX3_growSteps 4 (some .int) := ⟨wd_1324, wd_1325, wd_1326, wd_11, wd_1327⟩
def on_X11_grow : Nat := 0xac4501b61b4500b42a6200b63210031b2a
theorem ob_X11_grow : OKB cX11_grow on_X11_grow 17 := ⟨by decide +kernel, by decide +kernel⟩
theorem dX11_grow_0 : dc cX11_grow 0 1 (.aload_n 0) 1 := o_42 ob_X11_grow rfl rfl rfl
theorem dX11_grow_1 : dc cX11_grow 1 2 (.iload_n 1) 1 := o_27 ob_X11_grow rfl rfl rfl
theorem dX11_grow_2 : dc cX11_grow 2 3 (.iconst 0) 1 := o_3 ob_X11_grow rfl rfl rfl
theorem dX11_grow_3 : dc cX11_grow 3 5 (.bipush 50) 2 := o_16 ob_X11_grow rfl rfl rfl rfl
theorem dX11_grow_5 : dc cX11_grow 5 8 (.invokevirtual 98) 3 := o_182 ob_X11_grow rfl rfl rfl rfl
theorem dX11_grow_8 : dc cX11_grow 8 9 (.aload_n 0) 1 := o_42 ob_X11_grow rfl rfl rfl
theorem dX11_grow_9 : dc cX11_grow 9 12 (.getfield 69) 3 := o_180 ob_X11_grow rfl rfl rfl rfl
theorem dX11_grow_12 : dc cX11_grow 12 13 (.iload_n 1) 1 := o_27 ob_X11_grow rfl rfl rfl
theorem dX11_grow_13 : dc cX11_grow 13 16 (.invokevirtual 325) 3 := o_182 ob_X11_grow rfl rfl rfl rfl
theorem dX11_grow_16 : dc cX11_grow 16 17 .ireturn 1 := o_172 ob_X11_grow rfl rfl rfl
def F_KW_grow (x1 : Int32) (M : Mem) : Option ((String ⊕ Int32) × Mem) :=
  xbind (F_KW_needNumber x1 0 50 M) fun _ M1 => (F_Crowd_growSteps x1 M1).bind fun r2 => some ((.inr r2.1, r2.2))
set_option maxRecDepth 100000 in
set_option maxHeartbeats 4000000 in
theorem K_KW_grow (l : Launch) (g : GB) (htr : l.stackTraces = false) (x1 : Int32) (M : Mem) (rr : String ⊕ Int32) (MZ : Mem) (h : F_KW_grow x1 M = some (rr, MZ)) : CT l g yX11_grow (.code yX11_grow cX11_grow 2 (some .int) :: wAll) { frames := 7, cells := 1, slots := 6, locals := 138 } [.ref (g.2.1 0), .int x1] M (rvI rr) MZ := by
  refine CT.of [(0, .ref (g.2.1 0)), (1, .int x1)] (by decide +kernel) (Nat.le_of_ble_eq_true rfl) rfl htr ?_
  intro p e s m args below meth c K hr ht
  skip
  obtain ⟨PHI, hPHI, h⟩ : ∃ PHI : (String ⊕ Int32) × Mem → Prop, (∀ a, PHI a → a = (rr, MZ)) ∧ wpO (F_KW_grow x1 M) PHI := ⟨fun a => a = (rr, MZ), fun _ h => h, _, h, rfl⟩
  unfold F_KW_grow at h
  refine G_aload_n rfl 0 rfl K dX11_grow_0 ?_
  refine G_iload_n rfl 1 rfl K dX11_grow_1 ?_
  refine G_iconst (v := 0) rfl K dX11_grow_2 ?_
  refine G_bipush (v := 50) rfl K dX11_grow_3 ?_
  obtain ⟨E1, M1, e1, h⟩ | ⟨r1, M1, e1, h⟩ := wpO_x h
  · cases hPHI _ h
    exact G_callXVt (ci := 11) [.int x1, .int 0, .int 50] [] K dX11_grow_5 wv_654 yd_X11_needNumber (Nat.le_of_ble_eq_true rfl) (sh_0 _ _) rfl (by decide) (by decide) rfl rfl (Nat.le_of_ble_eq_true rfl) (K_KW_needNumber l g htr x1 0 50 M _ _ e1) (GX_out K ht (Nat.le_of_ble_eq_true rfl) (Nat.le_of_ble_eq_true rfl) ⟨rfl, rfl⟩)
  refine G_callXVv (ci := 11) [.int x1, .int 0, .int 50] [] K dX11_grow_5 wv_654 yd_X11_needNumber (Nat.le_of_ble_eq_true rfl) (sh_0 _ _) rfl (by decide) (by decide) rfl rfl (Nat.le_of_ble_eq_true rfl) (K_KW_needNumber l g htr x1 0 50 M _ _ e1) ?_
  refine G_aload_n rfl 0 rfl K dX11_grow_8 ?_
  refine G_get (ci := 11) (k := 9) K rfl in_X11 wd_411 rfl dX11_grow_9 (Nat.le_of_ble_eq_true rfl) (sh_0 _ _) (Nat.le_of_ble_eq_true rfl) rfl ?_
  refine G_iload_n rfl 1 rfl K dX11_grow_12 ?_
  obtain ⟨r2, e2, h⟩ := wpO_bind h
  refine G_callVi (ci := 3) [.int x1] [] K dX11_grow_13 wv_1324 yd_X3_growSteps (Nat.le_of_ble_eq_true rfl) (sh_80 _ _) rfl (by decide) (by decide) rfl rfl (Nat.le_of_ble_eq_true rfl) (K_Crowd_growSteps l g htr x1 M1 _ _ e2) ?_
  cases hPHI _ (wpO_some h)
  exact G_iret K hr rfl dX11_grow_16 (Nat.le_of_ble_eq_true rfl) (Nat.le_of_ble_eq_true rfl) ⟨rfl, rfl⟩
def on_X11_beings : Nat := 0xacf600b61b3801b40a00b42a8b00b61b2a
theorem ob_X11_beings : OKB cX11_beings on_X11_beings 17 := ⟨by decide +kernel, by decide +kernel⟩
theorem dX11_beings_0 : dc cX11_beings 0 1 (.aload_n 0) 1 := o_42 ob_X11_beings rfl rfl rfl
theorem dX11_beings_1 : dc cX11_beings 1 2 (.iload_n 1) 1 := o_27 ob_X11_beings rfl rfl rfl
theorem dX11_beings_2 : dc cX11_beings 2 5 (.invokevirtual 139) 3 := o_182 ob_X11_beings rfl rfl rfl rfl
theorem dX11_beings_5 : dc cX11_beings 5 6 (.aload_n 0) 1 := o_42 ob_X11_beings rfl rfl rfl
theorem dX11_beings_6 : dc cX11_beings 6 9 (.getfield 10) 3 := o_180 ob_X11_beings rfl rfl rfl rfl
theorem dX11_beings_9 : dc cX11_beings 9 12 (.getfield 312) 3 := o_180 ob_X11_beings rfl rfl rfl rfl
theorem dX11_beings_12 : dc cX11_beings 12 13 (.iload_n 1) 1 := o_27 ob_X11_beings rfl rfl rfl
theorem dX11_beings_13 : dc cX11_beings 13 16 (.invokevirtual 246) 3 := o_182 ob_X11_beings rfl rfl rfl rfl
theorem dX11_beings_16 : dc cX11_beings 16 17 .ireturn 1 := o_172 ob_X11_beings rfl rfl rfl
def F_KW_beings (x1 : Int32) (M : Mem) : Option ((String ⊕ Int32) × Mem) :=
  xbind (F_KW_needWay x1 M) fun _ M1 => (F_Row_small 9 8 x1 M1).bind fun r2 => some ((.inr r2, M1))
set_option maxRecDepth 100000 in
set_option maxHeartbeats 4000000 in
theorem K_KW_beings (l : Launch) (g : GB) (htr : l.stackTraces = false) (x1 : Int32) (M : Mem) (rr : String ⊕ Int32) (MZ : Mem) (h : F_KW_beings x1 M = some (rr, MZ)) : CT l g yX11_beings (.code yX11_beings cX11_beings 2 (some .int) :: wAll) { frames := 7, cells := 1, slots := 6, locals := 121 } [.ref (g.2.1 0), .int x1] M (rvI rr) MZ := by
  refine CT.of [(0, .ref (g.2.1 0)), (1, .int x1)] (by decide +kernel) (Nat.le_of_ble_eq_true rfl) rfl htr ?_
  intro p e s m args below meth c K hr ht
  skip
  obtain ⟨PHI, hPHI, h⟩ : ∃ PHI : (String ⊕ Int32) × Mem → Prop, (∀ a, PHI a → a = (rr, MZ)) ∧ wpO (F_KW_beings x1 M) PHI := ⟨fun a => a = (rr, MZ), fun _ h => h, _, h, rfl⟩
  unfold F_KW_beings at h
  refine G_aload_n rfl 0 rfl K dX11_beings_0 ?_
  refine G_iload_n rfl 1 rfl K dX11_beings_1 ?_
  obtain ⟨E1, M1, e1, h⟩ | ⟨r1, M1, e1, h⟩ := wpO_x h
  · cases hPHI _ h
    exact G_callXVt (ci := 11) [.int x1] [] K dX11_beings_2 wv_898 yd_X11_needWay (Nat.le_of_ble_eq_true rfl) (sh_0 _ _) rfl (by decide) (by decide) rfl rfl (Nat.le_of_ble_eq_true rfl) (K_KW_needWay l g htr x1 M _ _ e1) (GX_out K ht (Nat.le_of_ble_eq_true rfl) (Nat.le_of_ble_eq_true rfl) ⟨rfl, rfl⟩)
  refine G_callXVv (ci := 11) [.int x1] [] K dX11_beings_2 wv_898 yd_X11_needWay (Nat.le_of_ble_eq_true rfl) (sh_0 _ _) rfl (by decide) (by decide) rfl rfl (Nat.le_of_ble_eq_true rfl) (K_KW_needWay l g htr x1 M _ _ e1) ?_
  refine G_aload_n rfl 0 rfl K dX11_beings_5 ?_
  refine G_get (ci := 11) (k := 0) K rfl in_X11 wd_402 rfl dX11_beings_6 (Nat.le_of_ble_eq_true rfl) (sh_0 _ _) (Nat.le_of_ble_eq_true rfl) rfl ?_
  refine G_get (ci := 10) (k := 12) K rfl in_X10 wd_101 rfl dX11_beings_9 (Nat.le_of_ble_eq_true rfl) (sh_1 _ _) (Nat.le_of_ble_eq_true rfl) rfl ?_
  refine G_iload_n rfl 1 rfl K dX11_beings_12 ?_
  obtain ⟨r2, e2, h⟩ := wpO_bind h
  refine G_callVi (ci := 7) [.int x1] [] K dX11_beings_13 wv_615 yd_X7_small (Nat.le_of_ble_eq_true rfl) (sh_8 _ _) rfl (by decide) (by decide) rfl rfl (Nat.le_of_ble_eq_true rfl) (K_Row_small l g htr 8 9 8 isRow_8 x1 M1 _ e2) ?_
  cases hPHI _ (wpO_some h)
  exact G_iret K hr rfl dX11_beings_16 (Nat.le_of_ble_eq_true rfl) (Nat.le_of_ble_eq_true rfl) ⟨rfl, rfl⟩
theorem yd_X3_keepsOthersOut : ydN yX3_keepsOthersOut 1 := ⟨by decide, by decide, by decide +kernel⟩
theorem wv_1381 : wdV "KeptWell" 328 yX3_keepsOthersOut cX3_keepsOthersOut 3 (some .boolean) := ⟨wd_1381, wd_1382, wd_1383, wd_11, wd_1384⟩
def on_X11_stays : Nat := 0xac4801b61b4500b42aa800b61b2a8b00b61b2a
theorem ob_X11_stays : OKB cX11_stays on_X11_stays 19 := ⟨by decide +kernel, by decide +kernel⟩
theorem dX11_stays_0 : dc cX11_stays 0 1 (.aload_n 0) 1 := o_42 ob_X11_stays rfl rfl rfl
theorem dX11_stays_1 : dc cX11_stays 1 2 (.iload_n 1) 1 := o_27 ob_X11_stays rfl rfl rfl
theorem dX11_stays_2 : dc cX11_stays 2 5 (.invokevirtual 139) 3 := o_182 ob_X11_stays rfl rfl rfl rfl
theorem dX11_stays_5 : dc cX11_stays 5 6 (.aload_n 0) 1 := o_42 ob_X11_stays rfl rfl rfl
theorem dX11_stays_6 : dc cX11_stays 6 7 (.iload_n 1) 1 := o_27 ob_X11_stays rfl rfl rfl
theorem dX11_stays_7 : dc cX11_stays 7 10 (.invokevirtual 168) 3 := o_182 ob_X11_stays rfl rfl rfl rfl
theorem dX11_stays_10 : dc cX11_stays 10 11 (.aload_n 0) 1 := o_42 ob_X11_stays rfl rfl rfl
theorem dX11_stays_11 : dc cX11_stays 11 14 (.getfield 69) 3 := o_180 ob_X11_stays rfl rfl rfl rfl
theorem dX11_stays_14 : dc cX11_stays 14 15 (.iload_n 1) 1 := o_27 ob_X11_stays rfl rfl rfl
theorem dX11_stays_15 : dc cX11_stays 15 18 (.invokevirtual 328) 3 := o_182 ob_X11_stays rfl rfl rfl rfl
theorem dX11_stays_18 : dc cX11_stays 18 19 .ireturn 1 := o_172 ob_X11_stays rfl rfl rfl
def F_KW_stays (x1 : Int32) (M : Mem) : Option ((String ⊕ Bool) × Mem) :=
  xbind (F_KW_needWay x1 M) fun _ M1 => xbind (F_KW_needFree x1 M1) fun _ M2 => (F_Crowd_keepsOthersOut x1 M2).bind fun r3 => some ((.inr r3.1, r3.2))
set_option maxRecDepth 100000 in
set_option maxHeartbeats 4000000 in
theorem K_KW_stays (l : Launch) (g : GB) (htr : l.stackTraces = false) (x1 : Int32) (M : Mem) (rr : String ⊕ Bool) (MZ : Mem) (h : F_KW_stays x1 M = some (rr, MZ)) : CT l g yX11_stays (.code yX11_stays cX11_stays 2 (some .boolean) :: wAll) { frames := 7, cells := 2, slots := 12, locals := 138 } [.ref (g.2.1 0), .int x1] M (rvB rr) MZ := by
  refine CT.of [(0, .ref (g.2.1 0)), (1, .int x1)] (by decide +kernel) (Nat.le_of_ble_eq_true rfl) rfl htr ?_
  intro p e s m args below meth c K hr ht
  skip
  obtain ⟨PHI, hPHI, h⟩ : ∃ PHI : (String ⊕ Bool) × Mem → Prop, (∀ a, PHI a → a = (rr, MZ)) ∧ wpO (F_KW_stays x1 M) PHI := ⟨fun a => a = (rr, MZ), fun _ h => h, _, h, rfl⟩
  unfold F_KW_stays at h
  refine G_aload_n rfl 0 rfl K dX11_stays_0 ?_
  refine G_iload_n rfl 1 rfl K dX11_stays_1 ?_
  obtain ⟨E1, M1, e1, h⟩ | ⟨r1, M1, e1, h⟩ := wpO_x h
  · cases hPHI _ h
    exact G_callXVt (ci := 11) [.int x1] [] K dX11_stays_2 wv_898 yd_X11_needWay (Nat.le_of_ble_eq_true rfl) (sh_0 _ _) rfl (by decide) (by decide) rfl rfl (Nat.le_of_ble_eq_true rfl) (K_KW_needWay l g htr x1 M _ _ e1) (GX_out K ht (Nat.le_of_ble_eq_true rfl) (Nat.le_of_ble_eq_true rfl) ⟨rfl, rfl⟩)
  refine G_callXVv (ci := 11) [.int x1] [] K dX11_stays_2 wv_898 yd_X11_needWay (Nat.le_of_ble_eq_true rfl) (sh_0 _ _) rfl (by decide) (by decide) rfl rfl (Nat.le_of_ble_eq_true rfl) (K_KW_needWay l g htr x1 M _ _ e1) ?_
  refine G_aload_n rfl 0 rfl K dX11_stays_5 ?_
  refine G_iload_n rfl 1 rfl K dX11_stays_6 ?_
  obtain ⟨E2, M2, e2, h⟩ | ⟨r2, M2, e2, h⟩ := wpO_x h
  · cases hPHI _ h
    exact G_callXVt (ci := 11) [.int x1] [] K dX11_stays_7 wv_941 yd_X11_needFree (Nat.le_of_ble_eq_true rfl) (sh_0 _ _) rfl (by decide) (by decide) rfl rfl (Nat.le_of_ble_eq_true rfl) (K_KW_needFree l g htr x1 M1 _ _ e2) (GX_out K ht (Nat.le_of_ble_eq_true rfl) (Nat.le_of_ble_eq_true rfl) ⟨rfl, rfl⟩)
  refine G_callXVv (ci := 11) [.int x1] [] K dX11_stays_7 wv_941 yd_X11_needFree (Nat.le_of_ble_eq_true rfl) (sh_0 _ _) rfl (by decide) (by decide) rfl rfl (Nat.le_of_ble_eq_true rfl) (K_KW_needFree l g htr x1 M1 _ _ e2) ?_
  refine G_aload_n rfl 0 rfl K dX11_stays_10 ?_
  refine G_get (ci := 11) (k := 9) K rfl in_X11 wd_411 rfl dX11_stays_11 (Nat.le_of_ble_eq_true rfl) (sh_0 _ _) (Nat.le_of_ble_eq_true rfl) rfl ?_
  refine G_iload_n rfl 1 rfl K dX11_stays_14 ?_
  obtain ⟨r3, e3, h⟩ := wpO_bind h
  refine G_callVi (ci := 3) [.int x1] [] K dX11_stays_15 wv_1381 yd_X3_keepsOthersOut (Nat.le_of_ble_eq_true rfl) (sh_80 _ _) rfl (by decide) (by decide) rfl rfl (Nat.le_of_ble_eq_true rfl) (K_Crowd_keepsOthersOut l g htr x1 M2 _ _ e3) ?_
  cases hPHI _ (wpO_some h)
  exact G_iret K hr nar_b dX11_stays_18 (Nat.le_of_ble_eq_true rfl) (Nat.le_of_ble_eq_true rfl) ⟨rfl, rfl⟩
def on_X11_villager : Nat := 0xac64044b01b40a00b42a4b01b560044b01b4590a00b42a3b01b6851c4b01b40a00b42a5101b40a00b42a3b01b6851b4b01b40a00b42a4e01b40a00b42abf8200b7598000bb0b00a106104b01b40a00b42a6200b66310041c2a6200b6e70311031b2a
theorem ob_X11_villager : OKB cX11_villager on_X11_villager 98 := ⟨by decide +kernel, by decide +kernel⟩
theorem dX11_villager_0 : dc cX11_villager 0 1 (.aload_n 0) 1 := o_42 ob_X11_villager rfl rfl rfl
theorem dX11_villager_1 : dc cX11_villager 1 2 (.iload_n 1) 1 := o_27 ob_X11_villager rfl rfl rfl
theorem dX11_villager_2 : dc cX11_villager 2 3 (.iconst 0) 1 := o_3 ob_X11_villager rfl rfl rfl
theorem dX11_villager_3 : dc cX11_villager 3 6 (.sipush 999) 3 := o_17 ob_X11_villager rfl rfl rfl rfl
theorem dX11_villager_6 : dc cX11_villager 6 9 (.invokevirtual 98) 3 := o_182 ob_X11_villager rfl rfl rfl rfl
theorem dX11_villager_9 : dc cX11_villager 9 10 (.aload_n 0) 1 := o_42 ob_X11_villager rfl rfl rfl
theorem dX11_villager_10 : dc cX11_villager 10 11 (.iload_n 2) 1 := o_28 ob_X11_villager rfl rfl rfl
theorem dX11_villager_11 : dc cX11_villager 11 12 (.iconst 1) 1 := o_4 ob_X11_villager rfl rfl rfl
theorem dX11_villager_12 : dc cX11_villager 12 14 (.bipush 99) 2 := o_16 ob_X11_villager rfl rfl rfl rfl
theorem dX11_villager_14 : dc cX11_villager 14 17 (.invokevirtual 98) 3 := o_182 ob_X11_villager rfl rfl rfl rfl
theorem dX11_villager_17 : dc cX11_villager 17 18 (.aload_n 0) 1 := o_42 ob_X11_villager rfl rfl rfl
theorem dX11_villager_18 : dc cX11_villager 18 21 (.getfield 10) 3 := o_180 ob_X11_villager rfl rfl rfl rfl
theorem dX11_villager_21 : dc cX11_villager 21 24 (.getfield 331) 3 := o_180 ob_X11_villager rfl rfl rfl rfl
theorem dX11_villager_24 : dc cX11_villager 24 26 (.bipush 6) 2 := o_16 ob_X11_villager rfl rfl rfl rfl
theorem dX11_villager_26 : dc cX11_villager 26 29 (.if_icmp .lt 11) 3 := o_161 ob_X11_villager rfl rfl rfl rfl
theorem dX11_villager_29 : dc cX11_villager 29 32 (.new 128) 3 := o_187 ob_X11_villager rfl rfl rfl rfl
theorem dX11_villager_32 : dc cX11_villager 32 33 .dup 1 := o_89 ob_X11_villager rfl rfl rfl
theorem dX11_villager_33 : dc cX11_villager 33 36 (.invokespecial 130) 3 := o_183 ob_X11_villager rfl rfl rfl rfl
theorem dX11_villager_36 : dc cX11_villager 36 37 .athrow 1 := o_191 ob_X11_villager rfl rfl rfl
theorem dX11_villager_37 : dc cX11_villager 37 38 (.aload_n 0) 1 := o_42 ob_X11_villager rfl rfl rfl
theorem dX11_villager_38 : dc cX11_villager 38 41 (.getfield 10) 3 := o_180 ob_X11_villager rfl rfl rfl rfl
theorem dX11_villager_41 : dc cX11_villager 41 44 (.getfield 334) 3 := o_180 ob_X11_villager rfl rfl rfl rfl
theorem dX11_villager_44 : dc cX11_villager 44 45 (.aload_n 0) 1 := o_42 ob_X11_villager rfl rfl rfl
theorem dX11_villager_45 : dc cX11_villager 45 48 (.getfield 10) 3 := o_180 ob_X11_villager rfl rfl rfl rfl
theorem dX11_villager_48 : dc cX11_villager 48 51 (.getfield 331) 3 := o_180 ob_X11_villager rfl rfl rfl rfl
theorem dX11_villager_51 : dc cX11_villager 51 52 (.iload_n 1) 1 := o_27 ob_X11_villager rfl rfl rfl
theorem dX11_villager_52 : dc cX11_villager 52 53 .i2l 1 := o_133 ob_X11_villager rfl rfl rfl
theorem dX11_villager_53 : dc cX11_villager 53 56 (.invokevirtual 315) 3 := o_182 ob_X11_villager rfl rfl rfl rfl
theorem dX11_villager_56 : dc cX11_villager 56 57 (.aload_n 0) 1 := o_42 ob_X11_villager rfl rfl rfl
theorem dX11_villager_57 : dc cX11_villager 57 60 (.getfield 10) 3 := o_180 ob_X11_villager rfl rfl rfl rfl
theorem dX11_villager_60 : dc cX11_villager 60 63 (.getfield 337) 3 := o_180 ob_X11_villager rfl rfl rfl rfl
theorem dX11_villager_63 : dc cX11_villager 63 64 (.aload_n 0) 1 := o_42 ob_X11_villager rfl rfl rfl
theorem dX11_villager_64 : dc cX11_villager 64 67 (.getfield 10) 3 := o_180 ob_X11_villager rfl rfl rfl rfl
theorem dX11_villager_67 : dc cX11_villager 67 70 (.getfield 331) 3 := o_180 ob_X11_villager rfl rfl rfl rfl
theorem dX11_villager_70 : dc cX11_villager 70 71 (.iload_n 2) 1 := o_28 ob_X11_villager rfl rfl rfl
theorem dX11_villager_71 : dc cX11_villager 71 72 .i2l 1 := o_133 ob_X11_villager rfl rfl rfl
theorem dX11_villager_72 : dc cX11_villager 72 75 (.invokevirtual 315) 3 := o_182 ob_X11_villager rfl rfl rfl rfl
theorem dX11_villager_75 : dc cX11_villager 75 76 (.aload_n 0) 1 := o_42 ob_X11_villager rfl rfl rfl
theorem dX11_villager_76 : dc cX11_villager 76 79 (.getfield 10) 3 := o_180 ob_X11_villager rfl rfl rfl rfl
theorem dX11_villager_79 : dc cX11_villager 79 80 .dup 1 := o_89 ob_X11_villager rfl rfl rfl
theorem dX11_villager_80 : dc cX11_villager 80 83 (.getfield 331) 3 := o_180 ob_X11_villager rfl rfl rfl rfl
theorem dX11_villager_83 : dc cX11_villager 83 84 (.iconst 1) 1 := o_4 ob_X11_villager rfl rfl rfl
theorem dX11_villager_84 : dc cX11_villager 84 85 .iadd 1 := o_96 ob_X11_villager rfl rfl rfl
theorem dX11_villager_85 : dc cX11_villager 85 88 (.putfield 331) 3 := o_181 ob_X11_villager rfl rfl rfl rfl
theorem dX11_villager_88 : dc cX11_villager 88 89 (.aload_n 0) 1 := o_42 ob_X11_villager rfl rfl rfl
theorem dX11_villager_89 : dc cX11_villager 89 92 (.getfield 10) 3 := o_180 ob_X11_villager rfl rfl rfl rfl
theorem dX11_villager_92 : dc cX11_villager 92 95 (.getfield 331) 3 := o_180 ob_X11_villager rfl rfl rfl rfl
theorem dX11_villager_95 : dc cX11_villager 95 96 (.iconst 1) 1 := o_4 ob_X11_villager rfl rfl rfl
theorem dX11_villager_96 : dc cX11_villager 96 97 .isub 1 := o_100 ob_X11_villager rfl rfl rfl
theorem dX11_villager_97 : dc cX11_villager 97 98 .ireturn 1 := o_172 ob_X11_villager rfl rfl rfl
def F_KW_villager (x1 : Int32) (x2 : Int32) (M : Mem) : Option ((String ⊕ Int32) × Mem) :=
  xbind (F_KW_needNumber x1 0 999 M) fun _ M1 => xbind (F_KW_needNumber x2 1 99 M1) fun _ M2 => if (M2.1 1 8) < 6 then (F_Row_put 11 6 (M2.1 1 8) x1.toInt64 M2).bind fun r3 => (F_Row_put 13 6 (r3.1 1 8) x2.toInt64 r3).bind fun r4 => some ((.inr (((mSI r4 1 8 ((r4.1 1 8) + 1)).1 1 8) - 1), mSI r4 1 8 ((r4.1 1 8) + 1))) else some ((.inl "java/lang/UnsupportedOperationException", M2))
set_option maxRecDepth 100000 in
set_option maxHeartbeats 4000000 in
theorem K_KW_villager (l : Launch) (g : GB) (htr : l.stackTraces = false) (x1 : Int32) (x2 : Int32) (M : Mem) (rr : String ⊕ Int32) (MZ : Mem) (h : F_KW_villager x1 x2 M = some (rr, MZ)) : CT l g yX11_villager (.code yX11_villager cX11_villager 3 (some .int) :: wAll) { frames := 7, cells := 3, slots := 18, locals := 123 } [.ref (g.2.1 0), .int x1, .int x2] M (rvI rr) MZ := by
  refine CT.of [(0, .ref (g.2.1 0)), (1, .int x1), (2, .int x2)] (by decide +kernel) (Nat.le_of_ble_eq_true rfl) rfl htr ?_
  intro p e s m args below meth c K hr ht
  skip
  obtain ⟨PHI, hPHI, h⟩ : ∃ PHI : (String ⊕ Int32) × Mem → Prop, (∀ a, PHI a → a = (rr, MZ)) ∧ wpO (F_KW_villager x1 x2 M) PHI := ⟨fun a => a = (rr, MZ), fun _ h => h, _, h, rfl⟩
  unfold F_KW_villager at h
  refine G_aload_n rfl 0 rfl K dX11_villager_0 ?_
  refine G_iload_n rfl 1 rfl K dX11_villager_1 ?_
  refine G_iconst (v := 0) rfl K dX11_villager_2 ?_
  refine G_sipush (v := 999) rfl K dX11_villager_3 ?_
  obtain ⟨E1, M1, e1, h⟩ | ⟨r1, M1, e1, h⟩ := wpO_x h
  · cases hPHI _ h
    exact G_callXVt (ci := 11) [.int x1, .int 0, .int 999] [] K dX11_villager_6 wv_654 yd_X11_needNumber (Nat.le_of_ble_eq_true rfl) (sh_0 _ _) rfl (by decide) (by decide) rfl rfl (Nat.le_of_ble_eq_true rfl) (K_KW_needNumber l g htr x1 0 999 M _ _ e1) (GX_out K ht (Nat.le_of_ble_eq_true rfl) (Nat.le_of_ble_eq_true rfl) ⟨rfl, rfl⟩)
  refine G_callXVv (ci := 11) [.int x1, .int 0, .int 999] [] K dX11_villager_6 wv_654 yd_X11_needNumber (Nat.le_of_ble_eq_true rfl) (sh_0 _ _) rfl (by decide) (by decide) rfl rfl (Nat.le_of_ble_eq_true rfl) (K_KW_needNumber l g htr x1 0 999 M _ _ e1) ?_
  refine G_aload_n rfl 0 rfl K dX11_villager_9 ?_
  refine G_iload_n rfl 2 rfl K dX11_villager_10 ?_
  refine G_iconst (v := 1) rfl K dX11_villager_11 ?_
  refine G_bipush (v := 99) rfl K dX11_villager_12 ?_
  obtain ⟨E2, M2, e2, h⟩ | ⟨r2, M2, e2, h⟩ := wpO_x h
  · cases hPHI _ h
    exact G_callXVt (ci := 11) [.int x2, .int 1, .int 99] [] K dX11_villager_14 wv_654 yd_X11_needNumber (Nat.le_of_ble_eq_true rfl) (sh_0 _ _) rfl (by decide) (by decide) rfl rfl (Nat.le_of_ble_eq_true rfl) (K_KW_needNumber l g htr x2 1 99 M1 _ _ e2) (GX_out K ht (Nat.le_of_ble_eq_true rfl) (Nat.le_of_ble_eq_true rfl) ⟨rfl, rfl⟩)
  refine G_callXVv (ci := 11) [.int x2, .int 1, .int 99] [] K dX11_villager_14 wv_654 yd_X11_needNumber (Nat.le_of_ble_eq_true rfl) (sh_0 _ _) rfl (by decide) (by decide) rfl rfl (Nat.le_of_ble_eq_true rfl) (K_KW_needNumber l g htr x2 1 99 M1 _ _ e2) ?_
  refine G_aload_n rfl 0 rfl K dX11_villager_17 ?_
  refine G_get (ci := 11) (k := 0) K rfl in_X11 wd_402 rfl dX11_villager_18 (Nat.le_of_ble_eq_true rfl) (sh_0 _ _) (Nat.le_of_ble_eq_true rfl) rfl ?_
  refine G_get (ci := 10) (k := 8) K rfl in_X10 wd_93 rfl dX11_villager_21 (Nat.le_of_ble_eq_true rfl) (sh_1 _ _) (Nat.le_of_ble_eq_true rfl) rfl ?_
  refine G_bipush (v := 6) rfl K dX11_villager_24 ?_
  refine G_icmp_lt (tgt := 37) K dX11_villager_26 (by decide) (fun hc => ?_) (fun hc => ?_)
  · have h := wpO_t h hc
    refine G_aload_n rfl 0 rfl K dX11_villager_37 ?_
    refine G_get (ci := 11) (k := 0) K rfl in_X11 wd_402 rfl dX11_villager_38 (Nat.le_of_ble_eq_true rfl) (sh_0 _ _) (Nat.le_of_ble_eq_true rfl) rfl ?_
    refine G_get (ci := 10) (k := 13) K rfl in_X10 wd_104 rfl dX11_villager_41 (Nat.le_of_ble_eq_true rfl) (sh_1 _ _) (Nat.le_of_ble_eq_true rfl) rfl ?_
    refine G_aload_n rfl 0 rfl K dX11_villager_44 ?_
    refine G_get (ci := 11) (k := 0) K rfl in_X11 wd_402 rfl dX11_villager_45 (Nat.le_of_ble_eq_true rfl) (sh_0 _ _) (Nat.le_of_ble_eq_true rfl) rfl ?_
    refine G_get (ci := 10) (k := 8) K rfl in_X10 wd_93 rfl dX11_villager_48 (Nat.le_of_ble_eq_true rfl) (sh_1 _ _) (Nat.le_of_ble_eq_true rfl) rfl ?_
    refine G_iload_n rfl 1 rfl K dX11_villager_51 ?_
    refine G_i2l K dX11_villager_52 ?_
    obtain ⟨r3, e3, h⟩ := wpO_bind h
    refine G_callVv (ci := 7) [.int (M2.1 1 8), .long x1.toInt64] [] K dX11_villager_53 wv_1298 yd_X7_put (Nat.le_of_ble_eq_true rfl) (sh_10 _ _) rfl (by decide) (by decide) rfl rfl (Nat.le_of_ble_eq_true rfl) (K_Row_put l g htr 10 11 6 isRow_10 (M2.1 1 8) x1.toInt64 M2 _ e3) ?_
    refine G_aload_n rfl 0 rfl K dX11_villager_56 ?_
    refine G_get (ci := 11) (k := 0) K rfl in_X11 wd_402 rfl dX11_villager_57 (Nat.le_of_ble_eq_true rfl) (sh_0 _ _) (Nat.le_of_ble_eq_true rfl) rfl ?_
    refine G_get (ci := 10) (k := 14) K rfl in_X10 wd_107 rfl dX11_villager_60 (Nat.le_of_ble_eq_true rfl) (sh_1 _ _) (Nat.le_of_ble_eq_true rfl) rfl ?_
    refine G_aload_n rfl 0 rfl K dX11_villager_63 ?_
    refine G_get (ci := 11) (k := 0) K rfl in_X11 wd_402 rfl dX11_villager_64 (Nat.le_of_ble_eq_true rfl) (sh_0 _ _) (Nat.le_of_ble_eq_true rfl) rfl ?_
    refine G_get (ci := 10) (k := 8) K rfl in_X10 wd_93 rfl dX11_villager_67 (Nat.le_of_ble_eq_true rfl) (sh_1 _ _) (Nat.le_of_ble_eq_true rfl) rfl ?_
    refine G_iload_n rfl 2 rfl K dX11_villager_70 ?_
    refine G_i2l K dX11_villager_71 ?_
    obtain ⟨r4, e4, h⟩ := wpO_bind h
    refine G_callVv (ci := 7) [.int (r3.1 1 8), .long x2.toInt64] [] K dX11_villager_72 wv_1298 yd_X7_put (Nat.le_of_ble_eq_true rfl) (sh_12 _ _) rfl (by decide) (by decide) rfl rfl (Nat.le_of_ble_eq_true rfl) (K_Row_put l g htr 12 13 6 isRow_12 (r3.1 1 8) x2.toInt64 r3 _ e4) ?_
    refine G_aload_n rfl 0 rfl K dX11_villager_75 ?_
    refine G_get (ci := 11) (k := 0) K rfl in_X11 wd_402 rfl dX11_villager_76 (Nat.le_of_ble_eq_true rfl) (sh_0 _ _) (Nat.le_of_ble_eq_true rfl) rfl ?_
    refine G_dup rfl K dX11_villager_79 ?_
    refine G_get (ci := 10) (k := 8) K rfl in_X10 wd_93 rfl dX11_villager_80 (Nat.le_of_ble_eq_true rfl) (sh_1 _ _) (Nat.le_of_ble_eq_true rfl) rfl ?_
    refine G_iconst (v := 1) rfl K dX11_villager_83 ?_
    refine G_iadd K dX11_villager_84 ?_
    refine G_putI (ci := 10) (k := 8) (ty := .int) K rfl in_X10 tyX10 tyX10_ok nmX10 wd_93 rfl rfl rfl rfl rfl dX11_villager_85 (Nat.le_of_ble_eq_true rfl) (sh_1 _ _) (sh_1 _ _) (Nat.le_of_ble_eq_true rfl) (Nat.le_of_ble_eq_true rfl) rfl ?_
    refine G_aload_n rfl 0 rfl K dX11_villager_88 ?_
    refine G_get (ci := 11) (k := 0) K rfl in_X11 wd_402 rfl dX11_villager_89 (Nat.le_of_ble_eq_true rfl) (sh_0 _ _) (Nat.le_of_ble_eq_true rfl) rfl ?_
    refine G_get (ci := 10) (k := 8) K rfl in_X10 wd_93 rfl dX11_villager_92 (Nat.le_of_ble_eq_true rfl) (sh_1 _ _) (Nat.le_of_ble_eq_true rfl) rfl ?_
    refine G_iconst (v := 1) rfl K dX11_villager_95 ?_
    refine G_isub K dX11_villager_96 ?_
    cases hPHI _ (wpO_some h)
    exact G_iret K hr rfl dX11_villager_97 (Nat.le_of_ble_eq_true rfl) (Nat.le_of_ble_eq_true rfl) ⟨rfl, rfl⟩
  · have h := wpO_f h hc
    cases hPHI _ (wpO_some h)
    exact G_throw K ex_128_130 (fun ls h => h.trans K.1.2.2.1.symm) dX11_villager_29 dX11_villager_32 dX11_villager_33 dX11_villager_36 ht (by decide) (Nat.le_of_ble_eq_true rfl) (Nat.le_of_ble_eq_true rfl) (Nat.le_of_ble_eq_true rfl) (by decide) (by decide) ⟨rfl, rfl⟩
theorem wv_1437 : wdV "KeptWell" 343 yX1_tellEdge cX1_tellEdge 8 none := ⟨wd_1437, wd_1438, wd_1439, wd_12, wd_1440⟩
def on_X11_villageEdge : Nat := 0xac88b300b61c5300b42a5701b65300b42a4b01b40a00b42a1b4c00b42abf5601b7595401bb0b00a14b01b40a00b42a1b0e009b1b
theorem ob_X11_villageEdge : OKB cX11_villageEdge on_X11_villageEdge 52 := ⟨by decide +kernel, by decide +kernel⟩
theorem dX11_villageEdge_0 : dc cX11_villageEdge 0 1 (.iload_n 1) 1 := o_27 ob_X11_villageEdge rfl rfl rfl
theorem dX11_villageEdge_1 : dc cX11_villageEdge 1 4 (.ifCond .lt 14) 3 := o_155 ob_X11_villageEdge rfl rfl rfl rfl
theorem dX11_villageEdge_4 : dc cX11_villageEdge 4 5 (.iload_n 1) 1 := o_27 ob_X11_villageEdge rfl rfl rfl
theorem dX11_villageEdge_5 : dc cX11_villageEdge 5 6 (.aload_n 0) 1 := o_42 ob_X11_villageEdge rfl rfl rfl
theorem dX11_villageEdge_6 : dc cX11_villageEdge 6 9 (.getfield 10) 3 := o_180 ob_X11_villageEdge rfl rfl rfl rfl
theorem dX11_villageEdge_9 : dc cX11_villageEdge 9 12 (.getfield 331) 3 := o_180 ob_X11_villageEdge rfl rfl rfl rfl
theorem dX11_villageEdge_12 : dc cX11_villageEdge 12 15 (.if_icmp .lt 11) 3 := o_161 ob_X11_villageEdge rfl rfl rfl rfl
theorem dX11_villageEdge_15 : dc cX11_villageEdge 15 18 (.new 340) 3 := o_187 ob_X11_villageEdge rfl rfl rfl rfl
theorem dX11_villageEdge_18 : dc cX11_villageEdge 18 19 .dup 1 := o_89 ob_X11_villageEdge rfl rfl rfl
theorem dX11_villageEdge_19 : dc cX11_villageEdge 19 22 (.invokespecial 342) 3 := o_183 ob_X11_villageEdge rfl rfl rfl rfl
theorem dX11_villageEdge_22 : dc cX11_villageEdge 22 23 .athrow 1 := o_191 ob_X11_villageEdge rfl rfl rfl
theorem dX11_villageEdge_23 : dc cX11_villageEdge 23 24 (.aload_n 0) 1 := o_42 ob_X11_villageEdge rfl rfl rfl
theorem dX11_villageEdge_24 : dc cX11_villageEdge 24 27 (.getfield 76) 3 := o_180 ob_X11_villageEdge rfl rfl rfl rfl
theorem dX11_villageEdge_27 : dc cX11_villageEdge 27 28 (.iload_n 1) 1 := o_27 ob_X11_villageEdge rfl rfl rfl
theorem dX11_villageEdge_28 : dc cX11_villageEdge 28 29 (.aload_n 0) 1 := o_42 ob_X11_villageEdge rfl rfl rfl
theorem dX11_villageEdge_29 : dc cX11_villageEdge 29 32 (.getfield 10) 3 := o_180 ob_X11_villageEdge rfl rfl rfl rfl
theorem dX11_villageEdge_32 : dc cX11_villageEdge 32 35 (.getfield 331) 3 := o_180 ob_X11_villageEdge rfl rfl rfl rfl
theorem dX11_villageEdge_35 : dc cX11_villageEdge 35 36 (.aload_n 0) 1 := o_42 ob_X11_villageEdge rfl rfl rfl
theorem dX11_villageEdge_36 : dc cX11_villageEdge 36 39 (.getfield 83) 3 := o_180 ob_X11_villageEdge rfl rfl rfl rfl
theorem dX11_villageEdge_39 : dc cX11_villageEdge 39 42 (.invokevirtual 343) 3 := o_182 ob_X11_villageEdge rfl rfl rfl rfl
theorem dX11_villageEdge_42 : dc cX11_villageEdge 42 43 (.aload_n 0) 1 := o_42 ob_X11_villageEdge rfl rfl rfl
theorem dX11_villageEdge_43 : dc cX11_villageEdge 43 46 (.getfield 83) 3 := o_180 ob_X11_villageEdge rfl rfl rfl rfl
theorem dX11_villageEdge_46 : dc cX11_villageEdge 46 47 (.iload_n 2) 1 := o_28 ob_X11_villageEdge rfl rfl rfl
theorem dX11_villageEdge_47 : dc cX11_villageEdge 47 50 (.invokevirtual 179) 3 := o_182 ob_X11_villageEdge rfl rfl rfl rfl
theorem dX11_villageEdge_50 : dc cX11_villageEdge 50 51 .l2i 1 := o_136 ob_X11_villageEdge rfl rfl rfl
theorem dX11_villageEdge_51 : dc cX11_villageEdge 51 52 .ireturn 1 := o_172 ob_X11_villageEdge rfl rfl rfl
def F_KW_villageEdge (x1 : Int32) (x2 : Int32) (M : Mem) : Option ((String ⊕ Int32) × Mem) :=
  if x1 < 0 then some ((.inl "java/lang/IndexOutOfBoundsException", M)) else if x1 < (M.1 1 8) then (F_Bridge_tellEdge 93 x1 (M.1 1 8) M).bind fun r1 => (F_Fraction_part 93 x2 r1).bind fun r2 => some ((.inr r2.toInt32, r1)) else some ((.inl "java/lang/IndexOutOfBoundsException", M))
set_option maxRecDepth 100000 in
set_option maxHeartbeats 4000000 in
theorem K_KW_villageEdge (l : Launch) (g : GB) (htr : l.stackTraces = false) (x1 : Int32) (x2 : Int32) (M : Mem) (rr : String ⊕ Int32) (MZ : Mem) (h : F_KW_villageEdge x1 x2 M = some (rr, MZ)) : CT l g yX11_villageEdge (.code yX11_villageEdge cX11_villageEdge 3 (some .int) :: wAll) { frames := 6, cells := 1, slots := 6, locals := 104 } [.ref (g.2.1 0), .int x1, .int x2] M (rvI rr) MZ := by
  refine CT.of [(0, .ref (g.2.1 0)), (1, .int x1), (2, .int x2)] (by decide +kernel) (Nat.le_of_ble_eq_true rfl) rfl htr ?_
  intro p e s m args below meth c K hr ht
  skip
  obtain ⟨PHI, hPHI, h⟩ : ∃ PHI : (String ⊕ Int32) × Mem → Prop, (∀ a, PHI a → a = (rr, MZ)) ∧ wpO (F_KW_villageEdge x1 x2 M) PHI := ⟨fun a => a = (rr, MZ), fun _ h => h, _, h, rfl⟩
  unfold F_KW_villageEdge at h
  refine G_iload_n rfl 1 rfl K dX11_villageEdge_0 ?_
  refine G_if_lt (tgt := 15) K dX11_villageEdge_1 (by decide) (fun hc => ?_) (fun hc => ?_)
  · have h := wpO_t h hc
    cases hPHI _ (wpO_some h)
    exact G_throw K ex_340_342 (fun ls h => h.trans K.1.2.2.1.symm) dX11_villageEdge_15 dX11_villageEdge_18 dX11_villageEdge_19 dX11_villageEdge_22 ht (by decide) (Nat.le_of_ble_eq_true rfl) (Nat.le_of_ble_eq_true rfl) (Nat.le_of_ble_eq_true rfl) (by decide) (by decide) ⟨rfl, rfl⟩
  · have h := wpO_f h hc
    refine G_iload_n rfl 1 rfl K dX11_villageEdge_4 ?_
    refine G_aload_n rfl 0 rfl K dX11_villageEdge_5 ?_
    refine G_get (ci := 11) (k := 0) K rfl in_X11 wd_402 rfl dX11_villageEdge_6 (Nat.le_of_ble_eq_true rfl) (sh_0 _ _) (Nat.le_of_ble_eq_true rfl) rfl ?_
    refine G_get (ci := 10) (k := 8) K rfl in_X10 wd_93 rfl dX11_villageEdge_9 (Nat.le_of_ble_eq_true rfl) (sh_1 _ _) (Nat.le_of_ble_eq_true rfl) rfl ?_
    refine G_icmp_lt (tgt := 23) K dX11_villageEdge_12 (by decide) (fun hc => ?_) (fun hc => ?_)
    · have h := wpO_t h hc
      refine G_aload_n rfl 0 rfl K dX11_villageEdge_23 ?_
      refine G_get (ci := 11) (k := 10) K rfl in_X11 wd_412 rfl dX11_villageEdge_24 (Nat.le_of_ble_eq_true rfl) (sh_0 _ _) (Nat.le_of_ble_eq_true rfl) rfl ?_
      refine G_iload_n rfl 1 rfl K dX11_villageEdge_27 ?_
      refine G_aload_n rfl 0 rfl K dX11_villageEdge_28 ?_
      refine G_get (ci := 11) (k := 0) K rfl in_X11 wd_402 rfl dX11_villageEdge_29 (Nat.le_of_ble_eq_true rfl) (sh_0 _ _) (Nat.le_of_ble_eq_true rfl) rfl ?_
      refine G_get (ci := 10) (k := 8) K rfl in_X10 wd_93 rfl dX11_villageEdge_32 (Nat.le_of_ble_eq_true rfl) (sh_1 _ _) (Nat.le_of_ble_eq_true rfl) rfl ?_
      refine G_aload_n rfl 0 rfl K dX11_villageEdge_35 ?_
      refine G_get (ci := 11) (k := 11) K rfl in_X11 wd_413 rfl dX11_villageEdge_36 (Nat.le_of_ble_eq_true rfl) (sh_0 _ _) (Nat.le_of_ble_eq_true rfl) rfl ?_
      obtain ⟨r1, e1, h⟩ := wpO_bind h
      refine G_callVv (ci := 1) [.int x1, .int (M.1 1 8), .ref (g.2.1 93)] [] K dX11_villageEdge_39 wv_1437 yd_X1_tellEdge (Nat.le_of_ble_eq_true rfl) (sh_91 _ _) rfl (by decide) (by decide) rfl rfl (Nat.le_of_ble_eq_true rfl) (K_Bridge_tellEdge l g htr 93 isFrac_93 x1 (M.1 1 8) M _ e1) ?_
      refine G_aload_n rfl 0 rfl K dX11_villageEdge_42 ?_
      refine G_get (ci := 11) (k := 11) K rfl in_X11 wd_413 rfl dX11_villageEdge_43 (Nat.le_of_ble_eq_true rfl) (sh_0 _ _) (Nat.le_of_ble_eq_true rfl) rfl ?_
      refine G_iload_n rfl 2 rfl K dX11_villageEdge_46 ?_
      obtain ⟨r2, e2, h⟩ := wpO_bind h
      refine G_callVl (ci := 5) [.int x2] [] K dX11_villageEdge_47 wv_979 yd_X5_part (Nat.le_of_ble_eq_true rfl) (sh_93 _ _) rfl (by decide) (by decide) rfl rfl (Nat.le_of_ble_eq_true rfl) (K_Fraction_part l g htr 93 isFrac_93 x2 r1 _ e2) ?_
      refine G_l2i K dX11_villageEdge_50 ?_
      cases hPHI _ (wpO_some h)
      exact G_iret K hr rfl dX11_villageEdge_51 (Nat.le_of_ble_eq_true rfl) (Nat.le_of_ble_eq_true rfl) ⟨rfl, rfl⟩
    · have h := wpO_f h hc
      cases hPHI _ (wpO_some h)
      exact G_throw K ex_340_342 (fun ls h => h.trans K.1.2.2.1.symm) dX11_villageEdge_15 dX11_villageEdge_18 dX11_villageEdge_19 dX11_villageEdge_22 ht (by decide) (Nat.le_of_ble_eq_true rfl) (Nat.le_of_ble_eq_true rfl) (Nat.le_of_ble_eq_true rfl) (by decide) (by decide) ⟨rfl, rfl⟩
theorem yd_X1_fewestOut : ydN yX1_fewestOut 0 := ⟨by decide, by decide, by decide +kernel⟩
theorem yd_X1_weakest : ydN yX1_weakest 0 := ⟨by decide, by decide, by decide +kernel⟩
theorem wv_1465 : wdV "KeptWell" 353 yX1_fewestOut cX1_fewestOut 4 (some .int) := ⟨wd_1465, wd_1466, wd_1467, wd_12, wd_1468⟩
theorem wv_1455 : wdV "KeptWell" 350 yX1_isHeldWithout cX1_isHeldWithout 4 (some .boolean) := ⟨wd_1455, wd_1456, wd_1457, wd_12, wd_1458⟩
theorem wv_1450 : wdV "KeptWell" 347 yX1_weakest cX1_weakest 7 (some .int) := ⟨wd_1450, wd_1451, wd_1452, wd_12, wd_1453⟩
def on_X11_village : Nat := 0xac6101b64c00b42aac030400a7040700995e01b6034c00b42a1400a0041bac5b01b64c00b42a0b009a1b9600b6051b2a
theorem ob_X11_village : OKB cX11_village on_X11_village 48 := ⟨by decide +kernel, by decide +kernel⟩
theorem dX11_village_0 : dc cX11_village 0 1 (.aload_n 0) 1 := o_42 ob_X11_village rfl rfl rfl
theorem dX11_village_1 : dc cX11_village 1 2 (.iload_n 1) 1 := o_27 ob_X11_village rfl rfl rfl
theorem dX11_village_2 : dc cX11_village 2 3 (.iconst 2) 1 := o_5 ob_X11_village rfl rfl rfl
theorem dX11_village_3 : dc cX11_village 3 6 (.invokevirtual 150) 3 := o_182 ob_X11_village rfl rfl rfl rfl
theorem dX11_village_6 : dc cX11_village 6 7 (.iload_n 1) 1 := o_27 ob_X11_village rfl rfl rfl
theorem dX11_village_7 : dc cX11_village 7 10 (.ifCond .ne 11) 3 := o_154 ob_X11_village rfl rfl rfl rfl
theorem dX11_village_10 : dc cX11_village 10 11 (.aload_n 0) 1 := o_42 ob_X11_village rfl rfl rfl
theorem dX11_village_11 : dc cX11_village 11 14 (.getfield 76) 3 := o_180 ob_X11_village rfl rfl rfl rfl
theorem dX11_village_14 : dc cX11_village 14 17 (.invokevirtual 347) 3 := o_182 ob_X11_village rfl rfl rfl rfl
theorem dX11_village_17 : dc cX11_village 17 18 .ireturn 1 := o_172 ob_X11_village rfl rfl rfl
theorem dX11_village_18 : dc cX11_village 18 19 (.iload_n 1) 1 := o_27 ob_X11_village rfl rfl rfl
theorem dX11_village_19 : dc cX11_village 19 20 (.iconst 1) 1 := o_4 ob_X11_village rfl rfl rfl
theorem dX11_village_20 : dc cX11_village 20 23 (.if_icmp .ne 20) 3 := o_160 ob_X11_village rfl rfl rfl rfl
theorem dX11_village_23 : dc cX11_village 23 24 (.aload_n 0) 1 := o_42 ob_X11_village rfl rfl rfl
theorem dX11_village_24 : dc cX11_village 24 27 (.getfield 76) 3 := o_180 ob_X11_village rfl rfl rfl rfl
theorem dX11_village_27 : dc cX11_village 27 28 (.iconst 0) 1 := o_3 ob_X11_village rfl rfl rfl
theorem dX11_village_28 : dc cX11_village 28 31 (.invokevirtual 350) 3 := o_182 ob_X11_village rfl rfl rfl rfl
theorem dX11_village_31 : dc cX11_village 31 34 (.ifCond .eq 7) 3 := o_153 ob_X11_village rfl rfl rfl rfl
theorem dX11_village_34 : dc cX11_village 34 35 (.iconst 1) 1 := o_4 ob_X11_village rfl rfl rfl
theorem dX11_village_35 : dc cX11_village 35 38 (.goto 4) 3 := o_167 ob_X11_village rfl rfl rfl rfl
theorem dX11_village_38 : dc cX11_village 38 39 (.iconst 0) 1 := o_3 ob_X11_village rfl rfl rfl
theorem dX11_village_39 : dc cX11_village 39 40 .ireturn 1 := o_172 ob_X11_village rfl rfl rfl
theorem dX11_village_40 : dc cX11_village 40 41 (.aload_n 0) 1 := o_42 ob_X11_village rfl rfl rfl
theorem dX11_village_41 : dc cX11_village 41 44 (.getfield 76) 3 := o_180 ob_X11_village rfl rfl rfl rfl
theorem dX11_village_44 : dc cX11_village 44 47 (.invokevirtual 353) 3 := o_182 ob_X11_village rfl rfl rfl rfl
theorem dX11_village_47 : dc cX11_village 47 48 .ireturn 1 := o_172 ob_X11_village rfl rfl rfl
def F_KW_village (x1 : Int32) (M : Mem) : Option ((String ⊕ Int32) × Mem) :=
  xbind (F_KW_needWhat x1 2 M) fun _ M1 => if x1 = 0 then (F_Bridge_weakest M1).bind fun r4 => some ((.inr r4.1, r4.2)) else if x1 = 1 then (F_Bridge_isHeldWithout 0 M1).bind fun r3 => if r3.1 = true then some ((.inr 1, r3.2)) else some ((.inr 0, r3.2)) else (F_Bridge_fewestOut M1).bind fun r2 => some ((.inr r2.1, r2.2))
set_option maxRecDepth 100000 in
set_option maxHeartbeats 4000000 in
theorem K_KW_village (l : Launch) (g : GB) (htr : l.stackTraces = false) (x1 : Int32) (M : Mem) (rr : String ⊕ Int32) (MZ : Mem) (h : F_KW_village x1 M = some (rr, MZ)) : CT l g yX11_village (.code yX11_village cX11_village 2 (some .int) :: wAll) { frames := 7, cells := 1, slots := 6, locals := 150 } [.ref (g.2.1 0), .int x1] M (rvI rr) MZ := by
  refine CT.of [(0, .ref (g.2.1 0)), (1, .int x1)] (by decide +kernel) (Nat.le_of_ble_eq_true rfl) rfl htr ?_
  intro p e s m args below meth c K hr ht
  skip
  obtain ⟨PHI, hPHI, h⟩ : ∃ PHI : (String ⊕ Int32) × Mem → Prop, (∀ a, PHI a → a = (rr, MZ)) ∧ wpO (F_KW_village x1 M) PHI := ⟨fun a => a = (rr, MZ), fun _ h => h, _, h, rfl⟩
  unfold F_KW_village at h
  refine G_aload_n rfl 0 rfl K dX11_village_0 ?_
  refine G_iload_n rfl 1 rfl K dX11_village_1 ?_
  refine G_iconst (v := 2) rfl K dX11_village_2 ?_
  obtain ⟨E1, M1, e1, h⟩ | ⟨r1, M1, e1, h⟩ := wpO_x h
  · cases hPHI _ h
    exact G_callXVt (ci := 11) [.int x1, .int 2] [] K dX11_village_3 wv_904 yd_X11_needWhat (Nat.le_of_ble_eq_true rfl) (sh_0 _ _) rfl (by decide) (by decide) rfl rfl (Nat.le_of_ble_eq_true rfl) (K_KW_needWhat l g htr x1 2 M _ _ e1) (GX_out K ht (Nat.le_of_ble_eq_true rfl) (Nat.le_of_ble_eq_true rfl) ⟨rfl, rfl⟩)
  refine G_callXVv (ci := 11) [.int x1, .int 2] [] K dX11_village_3 wv_904 yd_X11_needWhat (Nat.le_of_ble_eq_true rfl) (sh_0 _ _) rfl (by decide) (by decide) rfl rfl (Nat.le_of_ble_eq_true rfl) (K_KW_needWhat l g htr x1 2 M _ _ e1) ?_
  refine G_iload_n rfl 1 rfl K dX11_village_6 ?_
  refine G_if_ne (tgt := 18) K dX11_village_7 (by decide) (fun hc => ?_) (fun hc => ?_)
  · have h := wpO_f h hc
    refine G_iload_n rfl 1 rfl K dX11_village_18 ?_
    refine G_iconst (v := 1) rfl K dX11_village_19 ?_
    refine G_icmp_ne (tgt := 40) K dX11_village_20 (by decide) (fun hc => ?_) (fun hc => ?_)
    · have h := wpO_f h hc
      refine G_aload_n rfl 0 rfl K dX11_village_40 ?_
      refine G_get (ci := 11) (k := 10) K rfl in_X11 wd_412 rfl dX11_village_41 (Nat.le_of_ble_eq_true rfl) (sh_0 _ _) (Nat.le_of_ble_eq_true rfl) rfl ?_
      obtain ⟨r2, e2, h⟩ := wpO_bind h
      refine G_callVi (ci := 1) [] [] K dX11_village_44 wv_1465 yd_X1_fewestOut (Nat.le_of_ble_eq_true rfl) (sh_91 _ _) rfl (by decide) (by decide) rfl rfl (Nat.le_of_ble_eq_true rfl) (K_Bridge_fewestOut l g htr  M1 _ _ e2) ?_
      cases hPHI _ (wpO_some h)
      exact G_iret K hr rfl dX11_village_47 (Nat.le_of_ble_eq_true rfl) (Nat.le_of_ble_eq_true rfl) ⟨rfl, rfl⟩
    · have h := wpO_t h hc
      refine G_aload_n rfl 0 rfl K dX11_village_23 ?_
      refine G_get (ci := 11) (k := 10) K rfl in_X11 wd_412 rfl dX11_village_24 (Nat.le_of_ble_eq_true rfl) (sh_0 _ _) (Nat.le_of_ble_eq_true rfl) rfl ?_
      refine G_iconst (v := 0) rfl K dX11_village_27 ?_
      obtain ⟨r3, e3, h⟩ := wpO_bind h
      refine G_callVi (ci := 1) [.int 0] [] K dX11_village_28 wv_1455 yd_X1_isHeldWithout (Nat.le_of_ble_eq_true rfl) (sh_91 _ _) rfl (by decide) (by decide) rfl rfl (Nat.le_of_ble_eq_true rfl) (K_Bridge_isHeldWithout l g htr 0 M1 _ _ e3) ?_
      refine G_ifb_eq (tgt := 38) K dX11_village_31 (by decide) (fun hc => ?_) (fun hc => ?_)
      · have h := wpO_bf h hc
        refine G_iconst (v := 0) rfl K dX11_village_38 ?_
        cases hPHI _ (wpO_some h)
        exact G_iret K hr rfl dX11_village_39 (Nat.le_of_ble_eq_true rfl) (Nat.le_of_ble_eq_true rfl) ⟨rfl, rfl⟩
      · have h := wpO_t h hc
        refine G_iconst (v := 1) rfl K dX11_village_34 ?_
        refine G_goto (tgt := 39) K dX11_village_35 (by decide) ?_
        cases hPHI _ (wpO_some h)
        exact G_iret K hr rfl dX11_village_39 (Nat.le_of_ble_eq_true rfl) (Nat.le_of_ble_eq_true rfl) ⟨rfl, rfl⟩
  · have h := wpO_t h hc
    refine G_aload_n rfl 0 rfl K dX11_village_10 ?_
    refine G_get (ci := 11) (k := 10) K rfl in_X11 wd_412 rfl dX11_village_11 (Nat.le_of_ble_eq_true rfl) (sh_0 _ _) (Nat.le_of_ble_eq_true rfl) rfl ?_
    obtain ⟨r4, e4, h⟩ := wpO_bind h
    refine G_callVi (ci := 1) [] [] K dX11_village_14 wv_1450 yd_X1_weakest (Nat.le_of_ble_eq_true rfl) (sh_91 _ _) rfl (by decide) (by decide) rfl rfl (Nat.le_of_ble_eq_true rfl) (K_Bridge_weakest l g htr  M1 _ _ e4) ?_
    cases hPHI _ (wpO_some h)
    exact G_iret K hr rfl dX11_village_17 (Nat.le_of_ble_eq_true rfl) (Nat.le_of_ble_eq_true rfl) ⟨rfl, rfl⟩
theorem yd_X10_takeFrom : ydN yX10_takeFrom 1 := ⟨by decide, by decide, by decide +kernel⟩
theorem wv_620 : wdV "KeptWell" 356 yX10_takeFrom cX10_takeFrom 2 none := ⟨wd_620, wd_621, wd_622, wd_2, wd_623⟩
def on_X11_image : Nat := 0xb11300b5042a6401b60a00b42a1000b42a
theorem ob_X11_image : OKB cX11_image on_X11_image 17 := ⟨by decide +kernel, by decide +kernel⟩
theorem dX11_image_0 : dc cX11_image 0 1 (.aload_n 0) 1 := o_42 ob_X11_image rfl rfl rfl
theorem dX11_image_1 : dc cX11_image 1 4 (.getfield 16) 3 := o_180 ob_X11_image rfl rfl rfl rfl
theorem dX11_image_4 : dc cX11_image 4 5 (.aload_n 0) 1 := o_42 ob_X11_image rfl rfl rfl
theorem dX11_image_5 : dc cX11_image 5 8 (.getfield 10) 3 := o_180 ob_X11_image rfl rfl rfl rfl
theorem dX11_image_8 : dc cX11_image 8 11 (.invokevirtual 356) 3 := o_182 ob_X11_image rfl rfl rfl rfl
theorem dX11_image_11 : dc cX11_image 11 12 (.aload_n 0) 1 := o_42 ob_X11_image rfl rfl rfl
theorem dX11_image_12 : dc cX11_image 12 13 (.iconst 1) 1 := o_4 ob_X11_image rfl rfl rfl
theorem dX11_image_13 : dc cX11_image 13 16 (.putfield 19) 3 := o_181 ob_X11_image rfl rfl rfl rfl
theorem dX11_image_16 : dc cX11_image 16 17 .return_ 1 := o_177 ob_X11_image rfl rfl rfl
def F_KW_image (M : Mem) : Option (Mem) :=
  (F_Well_takeFrom 14 1 M).bind fun r1 => some (mSI r1 0 2 1)
set_option maxRecDepth 100000 in
set_option maxHeartbeats 4000000 in
theorem K_KW_image (l : Launch) (g : GB) (htr : l.stackTraces = false) (M : Mem) (MZ : Mem) (h : F_KW_image M = some MZ) : CT l g yX11_image (.code yX11_image cX11_image 1 none :: wAll) { frames := 3, cells := 0, slots := 0, locals := 64 } [.ref (g.2.1 0)] M (.inl none) MZ := by
  refine CT.of [(0, .ref (g.2.1 0))] (by decide +kernel) (Nat.le_of_ble_eq_true rfl) rfl htr ?_
  intro p e s m args below meth c K hr ht
  skip
  obtain ⟨PHI, hPHI, h⟩ : ∃ PHI : Mem → Prop, (∀ a, PHI a → a = MZ) ∧ wpO (F_KW_image M) PHI := ⟨fun a => a = MZ, fun _ h => h, _, h, rfl⟩
  unfold F_KW_image at h
  refine G_aload_n rfl 0 rfl K dX11_image_0 ?_
  refine G_get (ci := 11) (k := 1) K rfl in_X11 wd_403 rfl dX11_image_1 (Nat.le_of_ble_eq_true rfl) (sh_0 _ _) (Nat.le_of_ble_eq_true rfl) rfl ?_
  refine G_aload_n rfl 0 rfl K dX11_image_4 ?_
  refine G_get (ci := 11) (k := 0) K rfl in_X11 wd_402 rfl dX11_image_5 (Nat.le_of_ble_eq_true rfl) (sh_0 _ _) (Nat.le_of_ble_eq_true rfl) rfl ?_
  obtain ⟨r1, e1, h⟩ := wpO_bind h
  refine G_callVv (ci := 10) [.ref (g.2.1 1)] [] K dX11_image_8 wv_620 yd_X10_takeFrom (Nat.le_of_ble_eq_true rfl) (sh_14 _ _) rfl (by decide) (by decide) rfl rfl (Nat.le_of_ble_eq_true rfl) (K_Well_takeFrom l g htr 14 1 isWell_14 isWell_1 M _ e1) ?_
  refine G_aload_n rfl 0 rfl K dX11_image_11 ?_
  refine G_iconst (v := 1) rfl K dX11_image_12 ?_
  refine G_putI (ci := 11) (k := 2) (ty := .boolean) K rfl in_X11 tyX11 tyX11_ok nmX11 wd_404 rfl rfl rfl rfl rfl dX11_image_13 (Nat.le_of_ble_eq_true rfl) (sh_0 _ _) (sh_0 _ _) (Nat.le_of_ble_eq_true rfl) (Nat.le_of_ble_eq_true rfl) rfl ?_
  cases hPHI _ (wpO_some h)
  exact G_vret K hr dX11_image_16 (Nat.le_of_ble_eq_true rfl) (Nat.le_of_ble_eq_true rfl) ⟨rfl, rfl⟩
def on_X11_back : Nat := 0xac046401b61000b42a0a00b42aac0305009a1300b42a
theorem ob_X11_back : OKB cX11_back on_X11_back 22 := ⟨by decide +kernel, by decide +kernel⟩
theorem dX11_back_0 : dc cX11_back 0 1 (.aload_n 0) 1 := o_42 ob_X11_back rfl rfl rfl
theorem dX11_back_1 : dc cX11_back 1 4 (.getfield 19) 3 := o_180 ob_X11_back rfl rfl rfl rfl
theorem dX11_back_4 : dc cX11_back 4 7 (.ifCond .ne 5) 3 := o_154 ob_X11_back rfl rfl rfl rfl
theorem dX11_back_7 : dc cX11_back 7 8 (.iconst 0) 1 := o_3 ob_X11_back rfl rfl rfl
theorem dX11_back_8 : dc cX11_back 8 9 .ireturn 1 := o_172 ob_X11_back rfl rfl rfl
theorem dX11_back_9 : dc cX11_back 9 10 (.aload_n 0) 1 := o_42 ob_X11_back rfl rfl rfl
theorem dX11_back_10 : dc cX11_back 10 13 (.getfield 10) 3 := o_180 ob_X11_back rfl rfl rfl rfl
theorem dX11_back_13 : dc cX11_back 13 14 (.aload_n 0) 1 := o_42 ob_X11_back rfl rfl rfl
theorem dX11_back_14 : dc cX11_back 14 17 (.getfield 16) 3 := o_180 ob_X11_back rfl rfl rfl rfl
theorem dX11_back_17 : dc cX11_back 17 20 (.invokevirtual 356) 3 := o_182 ob_X11_back rfl rfl rfl rfl
theorem dX11_back_20 : dc cX11_back 20 21 (.iconst 1) 1 := o_4 ob_X11_back rfl rfl rfl
theorem dX11_back_21 : dc cX11_back 21 22 .ireturn 1 := o_172 ob_X11_back rfl rfl rfl
def F_KW_back (M : Mem) : Option (Bool × Mem) :=
  if (M.1 0 2) = 0 then some ((false, M)) else (F_Well_takeFrom 1 14 M).bind fun r1 => some ((true, r1))
set_option maxRecDepth 100000 in
set_option maxHeartbeats 4000000 in
theorem K_KW_back (l : Launch) (g : GB) (htr : l.stackTraces = false) (M : Mem) (rr : Bool) (MZ : Mem) (h : F_KW_back M = some (rr, MZ)) : CT l g yX11_back (.code yX11_back cX11_back 1 (some .boolean) :: wAll) { frames := 3, cells := 0, slots := 0, locals := 64 } [.ref (g.2.1 0)] M (.inl (some (.int (b2i rr)))) MZ := by
  refine CT.of [(0, .ref (g.2.1 0))] (by decide +kernel) (Nat.le_of_ble_eq_true rfl) rfl htr ?_
  intro p e s m args below meth c K hr ht
  skip
  obtain ⟨PHI, hPHI, h⟩ : ∃ PHI : Bool × Mem → Prop, (∀ a, PHI a → a = (rr, MZ)) ∧ wpO (F_KW_back M) PHI := ⟨fun a => a = (rr, MZ), fun _ h => h, _, h, rfl⟩
  unfold F_KW_back at h
  refine G_aload_n rfl 0 rfl K dX11_back_0 ?_
  refine G_get (ci := 11) (k := 2) K rfl in_X11 wd_404 rfl dX11_back_1 (Nat.le_of_ble_eq_true rfl) (sh_0 _ _) (Nat.le_of_ble_eq_true rfl) rfl ?_
  refine G_if_ne (tgt := 9) K dX11_back_4 (by decide) (fun hc => ?_) (fun hc => ?_)
  · have h := wpO_f h hc
    refine G_aload_n rfl 0 rfl K dX11_back_9 ?_
    refine G_get (ci := 11) (k := 0) K rfl in_X11 wd_402 rfl dX11_back_10 (Nat.le_of_ble_eq_true rfl) (sh_0 _ _) (Nat.le_of_ble_eq_true rfl) rfl ?_
    refine G_aload_n rfl 0 rfl K dX11_back_13 ?_
    refine G_get (ci := 11) (k := 1) K rfl in_X11 wd_403 rfl dX11_back_14 (Nat.le_of_ble_eq_true rfl) (sh_0 _ _) (Nat.le_of_ble_eq_true rfl) rfl ?_
    obtain ⟨r1, e1, h⟩ := wpO_bind h
    refine G_callVv (ci := 10) [.ref (g.2.1 14)] [] K dX11_back_17 wv_620 yd_X10_takeFrom (Nat.le_of_ble_eq_true rfl) (sh_1 _ _) rfl (by decide) (by decide) rfl rfl (Nat.le_of_ble_eq_true rfl) (K_Well_takeFrom l g htr 1 14 isWell_1 isWell_14 M _ e1) ?_
    refine G_iconst (v := 1) rfl K dX11_back_20 ?_
    cases hPHI _ (wpO_some h)
    exact G_iret K hr rfl dX11_back_21 (Nat.le_of_ble_eq_true rfl) (Nat.le_of_ble_eq_true rfl) ⟨rfl, rfl⟩
  · have h := wpO_t h hc
    refine G_iconst (v := 0) rfl K dX11_back_7 ?_
    cases hPHI _ (wpO_some h)
    exact G_iret K hr rfl dX11_back_8 (Nat.le_of_ble_eq_true rfl) (Nat.le_of_ble_eq_true rfl) ⟨rfl, rfl⟩
theorem yd_X10_barredWays : ydN yX10_barredWays 0 := ⟨by decide, by decide, by decide +kernel⟩
theorem yd_X10_allBeings : ydN yX10_allBeings 0 := ⟨by decide, by decide, by decide +kernel⟩
theorem wv_637 : wdV "KeptWell" 358 yX10_barredWays cX10_barredWays 3 (some .int) := ⟨wd_637, wd_638, wd_639, wd_2, wd_640⟩
theorem wv_642 : wdV "KeptWell" 361 yX10_allBeings cX10_allBeings 3 (some .int) := ⟨wd_642, wd_643, wd_644, wd_2, wd_645⟩
def on_X11_count : Nat := 0xac02acf000b43500b42aed00b63500b42aac4b01b40a00b42aac3f01b40a00b42aac6901b60a00b42aac2501b40a00b42aac0e01b40a00b42aac0b01b40a00b42aac7300b40a00b42aac7000b40a00b42aac6601b60a00b42aac7d00b40a00b42aac6600b40a00b42a970000008f000000870000007f000000770000006f000000670000005f000000570000004f000000470000003f0000000b00000000000000a60000000000aa1b
theorem ob_X11_count : OKB cX11_count on_X11_count 169 := ⟨by decide +kernel, by decide +kernel⟩
theorem dX11_count_0 : dc cX11_count 0 1 (.iload_n 1) 1 := o_27 ob_X11_count rfl rfl rfl
theorem dX11_count_64 : dc cX11_count 64 65 (.aload_n 0) 1 := o_42 ob_X11_count rfl rfl rfl
theorem dX11_count_65 : dc cX11_count 65 68 (.getfield 10) 3 := o_180 ob_X11_count rfl rfl rfl rfl
theorem dX11_count_68 : dc cX11_count 68 71 (.getfield 102) 3 := o_180 ob_X11_count rfl rfl rfl rfl
theorem dX11_count_71 : dc cX11_count 71 72 .ireturn 1 := o_172 ob_X11_count rfl rfl rfl
theorem dX11_count_72 : dc cX11_count 72 73 (.aload_n 0) 1 := o_42 ob_X11_count rfl rfl rfl
theorem dX11_count_73 : dc cX11_count 73 76 (.getfield 10) 3 := o_180 ob_X11_count rfl rfl rfl rfl
theorem dX11_count_76 : dc cX11_count 76 79 (.getfield 125) 3 := o_180 ob_X11_count rfl rfl rfl rfl
theorem dX11_count_79 : dc cX11_count 79 80 .ireturn 1 := o_172 ob_X11_count rfl rfl rfl
theorem dX11_count_80 : dc cX11_count 80 81 (.aload_n 0) 1 := o_42 ob_X11_count rfl rfl rfl
theorem dX11_count_81 : dc cX11_count 81 84 (.getfield 10) 3 := o_180 ob_X11_count rfl rfl rfl rfl
theorem dX11_count_84 : dc cX11_count 84 87 (.invokevirtual 358) 3 := o_182 ob_X11_count rfl rfl rfl rfl
theorem dX11_count_87 : dc cX11_count 87 88 .ireturn 1 := o_172 ob_X11_count rfl rfl rfl
theorem dX11_count_88 : dc cX11_count 88 89 (.aload_n 0) 1 := o_42 ob_X11_count rfl rfl rfl
theorem dX11_count_89 : dc cX11_count 89 92 (.getfield 10) 3 := o_180 ob_X11_count rfl rfl rfl rfl
theorem dX11_count_92 : dc cX11_count 92 95 (.getfield 112) 3 := o_180 ob_X11_count rfl rfl rfl rfl
theorem dX11_count_95 : dc cX11_count 95 96 .ireturn 1 := o_172 ob_X11_count rfl rfl rfl
theorem dX11_count_96 : dc cX11_count 96 97 (.aload_n 0) 1 := o_42 ob_X11_count rfl rfl rfl
theorem dX11_count_97 : dc cX11_count 97 100 (.getfield 10) 3 := o_180 ob_X11_count rfl rfl rfl rfl
theorem dX11_count_100 : dc cX11_count 100 103 (.getfield 115) 3 := o_180 ob_X11_count rfl rfl rfl rfl
theorem dX11_count_103 : dc cX11_count 103 104 .ireturn 1 := o_172 ob_X11_count rfl rfl rfl
theorem dX11_count_104 : dc cX11_count 104 105 (.aload_n 0) 1 := o_42 ob_X11_count rfl rfl rfl
theorem dX11_count_105 : dc cX11_count 105 108 (.getfield 10) 3 := o_180 ob_X11_count rfl rfl rfl rfl
theorem dX11_count_108 : dc cX11_count 108 111 (.getfield 267) 3 := o_180 ob_X11_count rfl rfl rfl rfl
theorem dX11_count_111 : dc cX11_count 111 112 .ireturn 1 := o_172 ob_X11_count rfl rfl rfl
theorem dX11_count_112 : dc cX11_count 112 113 (.aload_n 0) 1 := o_42 ob_X11_count rfl rfl rfl
theorem dX11_count_113 : dc cX11_count 113 116 (.getfield 10) 3 := o_180 ob_X11_count rfl rfl rfl rfl
theorem dX11_count_116 : dc cX11_count 116 119 (.getfield 270) 3 := o_180 ob_X11_count rfl rfl rfl rfl
theorem dX11_count_119 : dc cX11_count 119 120 .ireturn 1 := o_172 ob_X11_count rfl rfl rfl
theorem dX11_count_120 : dc cX11_count 120 121 (.aload_n 0) 1 := o_42 ob_X11_count rfl rfl rfl
theorem dX11_count_121 : dc cX11_count 121 124 (.getfield 10) 3 := o_180 ob_X11_count rfl rfl rfl rfl
theorem dX11_count_124 : dc cX11_count 124 127 (.getfield 293) 3 := o_180 ob_X11_count rfl rfl rfl rfl
theorem dX11_count_127 : dc cX11_count 127 128 .ireturn 1 := o_172 ob_X11_count rfl rfl rfl
theorem dX11_count_128 : dc cX11_count 128 129 (.aload_n 0) 1 := o_42 ob_X11_count rfl rfl rfl
theorem dX11_count_129 : dc cX11_count 129 132 (.getfield 10) 3 := o_180 ob_X11_count rfl rfl rfl rfl
theorem dX11_count_132 : dc cX11_count 132 135 (.invokevirtual 361) 3 := o_182 ob_X11_count rfl rfl rfl rfl
theorem dX11_count_135 : dc cX11_count 135 136 .ireturn 1 := o_172 ob_X11_count rfl rfl rfl
theorem dX11_count_136 : dc cX11_count 136 137 (.aload_n 0) 1 := o_42 ob_X11_count rfl rfl rfl
theorem dX11_count_137 : dc cX11_count 137 140 (.getfield 10) 3 := o_180 ob_X11_count rfl rfl rfl rfl
theorem dX11_count_140 : dc cX11_count 140 143 (.getfield 319) 3 := o_180 ob_X11_count rfl rfl rfl rfl
theorem dX11_count_143 : dc cX11_count 143 144 .ireturn 1 := o_172 ob_X11_count rfl rfl rfl
theorem dX11_count_144 : dc cX11_count 144 145 (.aload_n 0) 1 := o_42 ob_X11_count rfl rfl rfl
theorem dX11_count_145 : dc cX11_count 145 148 (.getfield 10) 3 := o_180 ob_X11_count rfl rfl rfl rfl
theorem dX11_count_148 : dc cX11_count 148 151 (.getfield 331) 3 := o_180 ob_X11_count rfl rfl rfl rfl
theorem dX11_count_151 : dc cX11_count 151 152 .ireturn 1 := o_172 ob_X11_count rfl rfl rfl
theorem dX11_count_152 : dc cX11_count 152 153 (.aload_n 0) 1 := o_42 ob_X11_count rfl rfl rfl
theorem dX11_count_153 : dc cX11_count 153 156 (.getfield 53) 3 := o_180 ob_X11_count rfl rfl rfl rfl
theorem dX11_count_156 : dc cX11_count 156 159 (.invokevirtual 237) 3 := o_182 ob_X11_count rfl rfl rfl rfl
theorem dX11_count_159 : dc cX11_count 159 160 (.aload_n 0) 1 := o_42 ob_X11_count rfl rfl rfl
theorem dX11_count_160 : dc cX11_count 160 163 (.getfield 53) 3 := o_180 ob_X11_count rfl rfl rfl rfl
theorem dX11_count_163 : dc cX11_count 163 166 (.getfield 240) 3 := o_180 ob_X11_count rfl rfl rfl rfl
theorem dX11_count_166 : dc cX11_count 166 167 .ireturn 1 := o_172 ob_X11_count rfl rfl rfl
theorem dX11_count_167 : dc cX11_count 167 168 (.iconst (-1)) 1 := o_2 ob_X11_count rfl rfl rfl
theorem dX11_count_168 : dc cX11_count 168 169 .ireturn 1 := o_172 ob_X11_count rfl rfl rfl
theorem drX11_count_1 : ([(1, (.tableswitch 166 0 11 #[63, 71, 79, 87, 95, 103, 111, 119, 127, 135, 143, 151]), 63)] : List (Nat × Instr × Nat)).all (fun q => decide (decode cX11_count q.1 = .ok q.2)) = true := by decide +kernel
theorem dX11_count_1 : dc cX11_count 1 64 (.tableswitch 166 0 11 #[63, 71, 79, 87, 95, 103, 111, 119, 127, 135, 143, 151]) 63 := ⟨dr_at drX11_count_1 (i := 0) rfl, rfl⟩
def F_KW_count (x1 : Int32) (M : Mem) : Option (Int32 × Mem) :=
  if x1 = 0 then some ((M.1 1 0, M)) else if x1 = 1 then some ((M.1 1 6, M)) else if x1 = 2 then (F_Well_barredWays M).bind fun r1 => some ((r1, M)) else if x1 = 3 then some ((M.1 1 1, M)) else if x1 = 4 then some ((M.1 1 2, M)) else if x1 = 5 then some ((M.1 1 3, M)) else if x1 = 6 then some ((M.1 1 4, M)) else if x1 = 7 then some ((M.1 1 7, M)) else if x1 = 8 then (F_Well_allBeings M).bind fun r2 => some ((r2, M)) else if x1 = 9 then some ((M.1 1 5, M)) else if x1 = 10 then some ((M.1 1 8, M)) else if x1 = 11 then (F_Day_findCorners M).bind fun r3 => some ((r3.1 68 5, r3)) else some (((-1), M))
set_option maxRecDepth 100000 in
set_option maxHeartbeats 4000000 in
theorem K_KW_count (l : Launch) (g : GB) (htr : l.stackTraces = false) (x1 : Int32) (M : Mem) (rr : Int32) (MZ : Mem) (h : F_KW_count x1 M = some (rr, MZ)) : CT l g yX11_count (.code yX11_count cX11_count 2 (some .int) :: wAll) { frames := 6, cells := 0, slots := 0, locals := 139 } [.ref (g.2.1 0), .int x1] M (.inl (some (.int rr))) MZ := by
  refine CT.of [(0, .ref (g.2.1 0)), (1, .int x1)] (by decide +kernel) (Nat.le_of_ble_eq_true rfl) rfl htr ?_
  intro p e s m args below meth c K hr ht
  skip
  obtain ⟨PHI, hPHI, h⟩ : ∃ PHI : Int32 × Mem → Prop, (∀ a, PHI a → a = (rr, MZ)) ∧ wpO (F_KW_count x1 M) PHI := ⟨fun a => a = (rr, MZ), fun _ h => h, _, h, rfl⟩
  unfold F_KW_count at h
  refine G_iload_n rfl 1 rfl K dX11_count_0 ?_
  by_cases hs0 : x1 = 0
  · have h := wpO_t h hs0
    refine G_tswIn (k := 0) (tgt := 64) K dX11_count_1 hs0 (by decide) (by decide) rfl (by decide) ?_
    refine G_aload_n rfl 0 rfl K dX11_count_64 ?_
    refine G_get (ci := 11) (k := 0) K rfl in_X11 wd_402 rfl dX11_count_65 (Nat.le_of_ble_eq_true rfl) (sh_0 _ _) (Nat.le_of_ble_eq_true rfl) rfl ?_
    refine G_get (ci := 10) (k := 0) K rfl in_X10 wd_58 rfl dX11_count_68 (Nat.le_of_ble_eq_true rfl) (sh_1 _ _) (Nat.le_of_ble_eq_true rfl) rfl ?_
    cases hPHI _ (wpO_some h)
    exact G_iret K hr rfl dX11_count_71 (Nat.le_of_ble_eq_true rfl) (Nat.le_of_ble_eq_true rfl) ⟨rfl, rfl⟩
  have h := wpO_f h hs0
  by_cases hs1 : x1 = 1
  · have h := wpO_t h hs1
    refine G_tswIn (k := 1) (tgt := 72) K dX11_count_1 hs1 (by decide) (by decide) rfl (by decide) ?_
    refine G_aload_n rfl 0 rfl K dX11_count_72 ?_
    refine G_get (ci := 11) (k := 0) K rfl in_X11 wd_402 rfl dX11_count_73 (Nat.le_of_ble_eq_true rfl) (sh_0 _ _) (Nat.le_of_ble_eq_true rfl) rfl ?_
    refine G_get (ci := 10) (k := 6) K rfl in_X10 wd_86 rfl dX11_count_76 (Nat.le_of_ble_eq_true rfl) (sh_1 _ _) (Nat.le_of_ble_eq_true rfl) rfl ?_
    cases hPHI _ (wpO_some h)
    exact G_iret K hr rfl dX11_count_79 (Nat.le_of_ble_eq_true rfl) (Nat.le_of_ble_eq_true rfl) ⟨rfl, rfl⟩
  have h := wpO_f h hs1
  by_cases hs2 : x1 = 2
  · have h := wpO_t h hs2
    refine G_tswIn (k := 2) (tgt := 80) K dX11_count_1 hs2 (by decide) (by decide) rfl (by decide) ?_
    refine G_aload_n rfl 0 rfl K dX11_count_80 ?_
    refine G_get (ci := 11) (k := 0) K rfl in_X11 wd_402 rfl dX11_count_81 (Nat.le_of_ble_eq_true rfl) (sh_0 _ _) (Nat.le_of_ble_eq_true rfl) rfl ?_
    obtain ⟨r1, e1, h⟩ := wpO_bind h
    refine G_callVi (ci := 10) [] [] K dX11_count_84 wv_637 yd_X10_barredWays (Nat.le_of_ble_eq_true rfl) (sh_1 _ _) rfl (by decide) (by decide) rfl rfl (Nat.le_of_ble_eq_true rfl) (K_Well_barredWays l g htr  M _ e1) ?_
    cases hPHI _ (wpO_some h)
    exact G_iret K hr rfl dX11_count_87 (Nat.le_of_ble_eq_true rfl) (Nat.le_of_ble_eq_true rfl) ⟨rfl, rfl⟩
  have h := wpO_f h hs2
  by_cases hs3 : x1 = 3
  · have h := wpO_t h hs3
    refine G_tswIn (k := 3) (tgt := 88) K dX11_count_1 hs3 (by decide) (by decide) rfl (by decide) ?_
    refine G_aload_n rfl 0 rfl K dX11_count_88 ?_
    refine G_get (ci := 11) (k := 0) K rfl in_X11 wd_402 rfl dX11_count_89 (Nat.le_of_ble_eq_true rfl) (sh_0 _ _) (Nat.le_of_ble_eq_true rfl) rfl ?_
    refine G_get (ci := 10) (k := 1) K rfl in_X10 wd_64 rfl dX11_count_92 (Nat.le_of_ble_eq_true rfl) (sh_1 _ _) (Nat.le_of_ble_eq_true rfl) rfl ?_
    cases hPHI _ (wpO_some h)
    exact G_iret K hr rfl dX11_count_95 (Nat.le_of_ble_eq_true rfl) (Nat.le_of_ble_eq_true rfl) ⟨rfl, rfl⟩
  have h := wpO_f h hs3
  by_cases hs4 : x1 = 4
  · have h := wpO_t h hs4
    refine G_tswIn (k := 4) (tgt := 96) K dX11_count_1 hs4 (by decide) (by decide) rfl (by decide) ?_
    refine G_aload_n rfl 0 rfl K dX11_count_96 ?_
    refine G_get (ci := 11) (k := 0) K rfl in_X11 wd_402 rfl dX11_count_97 (Nat.le_of_ble_eq_true rfl) (sh_0 _ _) (Nat.le_of_ble_eq_true rfl) rfl ?_
    refine G_get (ci := 10) (k := 2) K rfl in_X10 wd_70 rfl dX11_count_100 (Nat.le_of_ble_eq_true rfl) (sh_1 _ _) (Nat.le_of_ble_eq_true rfl) rfl ?_
    cases hPHI _ (wpO_some h)
    exact G_iret K hr rfl dX11_count_103 (Nat.le_of_ble_eq_true rfl) (Nat.le_of_ble_eq_true rfl) ⟨rfl, rfl⟩
  have h := wpO_f h hs4
  by_cases hs5 : x1 = 5
  · have h := wpO_t h hs5
    refine G_tswIn (k := 5) (tgt := 104) K dX11_count_1 hs5 (by decide) (by decide) rfl (by decide) ?_
    refine G_aload_n rfl 0 rfl K dX11_count_104 ?_
    refine G_get (ci := 11) (k := 0) K rfl in_X11 wd_402 rfl dX11_count_105 (Nat.le_of_ble_eq_true rfl) (sh_0 _ _) (Nat.le_of_ble_eq_true rfl) rfl ?_
    refine G_get (ci := 10) (k := 3) K rfl in_X10 wd_76 rfl dX11_count_108 (Nat.le_of_ble_eq_true rfl) (sh_1 _ _) (Nat.le_of_ble_eq_true rfl) rfl ?_
    cases hPHI _ (wpO_some h)
    exact G_iret K hr rfl dX11_count_111 (Nat.le_of_ble_eq_true rfl) (Nat.le_of_ble_eq_true rfl) ⟨rfl, rfl⟩
  have h := wpO_f h hs5
  by_cases hs6 : x1 = 6
  · have h := wpO_t h hs6
    refine G_tswIn (k := 6) (tgt := 112) K dX11_count_1 hs6 (by decide) (by decide) rfl (by decide) ?_
    refine G_aload_n rfl 0 rfl K dX11_count_112 ?_
    refine G_get (ci := 11) (k := 0) K rfl in_X11 wd_402 rfl dX11_count_113 (Nat.le_of_ble_eq_true rfl) (sh_0 _ _) (Nat.le_of_ble_eq_true rfl) rfl ?_
    refine G_get (ci := 10) (k := 4) K rfl in_X10 wd_80 rfl dX11_count_116 (Nat.le_of_ble_eq_true rfl) (sh_1 _ _) (Nat.le_of_ble_eq_true rfl) rfl ?_
    cases hPHI _ (wpO_some h)
    exact G_iret K hr rfl dX11_count_119 (Nat.le_of_ble_eq_true rfl) (Nat.le_of_ble_eq_true rfl) ⟨rfl, rfl⟩
  have h := wpO_f h hs6
  by_cases hs7 : x1 = 7
  · have h := wpO_t h hs7
    refine G_tswIn (k := 7) (tgt := 120) K dX11_count_1 hs7 (by decide) (by decide) rfl (by decide) ?_
    refine G_aload_n rfl 0 rfl K dX11_count_120 ?_
    refine G_get (ci := 11) (k := 0) K rfl in_X11 wd_402 rfl dX11_count_121 (Nat.le_of_ble_eq_true rfl) (sh_0 _ _) (Nat.le_of_ble_eq_true rfl) rfl ?_
    refine G_get (ci := 10) (k := 7) K rfl in_X10 wd_90 rfl dX11_count_124 (Nat.le_of_ble_eq_true rfl) (sh_1 _ _) (Nat.le_of_ble_eq_true rfl) rfl ?_
    cases hPHI _ (wpO_some h)
    exact G_iret K hr rfl dX11_count_127 (Nat.le_of_ble_eq_true rfl) (Nat.le_of_ble_eq_true rfl) ⟨rfl, rfl⟩
  have h := wpO_f h hs7
  by_cases hs8 : x1 = 8
  · have h := wpO_t h hs8
    refine G_tswIn (k := 8) (tgt := 128) K dX11_count_1 hs8 (by decide) (by decide) rfl (by decide) ?_
    refine G_aload_n rfl 0 rfl K dX11_count_128 ?_
    refine G_get (ci := 11) (k := 0) K rfl in_X11 wd_402 rfl dX11_count_129 (Nat.le_of_ble_eq_true rfl) (sh_0 _ _) (Nat.le_of_ble_eq_true rfl) rfl ?_
    obtain ⟨r2, e2, h⟩ := wpO_bind h
    refine G_callVi (ci := 10) [] [] K dX11_count_132 wv_642 yd_X10_allBeings (Nat.le_of_ble_eq_true rfl) (sh_1 _ _) rfl (by decide) (by decide) rfl rfl (Nat.le_of_ble_eq_true rfl) (K_Well_allBeings l g htr  M _ e2) ?_
    cases hPHI _ (wpO_some h)
    exact G_iret K hr rfl dX11_count_135 (Nat.le_of_ble_eq_true rfl) (Nat.le_of_ble_eq_true rfl) ⟨rfl, rfl⟩
  have h := wpO_f h hs8
  by_cases hs9 : x1 = 9
  · have h := wpO_t h hs9
    refine G_tswIn (k := 9) (tgt := 136) K dX11_count_1 hs9 (by decide) (by decide) rfl (by decide) ?_
    refine G_aload_n rfl 0 rfl K dX11_count_136 ?_
    refine G_get (ci := 11) (k := 0) K rfl in_X11 wd_402 rfl dX11_count_137 (Nat.le_of_ble_eq_true rfl) (sh_0 _ _) (Nat.le_of_ble_eq_true rfl) rfl ?_
    refine G_get (ci := 10) (k := 5) K rfl in_X10 wd_83 rfl dX11_count_140 (Nat.le_of_ble_eq_true rfl) (sh_1 _ _) (Nat.le_of_ble_eq_true rfl) rfl ?_
    cases hPHI _ (wpO_some h)
    exact G_iret K hr rfl dX11_count_143 (Nat.le_of_ble_eq_true rfl) (Nat.le_of_ble_eq_true rfl) ⟨rfl, rfl⟩
  have h := wpO_f h hs9
  by_cases hs10 : x1 = 10
  · have h := wpO_t h hs10
    refine G_tswIn (k := 10) (tgt := 144) K dX11_count_1 hs10 (by decide) (by decide) rfl (by decide) ?_
    refine G_aload_n rfl 0 rfl K dX11_count_144 ?_
    refine G_get (ci := 11) (k := 0) K rfl in_X11 wd_402 rfl dX11_count_145 (Nat.le_of_ble_eq_true rfl) (sh_0 _ _) (Nat.le_of_ble_eq_true rfl) rfl ?_
    refine G_get (ci := 10) (k := 8) K rfl in_X10 wd_93 rfl dX11_count_148 (Nat.le_of_ble_eq_true rfl) (sh_1 _ _) (Nat.le_of_ble_eq_true rfl) rfl ?_
    cases hPHI _ (wpO_some h)
    exact G_iret K hr rfl dX11_count_151 (Nat.le_of_ble_eq_true rfl) (Nat.le_of_ble_eq_true rfl) ⟨rfl, rfl⟩
  have h := wpO_f h hs10
  by_cases hs11 : x1 = 11
  · have h := wpO_t h hs11
    refine G_tswIn (k := 11) (tgt := 152) K dX11_count_1 hs11 (by decide) (by decide) rfl (by decide) ?_
    refine G_aload_n rfl 0 rfl K dX11_count_152 ?_
    refine G_get (ci := 11) (k := 7) K rfl in_X11 wd_409 rfl dX11_count_153 (Nat.le_of_ble_eq_true rfl) (sh_0 _ _) (Nat.le_of_ble_eq_true rfl) rfl ?_
    obtain ⟨r3, e3, h⟩ := wpO_bind h
    refine G_callVv (ci := 4) [] [] K dX11_count_156 wv_586 yd_X4_findCorners (Nat.le_of_ble_eq_true rfl) (sh_68 _ _) rfl (by decide) (by decide) rfl rfl (Nat.le_of_ble_eq_true rfl) (K_Day_findCorners l g htr  M _ e3) ?_
    refine G_aload_n rfl 0 rfl K dX11_count_159 ?_
    refine G_get (ci := 11) (k := 7) K rfl in_X11 wd_409 rfl dX11_count_160 (Nat.le_of_ble_eq_true rfl) (sh_0 _ _) (Nat.le_of_ble_eq_true rfl) rfl ?_
    refine G_get (ci := 4) (k := 5) K rfl in_X4 wd_288 rfl dX11_count_163 (Nat.le_of_ble_eq_true rfl) (sh_68 _ _) (Nat.le_of_ble_eq_true rfl) rfl ?_
    cases hPHI _ (wpO_some h)
    exact G_iret K hr rfl dX11_count_166 (Nat.le_of_ble_eq_true rfl) (Nat.le_of_ble_eq_true rfl) ⟨rfl, rfl⟩
  have h := wpO_f h hs11
  have ht0 := ne_i (n := 0) (by decide) hs0
  have ht1 := ne_i (n := 1) (by decide) hs1
  have ht2 := ne_i (n := 2) (by decide) hs2
  have ht3 := ne_i (n := 3) (by decide) hs3
  have ht4 := ne_i (n := 4) (by decide) hs4
  have ht5 := ne_i (n := 5) (by decide) hs5
  have ht6 := ne_i (n := 6) (by decide) hs6
  have ht7 := ne_i (n := 7) (by decide) hs7
  have ht8 := ne_i (n := 8) (by decide) hs8
  have ht9 := ne_i (n := 9) (by decide) hs9
  have ht10 := ne_i (n := 10) (by decide) hs10
  have ht11 := ne_i (n := 11) (by decide) hs11
  refine G_tswOut (tgt := 167) K dX11_count_1 (by omega) (by decide) ?_
  refine G_iconst (v := (-1)) rfl K dX11_count_167 ?_
  cases hPHI _ (wpO_some h)
  exact G_iret K hr rfl dX11_count_168 (Nat.le_of_ble_eq_true rfl) (Nat.le_of_ble_eq_true rfl) ⟨rfl, rfl⟩
