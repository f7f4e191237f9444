theorem yd_X11_acts : ydN yX11_acts 1 := ⟨by decide, by decide, by decide +kernel⟩
theorem wv_650 : wdV "KeptWellLaw" 7 yX11_acts cX11_acts 2 none := ⟨wd_650, wd_651, wd_652, wd_1, wd_653⟩
def on_L_acts : Nat := 0xac03ac044d0600a70700b61b2a
theorem ob_L_acts : OKB cL_acts on_L_acts 13 := ⟨by decide +kernel, by decide +kernel⟩
theorem dL_acts_0 : dc cL_acts 0 1 (.aload_n 0) 1 := o_42 ob_L_acts rfl rfl rfl
theorem dL_acts_1 : dc cL_acts 1 2 (.iload_n 1) 1 := o_27 ob_L_acts rfl rfl rfl
theorem dL_acts_2 : dc cL_acts 2 5 (.invokevirtual 7) 3 := o_182 ob_L_acts rfl rfl rfl rfl
theorem dL_acts_5 : dc cL_acts 5 8 (.goto 6) 3 := o_167 ob_L_acts rfl rfl rfl rfl
theorem dL_acts_8 : dc cL_acts 8 9 (.astore_n 2) 1 := o_77 ob_L_acts rfl rfl rfl
theorem dL_acts_9 : dc cL_acts 9 10 (.iconst 1) 1 := o_4 ob_L_acts rfl rfl rfl
theorem dL_acts_10 : dc cL_acts 10 11 .ireturn 1 := o_172 ob_L_acts rfl rfl rfl
theorem dL_acts_11 : dc cL_acts 11 12 (.iconst 0) 1 := o_3 ob_L_acts rfl rfl rfl
theorem dL_acts_12 : dc cL_acts 12 13 .ireturn 1 := o_172 ob_L_acts rfl rfl rfl
def F_LAW_acts (x1 : Int32) (M : Mem) : Option (Int32 × Mem) :=
  hbind (F_KW_acts x1 M) (fun E1 M1 => if E1 = "java/lang/IllegalArgumentException" then some ((1, M1)) else none) fun _ M1 => some ((0, M1))
set_option maxRecDepth 100000 in
set_option maxHeartbeats 4000000 in
theorem K_LAW_acts (l : Launch) (g : GB) (htr : l.stackTraces = false) (x1 : Int32) (M : Mem) (rr : Int32) (MZ : Mem) (h : F_LAW_acts x1 M = some (rr, MZ)) : CT l g yL_acts (.codeWith yL_acts cL_acts 3 (some .int) [(0, 5, 8, 13)] :: wAll) { frames := 8, cells := 1, slots := 6, locals := 144 } [.ref (g.2.1 0), .int x1] M (.inl (some (.int rr))) MZ := by
  refine CT.ofH [(0, .ref (g.2.1 0)), (1, .int x1)] (by decide +kernel) (Nat.le_of_ble_eq_true rfl) rfl htr ?_
  intro p e s m args below meth c K hr htb
  skip
  obtain ⟨PHI, hPHI, h⟩ : ∃ PHI : Int32 × Mem → Prop, (∀ a, PHI a → a = (rr, MZ)) ∧ wpO (F_LAW_acts x1 M) PHI := ⟨fun a => a = (rr, MZ), fun _ h => h, _, h, rfl⟩
  unfold F_LAW_acts at h
  refine G_aload_n rfl 0 rfl K dL_acts_0 ?_
  refine G_iload_n rfl 1 rfl K dL_acts_1 ?_
  obtain ⟨E1, M1, e1, h⟩ | ⟨r1, M1, e1, h⟩ := wpO_h h
  · by_cases hE0 : E1 = "java/lang/IllegalArgumentException"
    · subst hE0
      have h := wpO_t h rfl
      refine G_callXVt (ci := 11) [.int x1] [] K dL_acts_2 wv_650 yd_X11_acts (Nat.le_of_ble_eq_true rfl) (sh_0 _ _) rfl (by decide) (by decide) rfl rfl (Nat.le_of_ble_eq_true rfl) (K_KW_acts l g htr x1 M _ _ e1) (G_catch [] (0, 5, 8, 13) [] K htb rfl (fun _ hz => absurd hz List.not_mem_nil) rfl (by decide) wd_649 (by decide) (fun q => ?_))
      refine G_astore_n rfl K dL_acts_8 (Nat.le_of_ble_eq_true rfl) rfl ?_
      refine G_iconst (v := 1) rfl K dL_acts_9 ?_
      cases hPHI _ (wpO_some h)
      exact G_iret K hr rfl dL_acts_10 (Nat.le_of_ble_eq_true rfl) (Nat.le_of_ble_eq_true rfl) ⟨rfl, rfl⟩
    have h := wpO_f h hE0
    exact wpO_none h
  refine G_callXVv (ci := 11) [.int x1] [] K dL_acts_2 wv_650 yd_X11_acts (Nat.le_of_ble_eq_true rfl) (sh_0 _ _) rfl (by decide) (by decide) rfl rfl (Nat.le_of_ble_eq_true rfl) (K_KW_acts l g htr x1 M _ _ e1) ?_
  refine G_goto (tgt := 11) K dL_acts_5 (by decide) ?_
  refine G_iconst (v := 0) rfl K dL_acts_11 ?_
  cases hPHI _ (wpO_some h)
  exact G_iret K hr rfl dL_acts_12 (Nat.le_of_ble_eq_true rfl) (Nat.le_of_ble_eq_true rfl) ⟨rfl, rfl⟩
theorem yd_X11_bring : ydN yX11_bring 4 := ⟨by decide, by decide, by decide +kernel⟩
theorem wv_727 : wdV "KeptWellLaw" 15 yX11_bring cX11_bring 5 none := ⟨wd_727, wd_728, wd_729, wd_1, wd_730⟩
def on_L_bring : Nat := 0xac03ac05053aac04053a0b00a70f00b604151d1c1b2a
theorem ob_L_bring : OKB cL_bring on_L_bring 22 := ⟨by decide +kernel, by decide +kernel⟩
theorem dL_bring_0 : dc cL_bring 0 1 (.aload_n 0) 1 := o_42 ob_L_bring rfl rfl rfl
theorem dL_bring_1 : dc cL_bring 1 2 (.iload_n 1) 1 := o_27 ob_L_bring rfl rfl rfl
theorem dL_bring_2 : dc cL_bring 2 3 (.iload_n 2) 1 := o_28 ob_L_bring rfl rfl rfl
theorem dL_bring_3 : dc cL_bring 3 4 (.iload_n 3) 1 := o_29 ob_L_bring rfl rfl rfl
theorem dL_bring_4 : dc cL_bring 4 6 (.iload 4) 2 := o_21 ob_L_bring rfl rfl rfl rfl
theorem dL_bring_6 : dc cL_bring 6 9 (.invokevirtual 15) 3 := o_182 ob_L_bring rfl rfl rfl rfl
theorem dL_bring_9 : dc cL_bring 9 12 (.goto 11) 3 := o_167 ob_L_bring rfl rfl rfl rfl
theorem dL_bring_12 : dc cL_bring 12 14 (.astore 5) 2 := o_58 ob_L_bring rfl rfl rfl rfl
theorem dL_bring_14 : dc cL_bring 14 15 (.iconst 1) 1 := o_4 ob_L_bring rfl rfl rfl
theorem dL_bring_15 : dc cL_bring 15 16 .ireturn 1 := o_172 ob_L_bring rfl rfl rfl
theorem dL_bring_16 : dc cL_bring 16 18 (.astore 5) 2 := o_58 ob_L_bring rfl rfl rfl rfl
theorem dL_bring_18 : dc cL_bring 18 19 (.iconst 2) 1 := o_5 ob_L_bring rfl rfl rfl
theorem dL_bring_19 : dc cL_bring 19 20 .ireturn 1 := o_172 ob_L_bring rfl rfl rfl
theorem dL_bring_20 : dc cL_bring 20 21 (.iconst 0) 1 := o_3 ob_L_bring rfl rfl rfl
theorem dL_bring_21 : dc cL_bring 21 22 .ireturn 1 := o_172 ob_L_bring rfl rfl rfl
def F_LAW_bring (x1 : Int32) (x2 : Int32) (x3 : Int32) (x4 : Int32) (M : Mem) : Option (Int32 × Mem) :=
  hbind (F_KW_bring x1 x2 x3 x4 M) (fun E1 M1 => if E1 = "java/lang/IndexOutOfBoundsException" then some ((1, M1)) else if E1 = "java/lang/IllegalArgumentException" then some ((2, M1)) else none) fun _ M1 => some ((0, M1))
set_option maxRecDepth 100000 in
set_option maxHeartbeats 4000000 in
theorem K_LAW_bring (l : Launch) (g : GB) (htr : l.stackTraces = false) (x1 : Int32) (x2 : Int32) (x3 : Int32) (x4 : Int32) (M : Mem) (rr : Int32) (MZ : Mem) (h : F_LAW_bring x1 x2 x3 x4 M = some (rr, MZ)) : CT l g yL_bring (.codeWith yL_bring cL_bring 6 (some .int) [(0, 9, 12, 19), (0, 9, 16, 13)] :: wAll) { frames := 8, cells := 4, slots := 24, locals := 147 } [.ref (g.2.1 0), .int x1, .int x2, .int x3, .int x4] M (.inl (some (.int rr))) MZ := by
  refine CT.ofH [(0, .ref (g.2.1 0)), (1, .int x1), (2, .int x2), (3, .int x3), (4, .int x4)] (by decide +kernel) (Nat.le_of_ble_eq_true rfl) rfl htr ?_
  intro p e s m args below meth c K hr htb
  skip
  obtain ⟨PHI, hPHI, h⟩ : ∃ PHI : Int32 × Mem → Prop, (∀ a, PHI a → a = (rr, MZ)) ∧ wpO (F_LAW_bring x1 x2 x3 x4 M) PHI := ⟨fun a => a = (rr, MZ), fun _ h => h, _, h, rfl⟩
  unfold F_LAW_bring at h
  refine G_aload_n rfl 0 rfl K dL_bring_0 ?_
  refine G_iload_n rfl 1 rfl K dL_bring_1 ?_
  refine G_iload_n rfl 2 rfl K dL_bring_2 ?_
  refine G_iload_n rfl 3 rfl K dL_bring_3 ?_
  refine G_iload 4 rfl K dL_bring_4 ?_
  obtain ⟨E1, M1, e1, h⟩ | ⟨r1, M1, e1, h⟩ := wpO_h h
  · by_cases hE0 : E1 = "java/lang/IndexOutOfBoundsException"
    · subst hE0
      have h := wpO_t h rfl
      refine G_callXVt (ci := 11) [.int x1, .int x2, .int x3, .int x4] [] K dL_bring_6 wv_727 yd_X11_bring (Nat.le_of_ble_eq_true rfl) (sh_0 _ _) rfl (by decide) (by decide) rfl rfl (Nat.le_of_ble_eq_true rfl) (K_KW_bring l g htr x1 x2 x3 x4 M _ _ e1) (G_catch [] (0, 9, 12, 19) [(0, 9, 16, 13)] K htb rfl (fun _ hz => absurd hz List.not_mem_nil) rfl (by decide) wd_726 (by decide) (fun q => ?_))
      refine G_astore K dL_bring_12 (Nat.le_of_ble_eq_true rfl) rfl ?_
      refine G_iconst (v := 1) rfl K dL_bring_14 ?_
      cases hPHI _ (wpO_some h)
      exact G_iret K hr rfl dL_bring_15 (Nat.le_of_ble_eq_true rfl) (Nat.le_of_ble_eq_true rfl) ⟨rfl, rfl⟩
    have h := wpO_f h hE0
    by_cases hE1 : E1 = "java/lang/IllegalArgumentException"
    · subst hE1
      have h := wpO_t h rfl
      refine G_callXVt (ci := 11) [.int x1, .int x2, .int x3, .int x4] [] K dL_bring_6 wv_727 yd_X11_bring (Nat.le_of_ble_eq_true rfl) (sh_0 _ _) rfl (by decide) (by decide) rfl rfl (Nat.le_of_ble_eq_true rfl) (K_KW_bring l g htr x1 x2 x3 x4 M _ _ e1) (G_catch [(0, 9, 12, 19)] (0, 9, 16, 13) [] K htb rfl (List.forall_mem_cons.mpr ⟨⟨by decide, "java/lang/IndexOutOfBoundsException", wd_726, by decide⟩, fun _ h => absurd h List.not_mem_nil⟩) rfl (by decide) wd_649 (by decide) (fun q => ?_))
      refine G_astore K dL_bring_16 (Nat.le_of_ble_eq_true rfl) rfl ?_
      refine G_iconst (v := 2) rfl K dL_bring_18 ?_
      cases hPHI _ (wpO_some h)
      exact G_iret K hr rfl dL_bring_19 (Nat.le_of_ble_eq_true rfl) (Nat.le_of_ble_eq_true rfl) ⟨rfl, rfl⟩
    have h := wpO_f h hE1
    exact wpO_none h
  refine G_callXVv (ci := 11) [.int x1, .int x2, .int x3, .int x4] [] K dL_bring_6 wv_727 yd_X11_bring (Nat.le_of_ble_eq_true rfl) (sh_0 _ _) rfl (by decide) (by decide) rfl rfl (Nat.le_of_ble_eq_true rfl) (K_KW_bring l g htr x1 x2 x3 x4 M _ _ e1) ?_
  refine G_goto (tgt := 20) K dL_bring_9 (by decide) ?_
  refine G_iconst (v := 0) rfl K dL_bring_20 ?_
  cases hPHI _ (wpO_some h)
  exact G_iret K hr rfl dL_bring_21 (Nat.le_of_ble_eq_true rfl) (Nat.le_of_ble_eq_true rfl) ⟨rfl, rfl⟩
theorem yd_X11_tomorrow : ydN yX11_tomorrow 2 := ⟨by decide, by decide, by decide +kernel⟩
theorem wv_758 : wdV "KeptWellLaw" 21 yX11_tomorrow cX11_tomorrow 3 none := ⟨wd_758, wd_759, wd_760, wd_1, wd_761⟩
def on_L_tomorrow : Nat := 0xac03ac044e0600a71500b61c1b2a
theorem ob_L_tomorrow : OKB cL_tomorrow on_L_tomorrow 14 := ⟨by decide +kernel, by decide +kernel⟩
theorem dL_tomorrow_0 : dc cL_tomorrow 0 1 (.aload_n 0) 1 := o_42 ob_L_tomorrow rfl rfl rfl
theorem dL_tomorrow_1 : dc cL_tomorrow 1 2 (.iload_n 1) 1 := o_27 ob_L_tomorrow rfl rfl rfl
theorem dL_tomorrow_2 : dc cL_tomorrow 2 3 (.iload_n 2) 1 := o_28 ob_L_tomorrow rfl rfl rfl
theorem dL_tomorrow_3 : dc cL_tomorrow 3 6 (.invokevirtual 21) 3 := o_182 ob_L_tomorrow rfl rfl rfl rfl
theorem dL_tomorrow_6 : dc cL_tomorrow 6 9 (.goto 6) 3 := o_167 ob_L_tomorrow rfl rfl rfl rfl
theorem dL_tomorrow_9 : dc cL_tomorrow 9 10 (.astore_n 3) 1 := o_78 ob_L_tomorrow rfl rfl rfl
theorem dL_tomorrow_10 : dc cL_tomorrow 10 11 (.iconst 1) 1 := o_4 ob_L_tomorrow rfl rfl rfl
theorem dL_tomorrow_11 : dc cL_tomorrow 11 12 .ireturn 1 := o_172 ob_L_tomorrow rfl rfl rfl
theorem dL_tomorrow_12 : dc cL_tomorrow 12 13 (.iconst 0) 1 := o_3 ob_L_tomorrow rfl rfl rfl
theorem dL_tomorrow_13 : dc cL_tomorrow 13 14 .ireturn 1 := o_172 ob_L_tomorrow rfl rfl rfl
def F_LAW_tomorrow (x1 : Int32) (x2 : Int32) (M : Mem) : Option (Int32 × Mem) :=
  hbind (F_KW_tomorrow x1 x2 M) (fun E1 M1 => if E1 = "java/lang/IllegalArgumentException" then some ((1, M1)) else none) fun _ M1 => some ((0, M1))
set_option maxRecDepth 100000 in
set_option maxHeartbeats 4000000 in
theorem K_LAW_tomorrow (l : Launch) (g : GB) (htr : l.stackTraces = false) (x1 : Int32) (x2 : Int32) (M : Mem) (rr : Int32) (MZ : Mem) (h : F_LAW_tomorrow x1 x2 M = some (rr, MZ)) : CT l g yL_tomorrow (.codeWith yL_tomorrow cL_tomorrow 4 (some .int) [(0, 6, 9, 13)] :: wAll) { frames := 8, cells := 2, slots := 12, locals := 145 } [.ref (g.2.1 0), .int x1, .int x2] M (.inl (some (.int rr))) MZ := by
  refine CT.ofH [(0, .ref (g.2.1 0)), (1, .int x1), (2, .int x2)] (by decide +kernel) (Nat.le_of_ble_eq_true rfl) rfl htr ?_
  intro p e s m args below meth c K hr htb
  skip
  obtain ⟨PHI, hPHI, h⟩ : ∃ PHI : Int32 × Mem → Prop, (∀ a, PHI a → a = (rr, MZ)) ∧ wpO (F_LAW_tomorrow x1 x2 M) PHI := ⟨fun a => a = (rr, MZ), fun _ h => h, _, h, rfl⟩
  unfold F_LAW_tomorrow at h
  refine G_aload_n rfl 0 rfl K dL_tomorrow_0 ?_
  refine G_iload_n rfl 1 rfl K dL_tomorrow_1 ?_
  refine G_iload_n rfl 2 rfl K dL_tomorrow_2 ?_
  obtain ⟨E1, M1, e1, h⟩ | ⟨r1, M1, e1, h⟩ := wpO_h h
  · by_cases hE0 : E1 = "java/lang/IllegalArgumentException"
    · subst hE0
      have h := wpO_t h rfl
      refine G_callXVt (ci := 11) [.int x1, .int x2] [] K dL_tomorrow_3 wv_758 yd_X11_tomorrow (Nat.le_of_ble_eq_true rfl) (sh_0 _ _) rfl (by decide) (by decide) rfl rfl (Nat.le_of_ble_eq_true rfl) (K_KW_tomorrow l g htr x1 x2 M _ _ e1) (G_catch [] (0, 6, 9, 13) [] K htb rfl (fun _ hz => absurd hz List.not_mem_nil) rfl (by decide) wd_649 (by decide) (fun q => ?_))
      refine G_astore_n rfl K dL_tomorrow_9 (Nat.le_of_ble_eq_true rfl) rfl ?_
      refine G_iconst (v := 1) rfl K dL_tomorrow_10 ?_
      cases hPHI _ (wpO_some h)
      exact G_iret K hr rfl dL_tomorrow_11 (Nat.le_of_ble_eq_true rfl) (Nat.le_of_ble_eq_true rfl) ⟨rfl, rfl⟩
    have h := wpO_f h hE0
    exact wpO_none h
  refine G_callXVv (ci := 11) [.int x1, .int x2] [] K dL_tomorrow_3 wv_758 yd_X11_tomorrow (Nat.le_of_ble_eq_true rfl) (sh_0 _ _) rfl (by decide) (by decide) rfl rfl (Nat.le_of_ble_eq_true rfl) (K_KW_tomorrow l g htr x1 x2 M _ _ e1) ?_
  refine G_goto (tgt := 12) K dL_tomorrow_6 (by decide) ?_
  refine G_iconst (v := 0) rfl K dL_tomorrow_12 ?_
  cases hPHI _ (wpO_some h)
  exact G_iret K hr rfl dL_tomorrow_13 (Nat.le_of_ble_eq_true rfl) (Nat.le_of_ble_eq_true rfl) ⟨rfl, rfl⟩
theorem yd_X11_way : ydN yX11_way 0 := ⟨by decide, by decide, by decide +kernel⟩
theorem wv_766 : wdV "KeptWellLaw" 25 yX11_way cX11_way 1 (some .int) := ⟨wd_766, wd_767, wd_768, wd_1, wd_769⟩
def on_L_way : Nat := 0xac03ac054dac044d0900a750851900b62a032b
theorem ob_L_way : OKB cL_way on_L_way 19 := ⟨by decide +kernel, by decide +kernel⟩
theorem dL_way_0 : dc cL_way 0 1 (.aload_n 1) 1 := o_43 ob_L_way rfl rfl rfl
theorem dL_way_1 : dc cL_way 1 2 (.iconst 0) 1 := o_3 ob_L_way rfl rfl rfl
theorem dL_way_2 : dc cL_way 2 3 (.aload_n 0) 1 := o_42 ob_L_way rfl rfl rfl
theorem dL_way_3 : dc cL_way 3 6 (.invokevirtual 25) 3 := o_182 ob_L_way rfl rfl rfl rfl
theorem dL_way_6 : dc cL_way 6 7 .i2l 1 := o_133 ob_L_way rfl rfl rfl
theorem dL_way_7 : dc cL_way 7 8 .lastore 1 := o_80 ob_L_way rfl rfl rfl
theorem dL_way_8 : dc cL_way 8 11 (.goto 9) 3 := o_167 ob_L_way rfl rfl rfl rfl
theorem dL_way_11 : dc cL_way 11 12 (.astore_n 2) 1 := o_77 ob_L_way rfl rfl rfl
theorem dL_way_12 : dc cL_way 12 13 (.iconst 1) 1 := o_4 ob_L_way rfl rfl rfl
theorem dL_way_13 : dc cL_way 13 14 .ireturn 1 := o_172 ob_L_way rfl rfl rfl
theorem dL_way_14 : dc cL_way 14 15 (.astore_n 2) 1 := o_77 ob_L_way rfl rfl rfl
theorem dL_way_15 : dc cL_way 15 16 (.iconst 2) 1 := o_5 ob_L_way rfl rfl rfl
theorem dL_way_16 : dc cL_way 16 17 .ireturn 1 := o_172 ob_L_way rfl rfl rfl
theorem dL_way_17 : dc cL_way 17 18 (.iconst 0) 1 := o_3 ob_L_way rfl rfl rfl
theorem dL_way_18 : dc cL_way 18 19 .ireturn 1 := o_172 ob_L_way rfl rfl rfl
def F_LAW_way (M : Mem) : Option (Int32 × Mem) :=
  hbind (F_KW_way M) (fun E1 M1 => if E1 = "java/lang/IllegalArgumentException" then some ((1, M1)) else if E1 = "java/lang/UnsupportedOperationException" then some ((2, M1)) else none) fun r1 M1 => if inb ((0 : Int32)) 1 then some ((0, mSL M1 121 ((0 : Int32)).toNatClampNeg r1.toInt64)) else none
set_option maxRecDepth 100000 in
set_option maxHeartbeats 4000000 in
theorem K_LAW_way (l : Launch) (g : GB) (htr : l.stackTraces = false) (M : Mem) (rr : Int32) (MZ : Mem) (h : F_LAW_way M = some (rr, MZ)) : CT l g yL_way (.codeWith yL_way cL_way 3 (some .int) [(0, 8, 11, 13), (0, 8, 14, 29)] :: wAll) { frames := 9, cells := 1, slots := 6, locals := 197 } [.ref (g.2.1 0), .ref (g.2.1 121)] M (.inl (some (.int rr))) MZ := by
  refine CT.ofH [(0, .ref (g.2.1 0)), (1, .ref (g.2.1 121))] (by decide +kernel) (Nat.le_of_ble_eq_true rfl) rfl htr ?_
  intro p e s m args below meth c K hr htb
  skip
  obtain ⟨PHI, hPHI, h⟩ : ∃ PHI : Int32 × Mem → Prop, (∀ a, PHI a → a = (rr, MZ)) ∧ wpO (F_LAW_way M) PHI := ⟨fun a => a = (rr, MZ), fun _ h => h, _, h, rfl⟩
  unfold F_LAW_way at h
  refine G_aload_n rfl 1 rfl K dL_way_0 ?_
  refine G_iconst (v := 0) rfl K dL_way_1 ?_
  refine G_aload_n rfl 0 rfl K dL_way_2 ?_
  obtain ⟨E1, M1, e1, h⟩ | ⟨r1, M1, e1, h⟩ := wpO_h h
  · by_cases hE0 : E1 = "java/lang/IllegalArgumentException"
    · subst hE0
      have h := wpO_t h rfl
      refine G_callXVt (ci := 11) [] [.int 0, .ref (g.2.1 121)] K dL_way_3 wv_766 yd_X11_way (Nat.le_of_ble_eq_true rfl) (sh_0 _ _) rfl (by decide) (by decide) rfl rfl (Nat.le_of_ble_eq_true rfl) (K_KW_way l g htr  M _ _ e1) (G_catch [] (0, 8, 11, 13) [(0, 8, 14, 29)] K htb rfl (fun _ hz => absurd hz List.not_mem_nil) rfl (by decide) wd_649 (by decide) (fun q => ?_))
      refine G_astore_n rfl K dL_way_11 (Nat.le_of_ble_eq_true rfl) rfl ?_
      refine G_iconst (v := 1) rfl K dL_way_12 ?_
      cases hPHI _ (wpO_some h)
      exact G_iret K hr rfl dL_way_13 (Nat.le_of_ble_eq_true rfl) (Nat.le_of_ble_eq_true rfl) ⟨rfl, rfl⟩
    have h := wpO_f h hE0
    by_cases hE1 : E1 = "java/lang/UnsupportedOperationException"
    · subst hE1
      have h := wpO_t h rfl
      refine G_callXVt (ci := 11) [] [.int 0, .ref (g.2.1 121)] K dL_way_3 wv_766 yd_X11_way (Nat.le_of_ble_eq_true rfl) (sh_0 _ _) rfl (by decide) (by decide) rfl rfl (Nat.le_of_ble_eq_true rfl) (K_KW_way l g htr  M _ _ e1) (G_catch [(0, 8, 11, 13)] (0, 8, 14, 29) [] K htb rfl (List.forall_mem_cons.mpr ⟨⟨by decide, "java/lang/IllegalArgumentException", wd_649, by decide⟩, fun _ h => absurd h List.not_mem_nil⟩) rfl (by decide) wd_765 (by decide) (fun q => ?_))
      refine G_astore_n rfl K dL_way_14 (Nat.le_of_ble_eq_true rfl) rfl ?_
      refine G_iconst (v := 2) rfl K dL_way_15 ?_
      cases hPHI _ (wpO_some h)
      exact G_iret K hr rfl dL_way_16 (Nat.le_of_ble_eq_true rfl) (Nat.le_of_ble_eq_true rfl) ⟨rfl, rfl⟩
    have h := wpO_f h hE1
    exact wpO_none h
  refine G_callXVi (ci := 11) [] [.int 0, .ref (g.2.1 121)] K dL_way_3 wv_766 yd_X11_way (Nat.le_of_ble_eq_true rfl) (sh_0 _ _) rfl (by decide) (by decide) rfl rfl (Nat.le_of_ble_eq_true rfl) (K_KW_way l g htr  M _ _ e1) ?_
  refine G_i2l K dL_way_6 ?_
  obtain ⟨hin, h⟩ := wpO_g h
  refine G_last K dL_way_7 (Nat.le_of_ble_eq_true rfl) (sh_121 _) hin ?_
  refine G_goto (tgt := 17) K dL_way_8 (by decide) ?_
  refine G_iconst (v := 0) rfl K dL_way_17 ?_
  cases hPHI _ (wpO_some h)
  exact G_iret K hr rfl dL_way_18 (Nat.le_of_ble_eq_true rfl) (Nat.le_of_ble_eq_true rfl) ⟨rfl, rfl⟩
theorem yd_X11_mood : ydN yX11_mood 3 := ⟨by decide, by decide, by decide +kernel⟩
theorem wv_894 : wdV "KeptWellLaw" 31 yX11_mood cX11_mood 4 (some .int) := ⟨wd_894, wd_895, wd_896, wd_1, wd_897⟩
def on_L_mood : Nat := 0xac03ac05053aac04053a0b00a750851f00b61d1c1b2a030419
theorem ob_L_mood : OKB cL_mood on_L_mood 25 := ⟨by decide +kernel, by decide +kernel⟩
theorem dL_mood_0 : dc cL_mood 0 2 (.aload 4) 2 := o_25 ob_L_mood rfl rfl rfl rfl
theorem dL_mood_2 : dc cL_mood 2 3 (.iconst 0) 1 := o_3 ob_L_mood rfl rfl rfl
theorem dL_mood_3 : dc cL_mood 3 4 (.aload_n 0) 1 := o_42 ob_L_mood rfl rfl rfl
theorem dL_mood_4 : dc cL_mood 4 5 (.iload_n 1) 1 := o_27 ob_L_mood rfl rfl rfl
theorem dL_mood_5 : dc cL_mood 5 6 (.iload_n 2) 1 := o_28 ob_L_mood rfl rfl rfl
theorem dL_mood_6 : dc cL_mood 6 7 (.iload_n 3) 1 := o_29 ob_L_mood rfl rfl rfl
theorem dL_mood_7 : dc cL_mood 7 10 (.invokevirtual 31) 3 := o_182 ob_L_mood rfl rfl rfl rfl
theorem dL_mood_10 : dc cL_mood 10 11 .i2l 1 := o_133 ob_L_mood rfl rfl rfl
theorem dL_mood_11 : dc cL_mood 11 12 .lastore 1 := o_80 ob_L_mood rfl rfl rfl
theorem dL_mood_12 : dc cL_mood 12 15 (.goto 11) 3 := o_167 ob_L_mood rfl rfl rfl rfl
theorem dL_mood_15 : dc cL_mood 15 17 (.astore 5) 2 := o_58 ob_L_mood rfl rfl rfl rfl
theorem dL_mood_17 : dc cL_mood 17 18 (.iconst 1) 1 := o_4 ob_L_mood rfl rfl rfl
theorem dL_mood_18 : dc cL_mood 18 19 .ireturn 1 := o_172 ob_L_mood rfl rfl rfl
theorem dL_mood_19 : dc cL_mood 19 21 (.astore 5) 2 := o_58 ob_L_mood rfl rfl rfl rfl
theorem dL_mood_21 : dc cL_mood 21 22 (.iconst 2) 1 := o_5 ob_L_mood rfl rfl rfl
theorem dL_mood_22 : dc cL_mood 22 23 .ireturn 1 := o_172 ob_L_mood rfl rfl rfl
theorem dL_mood_23 : dc cL_mood 23 24 (.iconst 0) 1 := o_3 ob_L_mood rfl rfl rfl
theorem dL_mood_24 : dc cL_mood 24 25 .ireturn 1 := o_172 ob_L_mood rfl rfl rfl
def F_LAW_mood (x1 : Int32) (x2 : Int32) (x3 : Int32) (M : Mem) : Option (Int32 × Mem) :=
  hbind (F_KW_mood x1 x2 x3 M) (fun E1 M1 => if E1 = "java/lang/IndexOutOfBoundsException" then some ((1, M1)) else if E1 = "java/util/NoSuchElementException" then some ((2, M1)) else none) fun r1 M1 => if inb ((0 : Int32)) 1 then some ((0, mSL M1 121 ((0 : Int32)).toNatClampNeg r1.toInt64)) else none
set_option maxRecDepth 100000 in
set_option maxHeartbeats 4000000 in
theorem K_LAW_mood (l : Launch) (g : GB) (htr : l.stackTraces = false) (x1 : Int32) (x2 : Int32) (x3 : Int32) (M : Mem) (rr : Int32) (MZ : Mem) (h : F_LAW_mood x1 x2 x3 M = some (rr, MZ)) : CT l g yL_mood (.codeWith yL_mood cL_mood 6 (some .int) [(0, 12, 15, 19), (0, 12, 19, 35)] :: wAll) { frames := 8, cells := 3, slots := 18, locals := 145 } [.ref (g.2.1 0), .int x1, .int x2, .int x3, .ref (g.2.1 121)] M (.inl (some (.int rr))) MZ := by
  refine CT.ofH [(0, .ref (g.2.1 0)), (1, .int x1), (2, .int x2), (3, .int x3), (4, .ref (g.2.1 121))] (by decide +kernel) (Nat.le_of_ble_eq_true rfl) rfl htr ?_
  intro p e s m args below meth c K hr htb
  skip
  obtain ⟨PHI, hPHI, h⟩ : ∃ PHI : Int32 × Mem → Prop, (∀ a, PHI a → a = (rr, MZ)) ∧ wpO (F_LAW_mood x1 x2 x3 M) PHI := ⟨fun a => a = (rr, MZ), fun _ h => h, _, h, rfl⟩
  unfold F_LAW_mood at h
  refine G_aload 4 rfl K dL_mood_0 ?_
  refine G_iconst (v := 0) rfl K dL_mood_2 ?_
  refine G_aload_n rfl 0 rfl K dL_mood_3 ?_
  refine G_iload_n rfl 1 rfl K dL_mood_4 ?_
  refine G_iload_n rfl 2 rfl K dL_mood_5 ?_
  refine G_iload_n rfl 3 rfl K dL_mood_6 ?_
  obtain ⟨E1, M1, e1, h⟩ | ⟨r1, M1, e1, h⟩ := wpO_h h
  · by_cases hE0 : E1 = "java/lang/IndexOutOfBoundsException"
    · subst hE0
      have h := wpO_t h rfl
      refine G_callXVt (ci := 11) [.int x1, .int x2, .int x3] [.int 0, .ref (g.2.1 121)] K dL_mood_7 wv_894 yd_X11_mood (Nat.le_of_ble_eq_true rfl) (sh_0 _ _) rfl (by decide) (by decide) rfl rfl (Nat.le_of_ble_eq_true rfl) (K_KW_mood l g htr x1 x2 x3 M _ _ e1) (G_catch [] (0, 12, 15, 19) [(0, 12, 19, 35)] K htb rfl (fun _ hz => absurd hz List.not_mem_nil) rfl (by decide) wd_726 (by decide) (fun q => ?_))
      refine G_astore K dL_mood_15 (Nat.le_of_ble_eq_true rfl) rfl ?_
      refine G_iconst (v := 1) rfl K dL_mood_17 ?_
      cases hPHI _ (wpO_some h)
      exact G_iret K hr rfl dL_mood_18 (Nat.le_of_ble_eq_true rfl) (Nat.le_of_ble_eq_true rfl) ⟨rfl, rfl⟩
    have h := wpO_f h hE0
    by_cases hE1 : E1 = "java/util/NoSuchElementException"
    · subst hE1
      have h := wpO_t h rfl
      refine G_callXVt (ci := 11) [.int x1, .int x2, .int x3] [.int 0, .ref (g.2.1 121)] K dL_mood_7 wv_894 yd_X11_mood (Nat.le_of_ble_eq_true rfl) (sh_0 _ _) rfl (by decide) (by decide) rfl rfl (Nat.le_of_ble_eq_true rfl) (K_KW_mood l g htr x1 x2 x3 M _ _ e1) (G_catch [(0, 12, 15, 19)] (0, 12, 19, 35) [] K htb rfl (List.forall_mem_cons.mpr ⟨⟨by decide, "java/lang/IndexOutOfBoundsException", wd_726, by decide⟩, fun _ h => absurd h List.not_mem_nil⟩) rfl (by decide) wd_893 (by decide) (fun q => ?_))
      refine G_astore K dL_mood_19 (Nat.le_of_ble_eq_true rfl) rfl ?_
      refine G_iconst (v := 2) rfl K dL_mood_21 ?_
      cases hPHI _ (wpO_some h)
      exact G_iret K hr rfl dL_mood_22 (Nat.le_of_ble_eq_true rfl) (Nat.le_of_ble_eq_true rfl) ⟨rfl, rfl⟩
    have h := wpO_f h hE1
    exact wpO_none h
  refine G_callXVi (ci := 11) [.int x1, .int x2, .int x3] [.int 0, .ref (g.2.1 121)] K dL_mood_7 wv_894 yd_X11_mood (Nat.le_of_ble_eq_true rfl) (sh_0 _ _) rfl (by decide) (by decide) rfl rfl (Nat.le_of_ble_eq_true rfl) (K_KW_mood l g htr x1 x2 x3 M _ _ e1) ?_
  refine G_i2l K dL_mood_10 ?_
  obtain ⟨hin, h⟩ := wpO_g h
  refine G_last K dL_mood_11 (Nat.le_of_ble_eq_true rfl) (sh_121 _) hin ?_
  refine G_goto (tgt := 23) K dL_mood_12 (by decide) ?_
  refine G_iconst (v := 0) rfl K dL_mood_23 ?_
  cases hPHI _ (wpO_some h)
  exact G_iret K hr rfl dL_mood_24 (Nat.le_of_ble_eq_true rfl) (Nat.le_of_ble_eq_true rfl) ⟨rfl, rfl⟩
theorem yd_X11_worth : ydN yX11_worth 6 := ⟨by decide, by decide, by decide +kernel⟩
theorem wv_933 : wdV "KeptWellLaw" 37 yX11_worth cX11_worth 7 (some .long) := ⟨wd_933, wd_934, wd_935, wd_1, wd_936⟩
def on_L_worth : Nat := 0xac03ac05083aac04083a0b00a7502500b60615051504151d1c1b2a030719
theorem ob_L_worth : OKB cL_worth on_L_worth 30 := ⟨by decide +kernel, by decide +kernel⟩
theorem dL_worth_0 : dc cL_worth 0 2 (.aload 7) 2 := o_25 ob_L_worth rfl rfl rfl rfl
theorem dL_worth_2 : dc cL_worth 2 3 (.iconst 0) 1 := o_3 ob_L_worth rfl rfl rfl
theorem dL_worth_3 : dc cL_worth 3 4 (.aload_n 0) 1 := o_42 ob_L_worth rfl rfl rfl
theorem dL_worth_4 : dc cL_worth 4 5 (.iload_n 1) 1 := o_27 ob_L_worth rfl rfl rfl
theorem dL_worth_5 : dc cL_worth 5 6 (.iload_n 2) 1 := o_28 ob_L_worth rfl rfl rfl
theorem dL_worth_6 : dc cL_worth 6 7 (.iload_n 3) 1 := o_29 ob_L_worth rfl rfl rfl
theorem dL_worth_7 : dc cL_worth 7 9 (.iload 4) 2 := o_21 ob_L_worth rfl rfl rfl rfl
theorem dL_worth_9 : dc cL_worth 9 11 (.iload 5) 2 := o_21 ob_L_worth rfl rfl rfl rfl
theorem dL_worth_11 : dc cL_worth 11 13 (.iload 6) 2 := o_21 ob_L_worth rfl rfl rfl rfl
theorem dL_worth_13 : dc cL_worth 13 16 (.invokevirtual 37) 3 := o_182 ob_L_worth rfl rfl rfl rfl
theorem dL_worth_16 : dc cL_worth 16 17 .lastore 1 := o_80 ob_L_worth rfl rfl rfl
theorem dL_worth_17 : dc cL_worth 17 20 (.goto 11) 3 := o_167 ob_L_worth rfl rfl rfl rfl
theorem dL_worth_20 : dc cL_worth 20 22 (.astore 8) 2 := o_58 ob_L_worth rfl rfl rfl rfl
theorem dL_worth_22 : dc cL_worth 22 23 (.iconst 1) 1 := o_4 ob_L_worth rfl rfl rfl
theorem dL_worth_23 : dc cL_worth 23 24 .ireturn 1 := o_172 ob_L_worth rfl rfl rfl
theorem dL_worth_24 : dc cL_worth 24 26 (.astore 8) 2 := o_58 ob_L_worth rfl rfl rfl rfl
theorem dL_worth_26 : dc cL_worth 26 27 (.iconst 2) 1 := o_5 ob_L_worth rfl rfl rfl
theorem dL_worth_27 : dc cL_worth 27 28 .ireturn 1 := o_172 ob_L_worth rfl rfl rfl
theorem dL_worth_28 : dc cL_worth 28 29 (.iconst 0) 1 := o_3 ob_L_worth rfl rfl rfl
theorem dL_worth_29 : dc cL_worth 29 30 .ireturn 1 := o_172 ob_L_worth rfl rfl rfl
def F_LAW_worth (x1 : Int32) (x2 : Int32) (x3 : Int32) (x4 : Int32) (x5 : Int32) (x6 : Int32) (M : Mem) : Option (Int32 × Mem) :=
  hbind (F_KW_worth x1 x2 x3 x4 x5 x6 M) (fun E1 M1 => if E1 = "java/lang/IndexOutOfBoundsException" then some ((1, M1)) else if E1 = "java/lang/IllegalStateException" then some ((2, M1)) else none) fun r1 M1 => if inb ((0 : Int32)) 1 then some ((0, mSL M1 121 ((0 : Int32)).toNatClampNeg r1)) else none
set_option maxRecDepth 100000 in
set_option maxHeartbeats 4000000 in
theorem K_LAW_worth (l : Launch) (g : GB) (htr : l.stackTraces = false) (x1 : Int32) (x2 : Int32) (x3 : Int32) (x4 : Int32) (x5 : Int32) (x6 : Int32) (M : Mem) (rr : Int32) (MZ : Mem) (h : F_LAW_worth x1 x2 x3 x4 x5 x6 M = some (rr, MZ)) : CT l g yL_worth (.codeWith yL_worth cL_worth 9 (some .int) [(0, 17, 20, 19), (0, 17, 24, 41)] :: wAll) { frames := 8, cells := 7, slots := 42, locals := 166 } [.ref (g.2.1 0), .int x1, .int x2, .int x3, .int x4, .int x5, .int x6, .ref (g.2.1 121)] M (.inl (some (.int rr))) MZ := by
  refine CT.ofH [(0, .ref (g.2.1 0)), (1, .int x1), (2, .int x2), (3, .int x3), (4, .int x4), (5, .int x5), (6, .int x6), (7, .ref (g.2.1 121))] (by decide +kernel) (Nat.le_of_ble_eq_true rfl) rfl htr ?_
  intro p e s m args below meth c K hr htb
  skip
  obtain ⟨PHI, hPHI, h⟩ : ∃ PHI : Int32 × Mem → Prop, (∀ a, PHI a → a = (rr, MZ)) ∧ wpO (F_LAW_worth x1 x2 x3 x4 x5 x6 M) PHI := ⟨fun a => a = (rr, MZ), fun _ h => h, _, h, rfl⟩
  unfold F_LAW_worth at h
  refine G_aload 7 rfl K dL_worth_0 ?_
  refine G_iconst (v := 0) rfl K dL_worth_2 ?_
  refine G_aload_n rfl 0 rfl K dL_worth_3 ?_
  refine G_iload_n rfl 1 rfl K dL_worth_4 ?_
  refine G_iload_n rfl 2 rfl K dL_worth_5 ?_
  refine G_iload_n rfl 3 rfl K dL_worth_6 ?_
  refine G_iload 4 rfl K dL_worth_7 ?_
  refine G_iload 5 rfl K dL_worth_9 ?_
  refine G_iload 6 rfl K dL_worth_11 ?_
  obtain ⟨E1, M1, e1, h⟩ | ⟨r1, M1, e1, h⟩ := wpO_h h
  · by_cases hE0 : E1 = "java/lang/IndexOutOfBoundsException"
    · subst hE0
      have h := wpO_t h rfl
      refine G_callXVt (ci := 11) [.int x1, .int x2, .int x3, .int x4, .int x5, .int x6] [.int 0, .ref (g.2.1 121)] K dL_worth_13 wv_933 yd_X11_worth (Nat.le_of_ble_eq_true rfl) (sh_0 _ _) rfl (by decide) (by decide) rfl rfl (Nat.le_of_ble_eq_true rfl) (K_KW_worth l g htr x1 x2 x3 x4 x5 x6 M _ _ e1) (G_catch [] (0, 17, 20, 19) [(0, 17, 24, 41)] K htb rfl (fun _ hz => absurd hz List.not_mem_nil) rfl (by decide) wd_726 (by decide) (fun q => ?_))
      refine G_astore K dL_worth_20 (Nat.le_of_ble_eq_true rfl) rfl ?_
      refine G_iconst (v := 1) rfl K dL_worth_22 ?_
      cases hPHI _ (wpO_some h)
      exact G_iret K hr rfl dL_worth_23 (Nat.le_of_ble_eq_true rfl) (Nat.le_of_ble_eq_true rfl) ⟨rfl, rfl⟩
    have h := wpO_f h hE0
    by_cases hE1 : E1 = "java/lang/IllegalStateException"
    · subst hE1
      have h := wpO_t h rfl
      refine G_callXVt (ci := 11) [.int x1, .int x2, .int x3, .int x4, .int x5, .int x6] [.int 0, .ref (g.2.1 121)] K dL_worth_13 wv_933 yd_X11_worth (Nat.le_of_ble_eq_true rfl) (sh_0 _ _) rfl (by decide) (by decide) rfl rfl (Nat.le_of_ble_eq_true rfl) (K_KW_worth l g htr x1 x2 x3 x4 x5 x6 M _ _ e1) (G_catch [(0, 17, 20, 19)] (0, 17, 24, 41) [] K htb rfl (List.forall_mem_cons.mpr ⟨⟨by decide, "java/lang/IndexOutOfBoundsException", wd_726, by decide⟩, fun _ h => absurd h List.not_mem_nil⟩) rfl (by decide) wd_932 (by decide) (fun q => ?_))
      refine G_astore K dL_worth_24 (Nat.le_of_ble_eq_true rfl) rfl ?_
      refine G_iconst (v := 2) rfl K dL_worth_26 ?_
      cases hPHI _ (wpO_some h)
      exact G_iret K hr rfl dL_worth_27 (Nat.le_of_ble_eq_true rfl) (Nat.le_of_ble_eq_true rfl) ⟨rfl, rfl⟩
    have h := wpO_f h hE1
    exact wpO_none h
  refine G_callXVl (ci := 11) [.int x1, .int x2, .int x3, .int x4, .int x5, .int x6] [.int 0, .ref (g.2.1 121)] K dL_worth_13 wv_933 yd_X11_worth (Nat.le_of_ble_eq_true rfl) (sh_0 _ _) rfl (by decide) (by decide) rfl rfl (Nat.le_of_ble_eq_true rfl) (K_KW_worth l g htr x1 x2 x3 x4 x5 x6 M _ _ e1) ?_
  obtain ⟨hin, h⟩ := wpO_g h
  refine G_last K dL_worth_16 (Nat.le_of_ble_eq_true rfl) (sh_121 _) hin ?_
  refine G_goto (tgt := 28) K dL_worth_17 (by decide) ?_
  refine G_iconst (v := 0) rfl K dL_worth_28 ?_
  cases hPHI _ (wpO_some h)
  exact G_iret K hr rfl dL_worth_29 (Nat.le_of_ble_eq_true rfl) (Nat.le_of_ble_eq_true rfl) ⟨rfl, rfl⟩
theorem yd_X11_hold : ydN yX11_hold 2 := ⟨by decide, by decide, by decide +kernel⟩
theorem wv_986 : wdV "KeptWellLaw" 43 yX11_hold cX11_hold 3 (some .boolean) := ⟨wd_986, wd_987, wd_988, wd_1, wd_989⟩
def on_L_hold : Nat := 0xac03ac05043aac04043a0b00a750090400a70a0700992b00b61c1b2a032d
theorem ob_L_hold : OKB cL_hold on_L_hold 30 := ⟨by decide +kernel, by decide +kernel⟩
theorem dL_hold_0 : dc cL_hold 0 1 (.aload_n 3) 1 := o_45 ob_L_hold rfl rfl rfl
theorem dL_hold_1 : dc cL_hold 1 2 (.iconst 0) 1 := o_3 ob_L_hold rfl rfl rfl
theorem dL_hold_2 : dc cL_hold 2 3 (.aload_n 0) 1 := o_42 ob_L_hold rfl rfl rfl
theorem dL_hold_3 : dc cL_hold 3 4 (.iload_n 1) 1 := o_27 ob_L_hold rfl rfl rfl
theorem dL_hold_4 : dc cL_hold 4 5 (.iload_n 2) 1 := o_28 ob_L_hold rfl rfl rfl
theorem dL_hold_5 : dc cL_hold 5 8 (.invokevirtual 43) 3 := o_182 ob_L_hold rfl rfl rfl rfl
theorem dL_hold_8 : dc cL_hold 8 11 (.ifCond .eq 7) 3 := o_153 ob_L_hold rfl rfl rfl rfl
theorem dL_hold_11 : dc cL_hold 11 12 (.lconst 1) 1 := o_10 ob_L_hold rfl rfl rfl
theorem dL_hold_12 : dc cL_hold 12 15 (.goto 4) 3 := o_167 ob_L_hold rfl rfl rfl rfl
theorem dL_hold_15 : dc cL_hold 15 16 (.lconst 0) 1 := o_9 ob_L_hold rfl rfl rfl
theorem dL_hold_16 : dc cL_hold 16 17 .lastore 1 := o_80 ob_L_hold rfl rfl rfl
theorem dL_hold_17 : dc cL_hold 17 20 (.goto 11) 3 := o_167 ob_L_hold rfl rfl rfl rfl
theorem dL_hold_20 : dc cL_hold 20 22 (.astore 4) 2 := o_58 ob_L_hold rfl rfl rfl rfl
theorem dL_hold_22 : dc cL_hold 22 23 (.iconst 1) 1 := o_4 ob_L_hold rfl rfl rfl
theorem dL_hold_23 : dc cL_hold 23 24 .ireturn 1 := o_172 ob_L_hold rfl rfl rfl
theorem dL_hold_24 : dc cL_hold 24 26 (.astore 4) 2 := o_58 ob_L_hold rfl rfl rfl rfl
theorem dL_hold_26 : dc cL_hold 26 27 (.iconst 2) 1 := o_5 ob_L_hold rfl rfl rfl
theorem dL_hold_27 : dc cL_hold 27 28 .ireturn 1 := o_172 ob_L_hold rfl rfl rfl
theorem dL_hold_28 : dc cL_hold 28 29 (.iconst 0) 1 := o_3 ob_L_hold rfl rfl rfl
theorem dL_hold_29 : dc cL_hold 29 30 .ireturn 1 := o_172 ob_L_hold rfl rfl rfl
def F_LAW_hold (x1 : Int32) (x2 : Int32) (M : Mem) : Option (Int32 × Mem) :=
  hbind (F_KW_hold x1 x2 M) (fun E1 M1 => if E1 = "java/lang/IndexOutOfBoundsException" then some ((1, M1)) else if E1 = "java/lang/IllegalStateException" then some ((2, M1)) else none) fun r1 M1 => if r1 = true then if inb ((0 : Int32)) 1 then some ((0, mSL M1 121 ((0 : Int32)).toNatClampNeg 1)) else none else if inb ((0 : Int32)) 1 then some ((0, mSL M1 121 ((0 : Int32)).toNatClampNeg 0)) else none
set_option maxRecDepth 100000 in
set_option maxHeartbeats 4000000 in
theorem K_LAW_hold (l : Launch) (g : GB) (htr : l.stackTraces = false) (x1 : Int32) (x2 : Int32) (M : Mem) (rr : Int32) (MZ : Mem) (h : F_LAW_hold x1 x2 M = some (rr, MZ)) : CT l g yL_hold (.codeWith yL_hold cL_hold 5 (some .int) [(0, 17, 20, 19), (0, 17, 24, 41)] :: wAll) { frames := 9, cells := 4, slots := 24, locals := 170 } [.ref (g.2.1 0), .int x1, .int x2, .ref (g.2.1 121)] M (.inl (some (.int rr))) MZ := by
  refine CT.ofH [(0, .ref (g.2.1 0)), (1, .int x1), (2, .int x2), (3, .ref (g.2.1 121))] (by decide +kernel) (Nat.le_of_ble_eq_true rfl) rfl htr ?_
  intro p e s m args below meth c K hr htb
  skip
  obtain ⟨PHI, hPHI, h⟩ : ∃ PHI : Int32 × Mem → Prop, (∀ a, PHI a → a = (rr, MZ)) ∧ wpO (F_LAW_hold x1 x2 M) PHI := ⟨fun a => a = (rr, MZ), fun _ h => h, _, h, rfl⟩
  unfold F_LAW_hold at h
  refine G_aload_n rfl 3 rfl K dL_hold_0 ?_
  refine G_iconst (v := 0) rfl K dL_hold_1 ?_
  refine G_aload_n rfl 0 rfl K dL_hold_2 ?_
  refine G_iload_n rfl 1 rfl K dL_hold_3 ?_
  refine G_iload_n rfl 2 rfl K dL_hold_4 ?_
  obtain ⟨E1, M1, e1, h⟩ | ⟨r1, M1, e1, h⟩ := wpO_h h
  · by_cases hE0 : E1 = "java/lang/IndexOutOfBoundsException"
    · subst hE0
      have h := wpO_t h rfl
      refine G_callXVt (ci := 11) [.int x1, .int x2] [.int 0, .ref (g.2.1 121)] K dL_hold_5 wv_986 yd_X11_hold (Nat.le_of_ble_eq_true rfl) (sh_0 _ _) rfl (by decide) (by decide) rfl rfl (Nat.le_of_ble_eq_true rfl) (K_KW_hold l g htr x1 x2 M _ _ e1) (G_catch [] (0, 17, 20, 19) [(0, 17, 24, 41)] K htb rfl (fun _ hz => absurd hz List.not_mem_nil) rfl (by decide) wd_726 (by decide) (fun q => ?_))
      refine G_astore K dL_hold_20 (Nat.le_of_ble_eq_true rfl) rfl ?_
      refine G_iconst (v := 1) rfl K dL_hold_22 ?_
      cases hPHI _ (wpO_some h)
      exact G_iret K hr rfl dL_hold_23 (Nat.le_of_ble_eq_true rfl) (Nat.le_of_ble_eq_true rfl) ⟨rfl, rfl⟩
    have h := wpO_f h hE0
    by_cases hE1 : E1 = "java/lang/IllegalStateException"
    · subst hE1
      have h := wpO_t h rfl
      refine G_callXVt (ci := 11) [.int x1, .int x2] [.int 0, .ref (g.2.1 121)] K dL_hold_5 wv_986 yd_X11_hold (Nat.le_of_ble_eq_true rfl) (sh_0 _ _) rfl (by decide) (by decide) rfl rfl (Nat.le_of_ble_eq_true rfl) (K_KW_hold l g htr x1 x2 M _ _ e1) (G_catch [(0, 17, 20, 19)] (0, 17, 24, 41) [] K htb rfl (List.forall_mem_cons.mpr ⟨⟨by decide, "java/lang/IndexOutOfBoundsException", wd_726, by decide⟩, fun _ h => absurd h List.not_mem_nil⟩) rfl (by decide) wd_932 (by decide) (fun q => ?_))
      refine G_astore K dL_hold_24 (Nat.le_of_ble_eq_true rfl) rfl ?_
      refine G_iconst (v := 2) rfl K dL_hold_26 ?_
      cases hPHI _ (wpO_some h)
      exact G_iret K hr rfl dL_hold_27 (Nat.le_of_ble_eq_true rfl) (Nat.le_of_ble_eq_true rfl) ⟨rfl, rfl⟩
    have h := wpO_f h hE1
    exact wpO_none h
  refine G_callXVi (ci := 11) [.int x1, .int x2] [.int 0, .ref (g.2.1 121)] K dL_hold_5 wv_986 yd_X11_hold (Nat.le_of_ble_eq_true rfl) (sh_0 _ _) rfl (by decide) (by decide) rfl rfl (Nat.le_of_ble_eq_true rfl) (K_KW_hold l g htr x1 x2 M _ _ e1) ?_
  refine G_ifb_eq (tgt := 15) K dL_hold_8 (by decide) (fun hc => ?_) (fun hc => ?_)
  · have h := wpO_bf h hc
    refine G_lconst (v := 0) rfl K dL_hold_15 ?_
    obtain ⟨hin, h⟩ := wpO_g h
    refine G_last K dL_hold_16 (Nat.le_of_ble_eq_true rfl) (sh_121 _) hin ?_
    refine G_goto (tgt := 28) K dL_hold_17 (by decide) ?_
    refine G_iconst (v := 0) rfl K dL_hold_28 ?_
    cases hPHI _ (wpO_some h)
    exact G_iret K hr rfl dL_hold_29 (Nat.le_of_ble_eq_true rfl) (Nat.le_of_ble_eq_true rfl) ⟨rfl, rfl⟩
  · have h := wpO_t h hc
    refine G_lconst (v := 1) rfl K dL_hold_11 ?_
    refine G_goto (tgt := 16) K dL_hold_12 (by decide) ?_
    obtain ⟨hin, h⟩ := wpO_g h
    refine G_last K dL_hold_16 (Nat.le_of_ble_eq_true rfl) (sh_121 _) hin ?_
    refine G_goto (tgt := 28) K dL_hold_17 (by decide) ?_
    refine G_iconst (v := 0) rfl K dL_hold_28 ?_
    cases hPHI _ (wpO_some h)
    exact G_iret K hr rfl dL_hold_29 (Nat.le_of_ble_eq_true rfl) (Nat.le_of_ble_eq_true rfl) ⟨rfl, rfl⟩
theorem yd_X11_first : ydN yX11_first 2 := ⟨by decide, by decide, by decide +kernel⟩
theorem wv_998 : wdV "KeptWellLaw" 47 yX11_first cX11_first 3 (some .int) := ⟨wd_998, wd_999, wd_1000, wd_1, wd_1001⟩
def on_L_first : Nat := 0xac03ac05043aac04043a0b00a750852f00b61c1b2a032d
theorem ob_L_first : OKB cL_first on_L_first 23 := ⟨by decide +kernel, by decide +kernel⟩
theorem dL_first_0 : dc cL_first 0 1 (.aload_n 3) 1 := o_45 ob_L_first rfl rfl rfl
theorem dL_first_1 : dc cL_first 1 2 (.iconst 0) 1 := o_3 ob_L_first rfl rfl rfl
theorem dL_first_2 : dc cL_first 2 3 (.aload_n 0) 1 := o_42 ob_L_first rfl rfl rfl
theorem dL_first_3 : dc cL_first 3 4 (.iload_n 1) 1 := o_27 ob_L_first rfl rfl rfl
theorem dL_first_4 : dc cL_first 4 5 (.iload_n 2) 1 := o_28 ob_L_first rfl rfl rfl
theorem dL_first_5 : dc cL_first 5 8 (.invokevirtual 47) 3 := o_182 ob_L_first rfl rfl rfl rfl
theorem dL_first_8 : dc cL_first 8 9 .i2l 1 := o_133 ob_L_first rfl rfl rfl
theorem dL_first_9 : dc cL_first 9 10 .lastore 1 := o_80 ob_L_first rfl rfl rfl
theorem dL_first_10 : dc cL_first 10 13 (.goto 11) 3 := o_167 ob_L_first rfl rfl rfl rfl
theorem dL_first_13 : dc cL_first 13 15 (.astore 4) 2 := o_58 ob_L_first rfl rfl rfl rfl
theorem dL_first_15 : dc cL_first 15 16 (.iconst 1) 1 := o_4 ob_L_first rfl rfl rfl
theorem dL_first_16 : dc cL_first 16 17 .ireturn 1 := o_172 ob_L_first rfl rfl rfl
theorem dL_first_17 : dc cL_first 17 19 (.astore 4) 2 := o_58 ob_L_first rfl rfl rfl rfl
theorem dL_first_19 : dc cL_first 19 20 (.iconst 2) 1 := o_5 ob_L_first rfl rfl rfl
theorem dL_first_20 : dc cL_first 20 21 .ireturn 1 := o_172 ob_L_first rfl rfl rfl
theorem dL_first_21 : dc cL_first 21 22 (.iconst 0) 1 := o_3 ob_L_first rfl rfl rfl
theorem dL_first_22 : dc cL_first 22 23 .ireturn 1 := o_172 ob_L_first rfl rfl rfl
def F_LAW_first (x1 : Int32) (x2 : Int32) (M : Mem) : Option (Int32 × Mem) :=
  hbind (F_KW_first x1 x2 M) (fun E1 M1 => if E1 = "java/lang/IndexOutOfBoundsException" then some ((1, M1)) else if E1 = "java/lang/IllegalStateException" then some ((2, M1)) else none) fun r1 M1 => if inb ((0 : Int32)) 1 then some ((0, mSL M1 121 ((0 : Int32)).toNatClampNeg r1.toInt64)) else none
set_option maxRecDepth 100000 in
set_option maxHeartbeats 4000000 in
theorem K_LAW_first (l : Launch) (g : GB) (htr : l.stackTraces = false) (x1 : Int32) (x2 : Int32) (M : Mem) (rr : Int32) (MZ : Mem) (h : F_LAW_first x1 x2 M = some (rr, MZ)) : CT l g yL_first (.codeWith yL_first cL_first 5 (some .int) [(0, 10, 13, 19), (0, 10, 17, 41)] :: wAll) { frames := 9, cells := 4, slots := 24, locals := 170 } [.ref (g.2.1 0), .int x1, .int x2, .ref (g.2.1 121)] M (.inl (some (.int rr))) MZ := by
  refine CT.ofH [(0, .ref (g.2.1 0)), (1, .int x1), (2, .int x2), (3, .ref (g.2.1 121))] (by decide +kernel) (Nat.le_of_ble_eq_true rfl) rfl htr ?_
  intro p e s m args below meth c K hr htb
  skip
  obtain ⟨PHI, hPHI, h⟩ : ∃ PHI : Int32 × Mem → Prop, (∀ a, PHI a → a = (rr, MZ)) ∧ wpO (F_LAW_first x1 x2 M) PHI := ⟨fun a => a = (rr, MZ), fun _ h => h, _, h, rfl⟩
  unfold F_LAW_first at h
  refine G_aload_n rfl 3 rfl K dL_first_0 ?_
  refine G_iconst (v := 0) rfl K dL_first_1 ?_
  refine G_aload_n rfl 0 rfl K dL_first_2 ?_
  refine G_iload_n rfl 1 rfl K dL_first_3 ?_
  refine G_iload_n rfl 2 rfl K dL_first_4 ?_
  obtain ⟨E1, M1, e1, h⟩ | ⟨r1, M1, e1, h⟩ := wpO_h h
  · by_cases hE0 : E1 = "java/lang/IndexOutOfBoundsException"
    · subst hE0
      have h := wpO_t h rfl
      refine G_callXVt (ci := 11) [.int x1, .int x2] [.int 0, .ref (g.2.1 121)] K dL_first_5 wv_998 yd_X11_first (Nat.le_of_ble_eq_true rfl) (sh_0 _ _) rfl (by decide) (by decide) rfl rfl (Nat.le_of_ble_eq_true rfl) (K_KW_first l g htr x1 x2 M _ _ e1) (G_catch [] (0, 10, 13, 19) [(0, 10, 17, 41)] K htb rfl (fun _ hz => absurd hz List.not_mem_nil) rfl (by decide) wd_726 (by decide) (fun q => ?_))
      refine G_astore K dL_first_13 (Nat.le_of_ble_eq_true rfl) rfl ?_
      refine G_iconst (v := 1) rfl K dL_first_15 ?_
      cases hPHI _ (wpO_some h)
      exact G_iret K hr rfl dL_first_16 (Nat.le_of_ble_eq_true rfl) (Nat.le_of_ble_eq_true rfl) ⟨rfl, rfl⟩
    have h := wpO_f h hE0
    by_cases hE1 : E1 = "java/lang/IllegalStateException"
    · subst hE1
      have h := wpO_t h rfl
      refine G_callXVt (ci := 11) [.int x1, .int x2] [.int 0, .ref (g.2.1 121)] K dL_first_5 wv_998 yd_X11_first (Nat.le_of_ble_eq_true rfl) (sh_0 _ _) rfl (by decide) (by decide) rfl rfl (Nat.le_of_ble_eq_true rfl) (K_KW_first l g htr x1 x2 M _ _ e1) (G_catch [(0, 10, 13, 19)] (0, 10, 17, 41) [] K htb rfl (List.forall_mem_cons.mpr ⟨⟨by decide, "java/lang/IndexOutOfBoundsException", wd_726, by decide⟩, fun _ h => absurd h List.not_mem_nil⟩) rfl (by decide) wd_932 (by decide) (fun q => ?_))
      refine G_astore K dL_first_17 (Nat.le_of_ble_eq_true rfl) rfl ?_
      refine G_iconst (v := 2) rfl K dL_first_19 ?_
      cases hPHI _ (wpO_some h)
      exact G_iret K hr rfl dL_first_20 (Nat.le_of_ble_eq_true rfl) (Nat.le_of_ble_eq_true rfl) ⟨rfl, rfl⟩
    have h := wpO_f h hE1
    exact wpO_none h
  refine G_callXVi (ci := 11) [.int x1, .int x2] [.int 0, .ref (g.2.1 121)] K dL_first_5 wv_998 yd_X11_first (Nat.le_of_ble_eq_true rfl) (sh_0 _ _) rfl (by decide) (by decide) rfl rfl (Nat.le_of_ble_eq_true rfl) (K_KW_first l g htr x1 x2 M _ _ e1) ?_
  refine G_i2l K dL_first_8 ?_
  obtain ⟨hin, h⟩ := wpO_g h
  refine G_last K dL_first_9 (Nat.le_of_ble_eq_true rfl) (sh_121 _) hin ?_
  refine G_goto (tgt := 21) K dL_first_10 (by decide) ?_
  refine G_iconst (v := 0) rfl K dL_first_21 ?_
  cases hPHI _ (wpO_some h)
  exact G_iret K hr rfl dL_first_22 (Nat.le_of_ble_eq_true rfl) (Nat.le_of_ble_eq_true rfl) ⟨rfl, rfl⟩
theorem yd_X11_best : ydN yX11_best 3 := ⟨by decide, by decide, by decide +kernel⟩
theorem wv_1005 : wdV "KeptWellLaw" 51 yX11_best cX11_best 4 (some .int) := ⟨wd_1005, wd_1006, wd_1007, wd_1, wd_1008⟩
def on_L_best : Nat := 0xac03ac05053aac04053a0b00a750853300b61d1c1b2a030419
theorem ob_L_best : OKB cL_best on_L_best 25 := ⟨by decide +kernel, by decide +kernel⟩
theorem dL_best_0 : dc cL_best 0 2 (.aload 4) 2 := o_25 ob_L_best rfl rfl rfl rfl
theorem dL_best_2 : dc cL_best 2 3 (.iconst 0) 1 := o_3 ob_L_best rfl rfl rfl
theorem dL_best_3 : dc cL_best 3 4 (.aload_n 0) 1 := o_42 ob_L_best rfl rfl rfl
theorem dL_best_4 : dc cL_best 4 5 (.iload_n 1) 1 := o_27 ob_L_best rfl rfl rfl
theorem dL_best_5 : dc cL_best 5 6 (.iload_n 2) 1 := o_28 ob_L_best rfl rfl rfl
theorem dL_best_6 : dc cL_best 6 7 (.iload_n 3) 1 := o_29 ob_L_best rfl rfl rfl
theorem dL_best_7 : dc cL_best 7 10 (.invokevirtual 51) 3 := o_182 ob_L_best rfl rfl rfl rfl
theorem dL_best_10 : dc cL_best 10 11 .i2l 1 := o_133 ob_L_best rfl rfl rfl
theorem dL_best_11 : dc cL_best 11 12 .lastore 1 := o_80 ob_L_best rfl rfl rfl
theorem dL_best_12 : dc cL_best 12 15 (.goto 11) 3 := o_167 ob_L_best rfl rfl rfl rfl
theorem dL_best_15 : dc cL_best 15 17 (.astore 5) 2 := o_58 ob_L_best rfl rfl rfl rfl
theorem dL_best_17 : dc cL_best 17 18 (.iconst 1) 1 := o_4 ob_L_best rfl rfl rfl
theorem dL_best_18 : dc cL_best 18 19 .ireturn 1 := o_172 ob_L_best rfl rfl rfl
theorem dL_best_19 : dc cL_best 19 21 (.astore 5) 2 := o_58 ob_L_best rfl rfl rfl rfl
theorem dL_best_21 : dc cL_best 21 22 (.iconst 2) 1 := o_5 ob_L_best rfl rfl rfl
theorem dL_best_22 : dc cL_best 22 23 .ireturn 1 := o_172 ob_L_best rfl rfl rfl
theorem dL_best_23 : dc cL_best 23 24 (.iconst 0) 1 := o_3 ob_L_best rfl rfl rfl
theorem dL_best_24 : dc cL_best 24 25 .ireturn 1 := o_172 ob_L_best rfl rfl rfl
def F_LAW_best (x1 : Int32) (x2 : Int32) (x3 : Int32) (M : Mem) : Option (Int32 × Mem) :=
  hbind (F_KW_best x1 x2 x3 M) (fun E1 M1 => if E1 = "java/lang/IndexOutOfBoundsException" then some ((1, M1)) else if E1 = "java/lang/IllegalStateException" then some ((2, M1)) else none) fun r1 M1 => if inb ((0 : Int32)) 1 then some ((0, mSL M1 121 ((0 : Int32)).toNatClampNeg r1.toInt64)) else none
set_option maxRecDepth 100000 in
set_option maxHeartbeats 4000000 in
theorem K_LAW_best (l : Launch) (g : GB) (htr : l.stackTraces = false) (x1 : Int32) (x2 : Int32) (x3 : Int32) (M : Mem) (rr : Int32) (MZ : Mem) (h : F_LAW_best x1 x2 x3 M = some (rr, MZ)) : CT l g yL_best (.codeWith yL_best cL_best 6 (some .int) [(0, 12, 15, 19), (0, 12, 19, 41)] :: wAll) { frames := 9, cells := 4, slots := 24, locals := 189 } [.ref (g.2.1 0), .int x1, .int x2, .int x3, .ref (g.2.1 121)] M (.inl (some (.int rr))) MZ := by
  refine CT.ofH [(0, .ref (g.2.1 0)), (1, .int x1), (2, .int x2), (3, .int x3), (4, .ref (g.2.1 121))] (by decide +kernel) (Nat.le_of_ble_eq_true rfl) rfl htr ?_
  intro p e s m args below meth c K hr htb
  skip
  obtain ⟨PHI, hPHI, h⟩ : ∃ PHI : Int32 × Mem → Prop, (∀ a, PHI a → a = (rr, MZ)) ∧ wpO (F_LAW_best x1 x2 x3 M) PHI := ⟨fun a => a = (rr, MZ), fun _ h => h, _, h, rfl⟩
  unfold F_LAW_best at h
  refine G_aload 4 rfl K dL_best_0 ?_
  refine G_iconst (v := 0) rfl K dL_best_2 ?_
  refine G_aload_n rfl 0 rfl K dL_best_3 ?_
  refine G_iload_n rfl 1 rfl K dL_best_4 ?_
  refine G_iload_n rfl 2 rfl K dL_best_5 ?_
  refine G_iload_n rfl 3 rfl K dL_best_6 ?_
  obtain ⟨E1, M1, e1, h⟩ | ⟨r1, M1, e1, h⟩ := wpO_h h
  · by_cases hE0 : E1 = "java/lang/IndexOutOfBoundsException"
    · subst hE0
      have h := wpO_t h rfl
      refine G_callXVt (ci := 11) [.int x1, .int x2, .int x3] [.int 0, .ref (g.2.1 121)] K dL_best_7 wv_1005 yd_X11_best (Nat.le_of_ble_eq_true rfl) (sh_0 _ _) rfl (by decide) (by decide) rfl rfl (Nat.le_of_ble_eq_true rfl) (K_KW_best l g htr x1 x2 x3 M _ _ e1) (G_catch [] (0, 12, 15, 19) [(0, 12, 19, 41)] K htb rfl (fun _ hz => absurd hz List.not_mem_nil) rfl (by decide) wd_726 (by decide) (fun q => ?_))
      refine G_astore K dL_best_15 (Nat.le_of_ble_eq_true rfl) rfl ?_
      refine G_iconst (v := 1) rfl K dL_best_17 ?_
      cases hPHI _ (wpO_some h)
      exact G_iret K hr rfl dL_best_18 (Nat.le_of_ble_eq_true rfl) (Nat.le_of_ble_eq_true rfl) ⟨rfl, rfl⟩
    have h := wpO_f h hE0
    by_cases hE1 : E1 = "java/lang/IllegalStateException"
    · subst hE1
      have h := wpO_t h rfl
      refine G_callXVt (ci := 11) [.int x1, .int x2, .int x3] [.int 0, .ref (g.2.1 121)] K dL_best_7 wv_1005 yd_X11_best (Nat.le_of_ble_eq_true rfl) (sh_0 _ _) rfl (by decide) (by decide) rfl rfl (Nat.le_of_ble_eq_true rfl) (K_KW_best l g htr x1 x2 x3 M _ _ e1) (G_catch [(0, 12, 15, 19)] (0, 12, 19, 41) [] K htb rfl (List.forall_mem_cons.mpr ⟨⟨by decide, "java/lang/IndexOutOfBoundsException", wd_726, by decide⟩, fun _ h => absurd h List.not_mem_nil⟩) rfl (by decide) wd_932 (by decide) (fun q => ?_))
      refine G_astore K dL_best_19 (Nat.le_of_ble_eq_true rfl) rfl ?_
      refine G_iconst (v := 2) rfl K dL_best_21 ?_
      cases hPHI _ (wpO_some h)
      exact G_iret K hr rfl dL_best_22 (Nat.le_of_ble_eq_true rfl) (Nat.le_of_ble_eq_true rfl) ⟨rfl, rfl⟩
    have h := wpO_f h hE1
    exact wpO_none h
  refine G_callXVi (ci := 11) [.int x1, .int x2, .int x3] [.int 0, .ref (g.2.1 121)] K dL_best_7 wv_1005 yd_X11_best (Nat.le_of_ble_eq_true rfl) (sh_0 _ _) rfl (by decide) (by decide) rfl rfl (Nat.le_of_ble_eq_true rfl) (K_KW_best l g htr x1 x2 x3 M _ _ e1) ?_
  refine G_i2l K dL_best_10 ?_
  obtain ⟨hin, h⟩ := wpO_g h
  refine G_last K dL_best_11 (Nat.le_of_ble_eq_true rfl) (sh_121 _) hin ?_
  refine G_goto (tgt := 23) K dL_best_12 (by decide) ?_
  refine G_iconst (v := 0) rfl K dL_best_23 ?_
  cases hPHI _ (wpO_some h)
  exact G_iret K hr rfl dL_best_24 (Nat.le_of_ble_eq_true rfl) (Nat.le_of_ble_eq_true rfl) ⟨rfl, rfl⟩
theorem yd_X11_answer : ydN yX11_answer 4 := ⟨by decide, by decide, by decide +kernel⟩
theorem wv_1052 : wdV "KeptWellLaw" 54 yX11_answer cX11_answer 5 (some .long) := ⟨wd_1052, wd_1053, wd_1054, wd_1, wd_1055⟩
def on_L_answer : Nat := 0xac03ac05063aac04063a0b00a7503600b604151d1c1b2a030519
theorem ob_L_answer : OKB cL_answer on_L_answer 26 := ⟨by decide +kernel, by decide +kernel⟩
theorem dL_answer_0 : dc cL_answer 0 2 (.aload 5) 2 := o_25 ob_L_answer rfl rfl rfl rfl
theorem dL_answer_2 : dc cL_answer 2 3 (.iconst 0) 1 := o_3 ob_L_answer rfl rfl rfl
theorem dL_answer_3 : dc cL_answer 3 4 (.aload_n 0) 1 := o_42 ob_L_answer rfl rfl rfl
theorem dL_answer_4 : dc cL_answer 4 5 (.iload_n 1) 1 := o_27 ob_L_answer rfl rfl rfl
theorem dL_answer_5 : dc cL_answer 5 6 (.iload_n 2) 1 := o_28 ob_L_answer rfl rfl rfl
theorem dL_answer_6 : dc cL_answer 6 7 (.iload_n 3) 1 := o_29 ob_L_answer rfl rfl rfl
theorem dL_answer_7 : dc cL_answer 7 9 (.iload 4) 2 := o_21 ob_L_answer rfl rfl rfl rfl
theorem dL_answer_9 : dc cL_answer 9 12 (.invokevirtual 54) 3 := o_182 ob_L_answer rfl rfl rfl rfl
theorem dL_answer_12 : dc cL_answer 12 13 .lastore 1 := o_80 ob_L_answer rfl rfl rfl
theorem dL_answer_13 : dc cL_answer 13 16 (.goto 11) 3 := o_167 ob_L_answer rfl rfl rfl rfl
theorem dL_answer_16 : dc cL_answer 16 18 (.astore 6) 2 := o_58 ob_L_answer rfl rfl rfl rfl
theorem dL_answer_18 : dc cL_answer 18 19 (.iconst 1) 1 := o_4 ob_L_answer rfl rfl rfl
theorem dL_answer_19 : dc cL_answer 19 20 .ireturn 1 := o_172 ob_L_answer rfl rfl rfl
theorem dL_answer_20 : dc cL_answer 20 22 (.astore 6) 2 := o_58 ob_L_answer rfl rfl rfl rfl
theorem dL_answer_22 : dc cL_answer 22 23 (.iconst 2) 1 := o_5 ob_L_answer rfl rfl rfl
theorem dL_answer_23 : dc cL_answer 23 24 .ireturn 1 := o_172 ob_L_answer rfl rfl rfl
theorem dL_answer_24 : dc cL_answer 24 25 (.iconst 0) 1 := o_3 ob_L_answer rfl rfl rfl
theorem dL_answer_25 : dc cL_answer 25 26 .ireturn 1 := o_172 ob_L_answer rfl rfl rfl
def F_LAW_answer (x1 : Int32) (x2 : Int32) (x3 : Int32) (x4 : Int32) (M : Mem) : Option (Int32 × Mem) :=
  hbind (F_KW_answer x1 x2 x3 x4 M) (fun E1 M1 => if E1 = "java/lang/IndexOutOfBoundsException" then some ((1, M1)) else if E1 = "java/lang/IllegalStateException" then some ((2, M1)) else none) fun r1 M1 => if inb ((0 : Int32)) 1 then some ((0, mSL M1 121 ((0 : Int32)).toNatClampNeg r1)) else none
set_option maxRecDepth 100000 in
set_option maxHeartbeats 4000000 in
theorem K_LAW_answer (l : Launch) (g : GB) (htr : l.stackTraces = false) (x1 : Int32) (x2 : Int32) (x3 : Int32) (x4 : Int32) (M : Mem) (rr : Int32) (MZ : Mem) (h : F_LAW_answer x1 x2 x3 x4 M = some (rr, MZ)) : CT l g yL_answer (.codeWith yL_answer cL_answer 7 (some .int) [(0, 13, 16, 19), (0, 13, 20, 41)] :: wAll) { frames := 9, cells := 4, slots := 24, locals := 190 } [.ref (g.2.1 0), .int x1, .int x2, .int x3, .int x4, .ref (g.2.1 121)] M (.inl (some (.int rr))) MZ := by
  refine CT.ofH [(0, .ref (g.2.1 0)), (1, .int x1), (2, .int x2), (3, .int x3), (4, .int x4), (5, .ref (g.2.1 121))] (by decide +kernel) (Nat.le_of_ble_eq_true rfl) rfl htr ?_
  intro p e s m args below meth c K hr htb
  skip
  obtain ⟨PHI, hPHI, h⟩ : ∃ PHI : Int32 × Mem → Prop, (∀ a, PHI a → a = (rr, MZ)) ∧ wpO (F_LAW_answer x1 x2 x3 x4 M) PHI := ⟨fun a => a = (rr, MZ), fun _ h => h, _, h, rfl⟩
  unfold F_LAW_answer at h
  refine G_aload 5 rfl K dL_answer_0 ?_
  refine G_iconst (v := 0) rfl K dL_answer_2 ?_
  refine G_aload_n rfl 0 rfl K dL_answer_3 ?_
  refine G_iload_n rfl 1 rfl K dL_answer_4 ?_
  refine G_iload_n rfl 2 rfl K dL_answer_5 ?_
  refine G_iload_n rfl 3 rfl K dL_answer_6 ?_
  refine G_iload 4 rfl K dL_answer_7 ?_
  obtain ⟨E1, M1, e1, h⟩ | ⟨r1, M1, e1, h⟩ := wpO_h h
  · by_cases hE0 : E1 = "java/lang/IndexOutOfBoundsException"
    · subst hE0
      have h := wpO_t h rfl
      refine G_callXVt (ci := 11) [.int x1, .int x2, .int x3, .int x4] [.int 0, .ref (g.2.1 121)] K dL_answer_9 wv_1052 yd_X11_answer (Nat.le_of_ble_eq_true rfl) (sh_0 _ _) rfl (by decide) (by decide) rfl rfl (Nat.le_of_ble_eq_true rfl) (K_KW_answer l g htr x1 x2 x3 x4 M _ _ e1) (G_catch [] (0, 13, 16, 19) [(0, 13, 20, 41)] K htb rfl (fun _ hz => absurd hz List.not_mem_nil) rfl (by decide) wd_726 (by decide) (fun q => ?_))
      refine G_astore K dL_answer_16 (Nat.le_of_ble_eq_true rfl) rfl ?_
      refine G_iconst (v := 1) rfl K dL_answer_18 ?_
      cases hPHI _ (wpO_some h)
      exact G_iret K hr rfl dL_answer_19 (Nat.le_of_ble_eq_true rfl) (Nat.le_of_ble_eq_true rfl) ⟨rfl, rfl⟩
    have h := wpO_f h hE0
    by_cases hE1 : E1 = "java/lang/IllegalStateException"
    · subst hE1
      have h := wpO_t h rfl
      refine G_callXVt (ci := 11) [.int x1, .int x2, .int x3, .int x4] [.int 0, .ref (g.2.1 121)] K dL_answer_9 wv_1052 yd_X11_answer (Nat.le_of_ble_eq_true rfl) (sh_0 _ _) rfl (by decide) (by decide) rfl rfl (Nat.le_of_ble_eq_true rfl) (K_KW_answer l g htr x1 x2 x3 x4 M _ _ e1) (G_catch [(0, 13, 16, 19)] (0, 13, 20, 41) [] K htb rfl (List.forall_mem_cons.mpr ⟨⟨by decide, "java/lang/IndexOutOfBoundsException", wd_726, by decide⟩, fun _ h => absurd h List.not_mem_nil⟩) rfl (by decide) wd_932 (by decide) (fun q => ?_))
      refine G_astore K dL_answer_20 (Nat.le_of_ble_eq_true rfl) rfl ?_
      refine G_iconst (v := 2) rfl K dL_answer_22 ?_
      cases hPHI _ (wpO_some h)
      exact G_iret K hr rfl dL_answer_23 (Nat.le_of_ble_eq_true rfl) (Nat.le_of_ble_eq_true rfl) ⟨rfl, rfl⟩
    have h := wpO_f h hE1
    exact wpO_none h
  refine G_callXVl (ci := 11) [.int x1, .int x2, .int x3, .int x4] [.int 0, .ref (g.2.1 121)] K dL_answer_9 wv_1052 yd_X11_answer (Nat.le_of_ble_eq_true rfl) (sh_0 _ _) rfl (by decide) (by decide) rfl rfl (Nat.le_of_ble_eq_true rfl) (K_KW_answer l g htr x1 x2 x3 x4 M _ _ e1) ?_
  obtain ⟨hin, h⟩ := wpO_g h
  refine G_last K dL_answer_12 (Nat.le_of_ble_eq_true rfl) (sh_121 _) hin ?_
  refine G_goto (tgt := 24) K dL_answer_13 (by decide) ?_
  refine G_iconst (v := 0) rfl K dL_answer_24 ?_
  cases hPHI _ (wpO_some h)
  exact G_iret K hr rfl dL_answer_25 (Nat.le_of_ble_eq_true rfl) (Nat.le_of_ble_eq_true rfl) ⟨rfl, rfl⟩
theorem yd_X11_least : ydN yX11_least 2 := ⟨by decide, by decide, by decide +kernel⟩
theorem wv_1064 : wdV "KeptWellLaw" 58 yX11_least cX11_least 3 (some .int) := ⟨wd_1064, wd_1065, wd_1066, wd_1, wd_1067⟩
def on_L_least : Nat := 0xac03ac04043a0700a750853a00b61c1b2a032d
theorem ob_L_least : OKB cL_least on_L_least 19 := ⟨by decide +kernel, by decide +kernel⟩
theorem dL_least_0 : dc cL_least 0 1 (.aload_n 3) 1 := o_45 ob_L_least rfl rfl rfl
theorem dL_least_1 : dc cL_least 1 2 (.iconst 0) 1 := o_3 ob_L_least rfl rfl rfl
theorem dL_least_2 : dc cL_least 2 3 (.aload_n 0) 1 := o_42 ob_L_least rfl rfl rfl
theorem dL_least_3 : dc cL_least 3 4 (.iload_n 1) 1 := o_27 ob_L_least rfl rfl rfl
theorem dL_least_4 : dc cL_least 4 5 (.iload_n 2) 1 := o_28 ob_L_least rfl rfl rfl
theorem dL_least_5 : dc cL_least 5 8 (.invokevirtual 58) 3 := o_182 ob_L_least rfl rfl rfl rfl
theorem dL_least_8 : dc cL_least 8 9 .i2l 1 := o_133 ob_L_least rfl rfl rfl
theorem dL_least_9 : dc cL_least 9 10 .lastore 1 := o_80 ob_L_least rfl rfl rfl
theorem dL_least_10 : dc cL_least 10 13 (.goto 7) 3 := o_167 ob_L_least rfl rfl rfl rfl
theorem dL_least_13 : dc cL_least 13 15 (.astore 4) 2 := o_58 ob_L_least rfl rfl rfl rfl
theorem dL_least_15 : dc cL_least 15 16 (.iconst 1) 1 := o_4 ob_L_least rfl rfl rfl
theorem dL_least_16 : dc cL_least 16 17 .ireturn 1 := o_172 ob_L_least rfl rfl rfl
theorem dL_least_17 : dc cL_least 17 18 (.iconst 0) 1 := o_3 ob_L_least rfl rfl rfl
theorem dL_least_18 : dc cL_least 18 19 .ireturn 1 := o_172 ob_L_least rfl rfl rfl
def F_LAW_least (x1 : Int32) (x2 : Int32) (M : Mem) : Option (Int32 × Mem) :=
  hbind (F_KW_least x1 x2 M) (fun E1 M1 => if E1 = "java/lang/IndexOutOfBoundsException" then some ((1, M1)) else none) fun r1 M1 => if inb ((0 : Int32)) 1 then some ((0, mSL M1 121 ((0 : Int32)).toNatClampNeg r1.toInt64)) else none
set_option maxRecDepth 100000 in
set_option maxHeartbeats 4000000 in
theorem K_LAW_least (l : Launch) (g : GB) (htr : l.stackTraces = false) (x1 : Int32) (x2 : Int32) (M : Mem) (rr : Int32) (MZ : Mem) (h : F_LAW_least x1 x2 M = some (rr, MZ)) : CT l g yL_least (.codeWith yL_least cL_least 5 (some .int) [(0, 10, 13, 19)] :: wAll) { frames := 8, cells := 1, slots := 6, locals := 143 } [.ref (g.2.1 0), .int x1, .int x2, .ref (g.2.1 121)] M (.inl (some (.int rr))) MZ := by
  refine CT.ofH [(0, .ref (g.2.1 0)), (1, .int x1), (2, .int x2), (3, .ref (g.2.1 121))] (by decide +kernel) (Nat.le_of_ble_eq_true rfl) rfl htr ?_
  intro p e s m args below meth c K hr htb
  skip
  obtain ⟨PHI, hPHI, h⟩ : ∃ PHI : Int32 × Mem → Prop, (∀ a, PHI a → a = (rr, MZ)) ∧ wpO (F_LAW_least x1 x2 M) PHI := ⟨fun a => a = (rr, MZ), fun _ h => h, _, h, rfl⟩
  unfold F_LAW_least at h
  refine G_aload_n rfl 3 rfl K dL_least_0 ?_
  refine G_iconst (v := 0) rfl K dL_least_1 ?_
  refine G_aload_n rfl 0 rfl K dL_least_2 ?_
  refine G_iload_n rfl 1 rfl K dL_least_3 ?_
  refine G_iload_n rfl 2 rfl K dL_least_4 ?_
  obtain ⟨E1, M1, e1, h⟩ | ⟨r1, M1, e1, h⟩ := wpO_h h
  · by_cases hE0 : E1 = "java/lang/IndexOutOfBoundsException"
    · subst hE0
      have h := wpO_t h rfl
      refine G_callXVt (ci := 11) [.int x1, .int x2] [.int 0, .ref (g.2.1 121)] K dL_least_5 wv_1064 yd_X11_least (Nat.le_of_ble_eq_true rfl) (sh_0 _ _) rfl (by decide) (by decide) rfl rfl (Nat.le_of_ble_eq_true rfl) (K_KW_least l g htr x1 x2 M _ _ e1) (G_catch [] (0, 10, 13, 19) [] K htb rfl (fun _ hz => absurd hz List.not_mem_nil) rfl (by decide) wd_726 (by decide) (fun q => ?_))
      refine G_astore K dL_least_13 (Nat.le_of_ble_eq_true rfl) rfl ?_
      refine G_iconst (v := 1) rfl K dL_least_15 ?_
      cases hPHI _ (wpO_some h)
      exact G_iret K hr rfl dL_least_16 (Nat.le_of_ble_eq_true rfl) (Nat.le_of_ble_eq_true rfl) ⟨rfl, rfl⟩
    have h := wpO_f h hE0
    exact wpO_none h
  refine G_callXVi (ci := 11) [.int x1, .int x2] [.int 0, .ref (g.2.1 121)] K dL_least_5 wv_1064 yd_X11_least (Nat.le_of_ble_eq_true rfl) (sh_0 _ _) rfl (by decide) (by decide) rfl rfl (Nat.le_of_ble_eq_true rfl) (K_KW_least l g htr x1 x2 M _ _ e1) ?_
  refine G_i2l K dL_least_8 ?_
  obtain ⟨hin, h⟩ := wpO_g h
  refine G_last K dL_least_9 (Nat.le_of_ble_eq_true rfl) (sh_121 _) hin ?_
  refine G_goto (tgt := 17) K dL_least_10 (by decide) ?_
  refine G_iconst (v := 0) rfl K dL_least_17 ?_
  cases hPHI _ (wpO_some h)
  exact G_iret K hr rfl dL_least_18 (Nat.le_of_ble_eq_true rfl) (Nat.le_of_ble_eq_true rfl) ⟨rfl, rfl⟩
theorem yd_X11_lots : ydN yX11_lots 2 := ⟨by decide, by decide, by decide +kernel⟩
theorem wv_1080 : wdV "KeptWellLaw" 62 yX11_lots cX11_lots 3 (some .long) := ⟨wd_1080, wd_1081, wd_1082, wd_1, wd_1083⟩
def on_L_lots : Nat := 0xac03ac04043a0700a7503e00b61c1b2a032d
theorem ob_L_lots : OKB cL_lots on_L_lots 18 := ⟨by decide +kernel, by decide +kernel⟩
theorem dL_lots_0 : dc cL_lots 0 1 (.aload_n 3) 1 := o_45 ob_L_lots rfl rfl rfl
theorem dL_lots_1 : dc cL_lots 1 2 (.iconst 0) 1 := o_3 ob_L_lots rfl rfl rfl
theorem dL_lots_2 : dc cL_lots 2 3 (.aload_n 0) 1 := o_42 ob_L_lots rfl rfl rfl
theorem dL_lots_3 : dc cL_lots 3 4 (.iload_n 1) 1 := o_27 ob_L_lots rfl rfl rfl
theorem dL_lots_4 : dc cL_lots 4 5 (.iload_n 2) 1 := o_28 ob_L_lots rfl rfl rfl
theorem dL_lots_5 : dc cL_lots 5 8 (.invokevirtual 62) 3 := o_182 ob_L_lots rfl rfl rfl rfl
theorem dL_lots_8 : dc cL_lots 8 9 .lastore 1 := o_80 ob_L_lots rfl rfl rfl
theorem dL_lots_9 : dc cL_lots 9 12 (.goto 7) 3 := o_167 ob_L_lots rfl rfl rfl rfl
theorem dL_lots_12 : dc cL_lots 12 14 (.astore 4) 2 := o_58 ob_L_lots rfl rfl rfl rfl
theorem dL_lots_14 : dc cL_lots 14 15 (.iconst 1) 1 := o_4 ob_L_lots rfl rfl rfl
theorem dL_lots_15 : dc cL_lots 15 16 .ireturn 1 := o_172 ob_L_lots rfl rfl rfl
theorem dL_lots_16 : dc cL_lots 16 17 (.iconst 0) 1 := o_3 ob_L_lots rfl rfl rfl
theorem dL_lots_17 : dc cL_lots 17 18 .ireturn 1 := o_172 ob_L_lots rfl rfl rfl
def F_LAW_lots (x1 : Int32) (x2 : Int32) (M : Mem) : Option (Int32 × Mem) :=
  hbind (F_KW_lots x1 x2 M) (fun E1 M1 => if E1 = "java/lang/IndexOutOfBoundsException" then some ((1, M1)) else none) fun r1 M1 => if inb ((0 : Int32)) 1 then some ((0, mSL M1 121 ((0 : Int32)).toNatClampNeg r1)) else none
set_option maxRecDepth 100000 in
set_option maxHeartbeats 4000000 in
theorem K_LAW_lots (l : Launch) (g : GB) (htr : l.stackTraces = false) (x1 : Int32) (x2 : Int32) (M : Mem) (rr : Int32) (MZ : Mem) (h : F_LAW_lots x1 x2 M = some (rr, MZ)) : CT l g yL_lots (.codeWith yL_lots cL_lots 5 (some .int) [(0, 9, 12, 19)] :: wAll) { frames := 8, cells := 1, slots := 6, locals := 147 } [.ref (g.2.1 0), .int x1, .int x2, .ref (g.2.1 121)] M (.inl (some (.int rr))) MZ := by
  refine CT.ofH [(0, .ref (g.2.1 0)), (1, .int x1), (2, .int x2), (3, .ref (g.2.1 121))] (by decide +kernel) (Nat.le_of_ble_eq_true rfl) rfl htr ?_
  intro p e s m args below meth c K hr htb
  skip
  obtain ⟨PHI, hPHI, h⟩ : ∃ PHI : Int32 × Mem → Prop, (∀ a, PHI a → a = (rr, MZ)) ∧ wpO (F_LAW_lots x1 x2 M) PHI := ⟨fun a => a = (rr, MZ), fun _ h => h, _, h, rfl⟩
  unfold F_LAW_lots at h
  refine G_aload_n rfl 3 rfl K dL_lots_0 ?_
  refine G_iconst (v := 0) rfl K dL_lots_1 ?_
  refine G_aload_n rfl 0 rfl K dL_lots_2 ?_
  refine G_iload_n rfl 1 rfl K dL_lots_3 ?_
  refine G_iload_n rfl 2 rfl K dL_lots_4 ?_
  obtain ⟨E1, M1, e1, h⟩ | ⟨r1, M1, e1, h⟩ := wpO_h h
  · by_cases hE0 : E1 = "java/lang/IndexOutOfBoundsException"
    · subst hE0
      have h := wpO_t h rfl
      refine G_callXVt (ci := 11) [.int x1, .int x2] [.int 0, .ref (g.2.1 121)] K dL_lots_5 wv_1080 yd_X11_lots (Nat.le_of_ble_eq_true rfl) (sh_0 _ _) rfl (by decide) (by decide) rfl rfl (Nat.le_of_ble_eq_true rfl) (K_KW_lots l g htr x1 x2 M _ _ e1) (G_catch [] (0, 9, 12, 19) [] K htb rfl (fun _ hz => absurd hz List.not_mem_nil) rfl (by decide) wd_726 (by decide) (fun q => ?_))
      refine G_astore K dL_lots_12 (Nat.le_of_ble_eq_true rfl) rfl ?_
      refine G_iconst (v := 1) rfl K dL_lots_14 ?_
      cases hPHI _ (wpO_some h)
      exact G_iret K hr rfl dL_lots_15 (Nat.le_of_ble_eq_true rfl) (Nat.le_of_ble_eq_true rfl) ⟨rfl, rfl⟩
    have h := wpO_f h hE0
    exact wpO_none h
  refine G_callXVl (ci := 11) [.int x1, .int x2] [.int 0, .ref (g.2.1 121)] K dL_lots_5 wv_1080 yd_X11_lots (Nat.le_of_ble_eq_true rfl) (sh_0 _ _) rfl (by decide) (by decide) rfl rfl (Nat.le_of_ble_eq_true rfl) (K_KW_lots l g htr x1 x2 M _ _ e1) ?_
  obtain ⟨hin, h⟩ := wpO_g h
  refine G_last K dL_lots_8 (Nat.le_of_ble_eq_true rfl) (sh_121 _) hin ?_
  refine G_goto (tgt := 16) K dL_lots_9 (by decide) ?_
  refine G_iconst (v := 0) rfl K dL_lots_16 ?_
  cases hPHI _ (wpO_some h)
  exact G_iret K hr rfl dL_lots_17 (Nat.le_of_ble_eq_true rfl) (Nat.le_of_ble_eq_true rfl) ⟨rfl, rfl⟩
theorem yd_X11_in : ydN yX11_in 4 := ⟨by decide, by decide, by decide +kernel⟩
theorem wv_1122 : wdV "KeptWellLaw" 66 yX11_in cX11_in 5 (some .boolean) := ⟨wd_1122, wd_1123, wd_1124, wd_1, wd_1125⟩
def on_L_in : Nat := 0xac03ac04063a0700a750090400a70a0700994200b604151d1c1b2a030519
theorem ob_L_in : OKB cL_in on_L_in 30 := ⟨by decide +kernel, by decide +kernel⟩
theorem dL_in_0 : dc cL_in 0 2 (.aload 5) 2 := o_25 ob_L_in rfl rfl rfl rfl
theorem dL_in_2 : dc cL_in 2 3 (.iconst 0) 1 := o_3 ob_L_in rfl rfl rfl
theorem dL_in_3 : dc cL_in 3 4 (.aload_n 0) 1 := o_42 ob_L_in rfl rfl rfl
theorem dL_in_4 : dc cL_in 4 5 (.iload_n 1) 1 := o_27 ob_L_in rfl rfl rfl
theorem dL_in_5 : dc cL_in 5 6 (.iload_n 2) 1 := o_28 ob_L_in rfl rfl rfl
theorem dL_in_6 : dc cL_in 6 7 (.iload_n 3) 1 := o_29 ob_L_in rfl rfl rfl
theorem dL_in_7 : dc cL_in 7 9 (.iload 4) 2 := o_21 ob_L_in rfl rfl rfl rfl
theorem dL_in_9 : dc cL_in 9 12 (.invokevirtual 66) 3 := o_182 ob_L_in rfl rfl rfl rfl
theorem dL_in_12 : dc cL_in 12 15 (.ifCond .eq 7) 3 := o_153 ob_L_in rfl rfl rfl rfl
theorem dL_in_15 : dc cL_in 15 16 (.lconst 1) 1 := o_10 ob_L_in rfl rfl rfl
theorem dL_in_16 : dc cL_in 16 19 (.goto 4) 3 := o_167 ob_L_in rfl rfl rfl rfl
theorem dL_in_19 : dc cL_in 19 20 (.lconst 0) 1 := o_9 ob_L_in rfl rfl rfl
theorem dL_in_20 : dc cL_in 20 21 .lastore 1 := o_80 ob_L_in rfl rfl rfl
theorem dL_in_21 : dc cL_in 21 24 (.goto 7) 3 := o_167 ob_L_in rfl rfl rfl rfl
theorem dL_in_24 : dc cL_in 24 26 (.astore 6) 2 := o_58 ob_L_in rfl rfl rfl rfl
theorem dL_in_26 : dc cL_in 26 27 (.iconst 1) 1 := o_4 ob_L_in rfl rfl rfl
theorem dL_in_27 : dc cL_in 27 28 .ireturn 1 := o_172 ob_L_in rfl rfl rfl
theorem dL_in_28 : dc cL_in 28 29 (.iconst 0) 1 := o_3 ob_L_in rfl rfl rfl
theorem dL_in_29 : dc cL_in 29 30 .ireturn 1 := o_172 ob_L_in rfl rfl rfl
def F_LAW_in (x1 : Int32) (x2 : Int32) (x3 : Int32) (x4 : Int32) (M : Mem) : Option (Int32 × Mem) :=
  hbind (F_KW_in x1 x2 x3 x4 M) (fun E1 M1 => if E1 = "java/lang/IllegalArgumentException" then some ((1, M1)) else none) fun r1 M1 => if r1 = true then if inb ((0 : Int32)) 1 then some ((0, mSL M1 121 ((0 : Int32)).toNatClampNeg 1)) else none else if inb ((0 : Int32)) 1 then some ((0, mSL M1 121 ((0 : Int32)).toNatClampNeg 0)) else none
set_option maxRecDepth 100000 in
set_option maxHeartbeats 4000000 in
theorem K_LAW_in (l : Launch) (g : GB) (htr : l.stackTraces = false) (x1 : Int32) (x2 : Int32) (x3 : Int32) (x4 : Int32) (M : Mem) (rr : Int32) (MZ : Mem) (h : F_LAW_in x1 x2 x3 x4 M = some (rr, MZ)) : CT l g yL_in (.codeWith yL_in cL_in 7 (some .int) [(0, 21, 24, 13)] :: wAll) { frames := 8, cells := 3, slots := 18, locals := 163 } [.ref (g.2.1 0), .int x1, .int x2, .int x3, .int x4, .ref (g.2.1 121)] M (.inl (some (.int rr))) MZ := by
  refine CT.ofH [(0, .ref (g.2.1 0)), (1, .int x1), (2, .int x2), (3, .int x3), (4, .int x4), (5, .ref (g.2.1 121))] (by decide +kernel) (Nat.le_of_ble_eq_true rfl) rfl htr ?_
  intro p e s m args below meth c K hr htb
  skip
  obtain ⟨PHI, hPHI, h⟩ : ∃ PHI : Int32 × Mem → Prop, (∀ a, PHI a → a = (rr, MZ)) ∧ wpO (F_LAW_in x1 x2 x3 x4 M) PHI := ⟨fun a => a = (rr, MZ), fun _ h => h, _, h, rfl⟩
  unfold F_LAW_in at h
  refine G_aload 5 rfl K dL_in_0 ?_
  refine G_iconst (v := 0) rfl K dL_in_2 ?_
  refine G_aload_n rfl 0 rfl K dL_in_3 ?_
  refine G_iload_n rfl 1 rfl K dL_in_4 ?_
  refine G_iload_n rfl 2 rfl K dL_in_5 ?_
  refine G_iload_n rfl 3 rfl K dL_in_6 ?_
  refine G_iload 4 rfl K dL_in_7 ?_
  obtain ⟨E1, M1, e1, h⟩ | ⟨r1, M1, e1, h⟩ := wpO_h h
  · by_cases hE0 : E1 = "java/lang/IllegalArgumentException"
    · subst hE0
      have h := wpO_t h rfl
      refine G_callXVt (ci := 11) [.int x1, .int x2, .int x3, .int x4] [.int 0, .ref (g.2.1 121)] K dL_in_9 wv_1122 yd_X11_in (Nat.le_of_ble_eq_true rfl) (sh_0 _ _) rfl (by decide) (by decide) rfl rfl (Nat.le_of_ble_eq_true rfl) (K_KW_in l g htr x1 x2 x3 x4 M _ _ e1) (G_catch [] (0, 21, 24, 13) [] K htb rfl (fun _ hz => absurd hz List.not_mem_nil) rfl (by decide) wd_649 (by decide) (fun q => ?_))
      refine G_astore K dL_in_24 (Nat.le_of_ble_eq_true rfl) rfl ?_
      refine G_iconst (v := 1) rfl K dL_in_26 ?_
      cases hPHI _ (wpO_some h)
      exact G_iret K hr rfl dL_in_27 (Nat.le_of_ble_eq_true rfl) (Nat.le_of_ble_eq_true rfl) ⟨rfl, rfl⟩
    have h := wpO_f h hE0
    exact wpO_none h
  refine G_callXVi (ci := 11) [.int x1, .int x2, .int x3, .int x4] [.int 0, .ref (g.2.1 121)] K dL_in_9 wv_1122 yd_X11_in (Nat.le_of_ble_eq_true rfl) (sh_0 _ _) rfl (by decide) (by decide) rfl rfl (Nat.le_of_ble_eq_true rfl) (K_KW_in l g htr x1 x2 x3 x4 M _ _ e1) ?_
  refine G_ifb_eq (tgt := 19) K dL_in_12 (by decide) (fun hc => ?_) (fun hc => ?_)
  · have h := wpO_bf h hc
    refine G_lconst (v := 0) rfl K dL_in_19 ?_
    obtain ⟨hin, h⟩ := wpO_g h
    refine G_last K dL_in_20 (Nat.le_of_ble_eq_true rfl) (sh_121 _) hin ?_
    refine G_goto (tgt := 28) K dL_in_21 (by decide) ?_
    refine G_iconst (v := 0) rfl K dL_in_28 ?_
    cases hPHI _ (wpO_some h)
    exact G_iret K hr rfl dL_in_29 (Nat.le_of_ble_eq_true rfl) (Nat.le_of_ble_eq_true rfl) ⟨rfl, rfl⟩
  · have h := wpO_t h hc
    refine G_lconst (v := 1) rfl K dL_in_15 ?_
    refine G_goto (tgt := 20) K dL_in_16 (by decide) ?_
    obtain ⟨hin, h⟩ := wpO_g h
    refine G_last K dL_in_20 (Nat.le_of_ble_eq_true rfl) (sh_121 _) hin ?_
    refine G_goto (tgt := 28) K dL_in_21 (by decide) ?_
    refine G_iconst (v := 0) rfl K dL_in_28 ?_
    cases hPHI _ (wpO_some h)
    exact G_iret K hr rfl dL_in_29 (Nat.le_of_ble_eq_true rfl) (Nat.le_of_ble_eq_true rfl) ⟨rfl, rfl⟩
theorem yd_X11_mild : ydN yX11_mild 4 := ⟨by decide, by decide, by decide +kernel⟩
theorem wv_1147 : wdV "KeptWellLaw" 70 yX11_mild cX11_mild 5 (some .int) := ⟨wd_1147, wd_1148, wd_1149, wd_1, wd_1150⟩
def on_L_mild : Nat := 0xac03ac04063a0700a750854600b604151d1c1b2a030519
theorem ob_L_mild : OKB cL_mild on_L_mild 23 := ⟨by decide +kernel, by decide +kernel⟩
theorem dL_mild_0 : dc cL_mild 0 2 (.aload 5) 2 := o_25 ob_L_mild rfl rfl rfl rfl
theorem dL_mild_2 : dc cL_mild 2 3 (.iconst 0) 1 := o_3 ob_L_mild rfl rfl rfl
theorem dL_mild_3 : dc cL_mild 3 4 (.aload_n 0) 1 := o_42 ob_L_mild rfl rfl rfl
theorem dL_mild_4 : dc cL_mild 4 5 (.iload_n 1) 1 := o_27 ob_L_mild rfl rfl rfl
theorem dL_mild_5 : dc cL_mild 5 6 (.iload_n 2) 1 := o_28 ob_L_mild rfl rfl rfl
theorem dL_mild_6 : dc cL_mild 6 7 (.iload_n 3) 1 := o_29 ob_L_mild rfl rfl rfl
theorem dL_mild_7 : dc cL_mild 7 9 (.iload 4) 2 := o_21 ob_L_mild rfl rfl rfl rfl
theorem dL_mild_9 : dc cL_mild 9 12 (.invokevirtual 70) 3 := o_182 ob_L_mild rfl rfl rfl rfl
theorem dL_mild_12 : dc cL_mild 12 13 .i2l 1 := o_133 ob_L_mild rfl rfl rfl
theorem dL_mild_13 : dc cL_mild 13 14 .lastore 1 := o_80 ob_L_mild rfl rfl rfl
theorem dL_mild_14 : dc cL_mild 14 17 (.goto 7) 3 := o_167 ob_L_mild rfl rfl rfl rfl
theorem dL_mild_17 : dc cL_mild 17 19 (.astore 6) 2 := o_58 ob_L_mild rfl rfl rfl rfl
theorem dL_mild_19 : dc cL_mild 19 20 (.iconst 1) 1 := o_4 ob_L_mild rfl rfl rfl
theorem dL_mild_20 : dc cL_mild 20 21 .ireturn 1 := o_172 ob_L_mild rfl rfl rfl
theorem dL_mild_21 : dc cL_mild 21 22 (.iconst 0) 1 := o_3 ob_L_mild rfl rfl rfl
theorem dL_mild_22 : dc cL_mild 22 23 .ireturn 1 := o_172 ob_L_mild rfl rfl rfl
def F_LAW_mild (x1 : Int32) (x2 : Int32) (x3 : Int32) (x4 : Int32) (M : Mem) : Option (Int32 × Mem) :=
  hbind (F_KW_mild x1 x2 x3 x4 M) (fun E1 M1 => if E1 = "java/lang/IndexOutOfBoundsException" then some ((1, M1)) else none) fun r1 M1 => if inb ((0 : Int32)) 1 then some ((0, mSL M1 121 ((0 : Int32)).toNatClampNeg r1.toInt64)) else none
set_option maxRecDepth 100000 in
set_option maxHeartbeats 4000000 in
theorem K_LAW_mild (l : Launch) (g : GB) (htr : l.stackTraces = false) (x1 : Int32) (x2 : Int32) (x3 : Int32) (x4 : Int32) (M : Mem) (rr : Int32) (MZ : Mem) (h : F_LAW_mild x1 x2 x3 x4 M = some (rr, MZ)) : CT l g yL_mild (.codeWith yL_mild cL_mild 7 (some .int) [(0, 14, 17, 19)] :: wAll) { frames := 8, cells := 4, slots := 24, locals := 152 } [.ref (g.2.1 0), .int x1, .int x2, .int x3, .int x4, .ref (g.2.1 121)] M (.inl (some (.int rr))) MZ := by
  refine CT.ofH [(0, .ref (g.2.1 0)), (1, .int x1), (2, .int x2), (3, .int x3), (4, .int x4), (5, .ref (g.2.1 121))] (by decide +kernel) (Nat.le_of_ble_eq_true rfl) rfl htr ?_
  intro p e s m args below meth c K hr htb
  skip
  obtain ⟨PHI, hPHI, h⟩ : ∃ PHI : Int32 × Mem → Prop, (∀ a, PHI a → a = (rr, MZ)) ∧ wpO (F_LAW_mild x1 x2 x3 x4 M) PHI := ⟨fun a => a = (rr, MZ), fun _ h => h, _, h, rfl⟩
  unfold F_LAW_mild at h
  refine G_aload 5 rfl K dL_mild_0 ?_
  refine G_iconst (v := 0) rfl K dL_mild_2 ?_
  refine G_aload_n rfl 0 rfl K dL_mild_3 ?_
  refine G_iload_n rfl 1 rfl K dL_mild_4 ?_
  refine G_iload_n rfl 2 rfl K dL_mild_5 ?_
  refine G_iload_n rfl 3 rfl K dL_mild_6 ?_
  refine G_iload 4 rfl K dL_mild_7 ?_
  obtain ⟨E1, M1, e1, h⟩ | ⟨r1, M1, e1, h⟩ := wpO_h h
  · by_cases hE0 : E1 = "java/lang/IndexOutOfBoundsException"
    · subst hE0
      have h := wpO_t h rfl
      refine G_callXVt (ci := 11) [.int x1, .int x2, .int x3, .int x4] [.int 0, .ref (g.2.1 121)] K dL_mild_9 wv_1147 yd_X11_mild (Nat.le_of_ble_eq_true rfl) (sh_0 _ _) rfl (by decide) (by decide) rfl rfl (Nat.le_of_ble_eq_true rfl) (K_KW_mild l g htr x1 x2 x3 x4 M _ _ e1) (G_catch [] (0, 14, 17, 19) [] K htb rfl (fun _ hz => absurd hz List.not_mem_nil) rfl (by decide) wd_726 (by decide) (fun q => ?_))
      refine G_astore K dL_mild_17 (Nat.le_of_ble_eq_true rfl) rfl ?_
      refine G_iconst (v := 1) rfl K dL_mild_19 ?_
      cases hPHI _ (wpO_some h)
      exact G_iret K hr rfl dL_mild_20 (Nat.le_of_ble_eq_true rfl) (Nat.le_of_ble_eq_true rfl) ⟨rfl, rfl⟩
    have h := wpO_f h hE0
    exact wpO_none h
  refine G_callXVi (ci := 11) [.int x1, .int x2, .int x3, .int x4] [.int 0, .ref (g.2.1 121)] K dL_mild_9 wv_1147 yd_X11_mild (Nat.le_of_ble_eq_true rfl) (sh_0 _ _) rfl (by decide) (by decide) rfl rfl (Nat.le_of_ble_eq_true rfl) (K_KW_mild l g htr x1 x2 x3 x4 M _ _ e1) ?_
  refine G_i2l K dL_mild_12 ?_
  obtain ⟨hin, h⟩ := wpO_g h
  refine G_last K dL_mild_13 (Nat.le_of_ble_eq_true rfl) (sh_121 _) hin ?_
  refine G_goto (tgt := 21) K dL_mild_14 (by decide) ?_
  refine G_iconst (v := 0) rfl K dL_mild_21 ?_
  cases hPHI _ (wpO_some h)
  exact G_iret K hr rfl dL_mild_22 (Nat.le_of_ble_eq_true rfl) (Nat.le_of_ble_eq_true rfl) ⟨rfl, rfl⟩
theorem yd_X11_edge : ydN yX11_edge 3 := ⟨by decide, by decide, by decide +kernel⟩
theorem wv_1170 : wdV "KeptWellLaw" 74 yX11_edge cX11_edge 4 (some .int) := ⟨wd_1170, wd_1171, wd_1172, wd_1, wd_1173⟩
def on_L_edge : Nat := 0xac03ac06053aac05053aac04053a0f00a750854a00b61d1c1b2a030419
theorem ob_L_edge : OKB cL_edge on_L_edge 29 := ⟨by decide +kernel, by decide +kernel⟩
theorem dL_edge_0 : dc cL_edge 0 2 (.aload 4) 2 := o_25 ob_L_edge rfl rfl rfl rfl
theorem dL_edge_2 : dc cL_edge 2 3 (.iconst 0) 1 := o_3 ob_L_edge rfl rfl rfl
theorem dL_edge_3 : dc cL_edge 3 4 (.aload_n 0) 1 := o_42 ob_L_edge rfl rfl rfl
theorem dL_edge_4 : dc cL_edge 4 5 (.iload_n 1) 1 := o_27 ob_L_edge rfl rfl rfl
theorem dL_edge_5 : dc cL_edge 5 6 (.iload_n 2) 1 := o_28 ob_L_edge rfl rfl rfl
theorem dL_edge_6 : dc cL_edge 6 7 (.iload_n 3) 1 := o_29 ob_L_edge rfl rfl rfl
theorem dL_edge_7 : dc cL_edge 7 10 (.invokevirtual 74) 3 := o_182 ob_L_edge rfl rfl rfl rfl
theorem dL_edge_10 : dc cL_edge 10 11 .i2l 1 := o_133 ob_L_edge rfl rfl rfl
theorem dL_edge_11 : dc cL_edge 11 12 .lastore 1 := o_80 ob_L_edge rfl rfl rfl
theorem dL_edge_12 : dc cL_edge 12 15 (.goto 15) 3 := o_167 ob_L_edge rfl rfl rfl rfl
theorem dL_edge_15 : dc cL_edge 15 17 (.astore 5) 2 := o_58 ob_L_edge rfl rfl rfl rfl
theorem dL_edge_17 : dc cL_edge 17 18 (.iconst 1) 1 := o_4 ob_L_edge rfl rfl rfl
theorem dL_edge_18 : dc cL_edge 18 19 .ireturn 1 := o_172 ob_L_edge rfl rfl rfl
theorem dL_edge_19 : dc cL_edge 19 21 (.astore 5) 2 := o_58 ob_L_edge rfl rfl rfl rfl
theorem dL_edge_21 : dc cL_edge 21 22 (.iconst 2) 1 := o_5 ob_L_edge rfl rfl rfl
theorem dL_edge_22 : dc cL_edge 22 23 .ireturn 1 := o_172 ob_L_edge rfl rfl rfl
theorem dL_edge_23 : dc cL_edge 23 25 (.astore 5) 2 := o_58 ob_L_edge rfl rfl rfl rfl
theorem dL_edge_25 : dc cL_edge 25 26 (.iconst 3) 1 := o_6 ob_L_edge rfl rfl rfl
theorem dL_edge_26 : dc cL_edge 26 27 .ireturn 1 := o_172 ob_L_edge rfl rfl rfl
theorem dL_edge_27 : dc cL_edge 27 28 (.iconst 0) 1 := o_3 ob_L_edge rfl rfl rfl
theorem dL_edge_28 : dc cL_edge 28 29 .ireturn 1 := o_172 ob_L_edge rfl rfl rfl
def F_LAW_edge (x1 : Int32) (x2 : Int32) (x3 : Int32) (M : Mem) : Option (Int32 × Mem) :=
  hbind (F_KW_edge x1 x2 x3 M) (fun E1 M1 => if E1 = "java/lang/IndexOutOfBoundsException" then some ((1, M1)) else if E1 = "java/lang/IllegalArgumentException" then some ((2, M1)) else if E1 = "java/lang/IllegalStateException" then some ((3, M1)) else none) fun r1 M1 => if inb ((0 : Int32)) 1 then some ((0, mSL M1 121 ((0 : Int32)).toNatClampNeg r1.toInt64)) else none
set_option maxRecDepth 100000 in
set_option maxHeartbeats 4000000 in
theorem K_LAW_edge (l : Launch) (g : GB) (htr : l.stackTraces = false) (x1 : Int32) (x2 : Int32) (x3 : Int32) (M : Mem) (rr : Int32) (MZ : Mem) (h : F_LAW_edge x1 x2 x3 M = some (rr, MZ)) : CT l g yL_edge (.codeWith yL_edge cL_edge 6 (some .int) [(0, 12, 15, 19), (0, 12, 19, 13), (0, 12, 23, 41)] :: wAll) { frames := 8, cells := 5, slots := 30, locals := 199 } [.ref (g.2.1 0), .int x1, .int x2, .int x3, .ref (g.2.1 121)] M (.inl (some (.int rr))) MZ := by
  refine CT.ofH [(0, .ref (g.2.1 0)), (1, .int x1), (2, .int x2), (3, .int x3), (4, .ref (g.2.1 121))] (by decide +kernel) (Nat.le_of_ble_eq_true rfl) rfl htr ?_
  intro p e s m args below meth c K hr htb
  skip
  obtain ⟨PHI, hPHI, h⟩ : ∃ PHI : Int32 × Mem → Prop, (∀ a, PHI a → a = (rr, MZ)) ∧ wpO (F_LAW_edge x1 x2 x3 M) PHI := ⟨fun a => a = (rr, MZ), fun _ h => h, _, h, rfl⟩
  unfold F_LAW_edge at h
  refine G_aload 4 rfl K dL_edge_0 ?_
  refine G_iconst (v := 0) rfl K dL_edge_2 ?_
  refine G_aload_n rfl 0 rfl K dL_edge_3 ?_
  refine G_iload_n rfl 1 rfl K dL_edge_4 ?_
  refine G_iload_n rfl 2 rfl K dL_edge_5 ?_
  refine G_iload_n rfl 3 rfl K dL_edge_6 ?_
  obtain ⟨E1, M1, e1, h⟩ | ⟨r1, M1, e1, h⟩ := wpO_h h
  · by_cases hE0 : E1 = "java/lang/IndexOutOfBoundsException"
    · subst hE0
      have h := wpO_t h rfl
      refine G_callXVt (ci := 11) [.int x1, .int x2, .int x3] [.int 0, .ref (g.2.1 121)] K dL_edge_7 wv_1170 yd_X11_edge (Nat.le_of_ble_eq_true rfl) (sh_0 _ _) rfl (by decide) (by decide) rfl rfl (Nat.le_of_ble_eq_true rfl) (K_KW_edge l g htr x1 x2 x3 M _ _ e1) (G_catch [] (0, 12, 15, 19) [(0, 12, 19, 13), (0, 12, 23, 41)] K htb rfl (fun _ hz => absurd hz List.not_mem_nil) rfl (by decide) wd_726 (by decide) (fun q => ?_))
      refine G_astore K dL_edge_15 (Nat.le_of_ble_eq_true rfl) rfl ?_
      refine G_iconst (v := 1) rfl K dL_edge_17 ?_
      cases hPHI _ (wpO_some h)
      exact G_iret K hr rfl dL_edge_18 (Nat.le_of_ble_eq_true rfl) (Nat.le_of_ble_eq_true rfl) ⟨rfl, rfl⟩
    have h := wpO_f h hE0
    by_cases hE1 : E1 = "java/lang/IllegalArgumentException"
    · subst hE1
      have h := wpO_t h rfl
      refine G_callXVt (ci := 11) [.int x1, .int x2, .int x3] [.int 0, .ref (g.2.1 121)] K dL_edge_7 wv_1170 yd_X11_edge (Nat.le_of_ble_eq_true rfl) (sh_0 _ _) rfl (by decide) (by decide) rfl rfl (Nat.le_of_ble_eq_true rfl) (K_KW_edge l g htr x1 x2 x3 M _ _ e1) (G_catch [(0, 12, 15, 19)] (0, 12, 19, 13) [(0, 12, 23, 41)] K htb rfl (List.forall_mem_cons.mpr ⟨⟨by decide, "java/lang/IndexOutOfBoundsException", wd_726, by decide⟩, fun _ h => absurd h List.not_mem_nil⟩) rfl (by decide) wd_649 (by decide) (fun q => ?_))
      refine G_astore K dL_edge_19 (Nat.le_of_ble_eq_true rfl) rfl ?_
      refine G_iconst (v := 2) rfl K dL_edge_21 ?_
      cases hPHI _ (wpO_some h)
      exact G_iret K hr rfl dL_edge_22 (Nat.le_of_ble_eq_true rfl) (Nat.le_of_ble_eq_true rfl) ⟨rfl, rfl⟩
    have h := wpO_f h hE1
    by_cases hE2 : E1 = "java/lang/IllegalStateException"
    · subst hE2
      have h := wpO_t h rfl
      refine G_callXVt (ci := 11) [.int x1, .int x2, .int x3] [.int 0, .ref (g.2.1 121)] K dL_edge_7 wv_1170 yd_X11_edge (Nat.le_of_ble_eq_true rfl) (sh_0 _ _) rfl (by decide) (by decide) rfl rfl (Nat.le_of_ble_eq_true rfl) (K_KW_edge l g htr x1 x2 x3 M _ _ e1) (G_catch [(0, 12, 15, 19), (0, 12, 19, 13)] (0, 12, 23, 41) [] K htb rfl (List.forall_mem_cons.mpr ⟨⟨by decide, "java/lang/IndexOutOfBoundsException", wd_726, by decide⟩, List.forall_mem_cons.mpr ⟨⟨by decide, "java/lang/IllegalArgumentException", wd_649, by decide⟩, fun _ h => absurd h List.not_mem_nil⟩⟩) rfl (by decide) wd_932 (by decide) (fun q => ?_))
      refine G_astore K dL_edge_23 (Nat.le_of_ble_eq_true rfl) rfl ?_
      refine G_iconst (v := 3) rfl K dL_edge_25 ?_
      cases hPHI _ (wpO_some h)
      exact G_iret K hr rfl dL_edge_26 (Nat.le_of_ble_eq_true rfl) (Nat.le_of_ble_eq_true rfl) ⟨rfl, rfl⟩
    have h := wpO_f h hE2
    exact wpO_none h
  refine G_callXVi (ci := 11) [.int x1, .int x2, .int x3] [.int 0, .ref (g.2.1 121)] K dL_edge_7 wv_1170 yd_X11_edge (Nat.le_of_ble_eq_true rfl) (sh_0 _ _) rfl (by decide) (by decide) rfl rfl (Nat.le_of_ble_eq_true rfl) (K_KW_edge l g htr x1 x2 x3 M _ _ e1) ?_
  refine G_i2l K dL_edge_10 ?_
  obtain ⟨hin, h⟩ := wpO_g h
  refine G_last K dL_edge_11 (Nat.le_of_ble_eq_true rfl) (sh_121 _) hin ?_
  refine G_goto (tgt := 27) K dL_edge_12 (by decide) ?_
  refine G_iconst (v := 0) rfl K dL_edge_27 ?_
  cases hPHI _ (wpO_some h)
  exact G_iret K hr rfl dL_edge_28 (Nat.le_of_ble_eq_true rfl) (Nat.le_of_ble_eq_true rfl) ⟨rfl, rfl⟩
theorem yd_X11_mistakes : ydN yX11_mistakes 2 := ⟨by decide, by decide, by decide +kernel⟩
theorem wv_1182 : wdV "KeptWellLaw" 77 yX11_mistakes cX11_mistakes 3 none := ⟨wd_1182, wd_1183, wd_1184, wd_1, wd_1185⟩
def on_L_mistakes : Nat := 0xac03ac044e0600a74d00b61c1b2a
theorem ob_L_mistakes : OKB cL_mistakes on_L_mistakes 14 := ⟨by decide +kernel, by decide +kernel⟩
theorem dL_mistakes_0 : dc cL_mistakes 0 1 (.aload_n 0) 1 := o_42 ob_L_mistakes rfl rfl rfl
theorem dL_mistakes_1 : dc cL_mistakes 1 2 (.iload_n 1) 1 := o_27 ob_L_mistakes rfl rfl rfl
theorem dL_mistakes_2 : dc cL_mistakes 2 3 (.iload_n 2) 1 := o_28 ob_L_mistakes rfl rfl rfl
theorem dL_mistakes_3 : dc cL_mistakes 3 6 (.invokevirtual 77) 3 := o_182 ob_L_mistakes rfl rfl rfl rfl
theorem dL_mistakes_6 : dc cL_mistakes 6 9 (.goto 6) 3 := o_167 ob_L_mistakes rfl rfl rfl rfl
theorem dL_mistakes_9 : dc cL_mistakes 9 10 (.astore_n 3) 1 := o_78 ob_L_mistakes rfl rfl rfl
theorem dL_mistakes_10 : dc cL_mistakes 10 11 (.iconst 1) 1 := o_4 ob_L_mistakes rfl rfl rfl
theorem dL_mistakes_11 : dc cL_mistakes 11 12 .ireturn 1 := o_172 ob_L_mistakes rfl rfl rfl
theorem dL_mistakes_12 : dc cL_mistakes 12 13 (.iconst 0) 1 := o_3 ob_L_mistakes rfl rfl rfl
theorem dL_mistakes_13 : dc cL_mistakes 13 14 .ireturn 1 := o_172 ob_L_mistakes rfl rfl rfl
def F_LAW_mistakes (x1 : Int32) (x2 : Int32) (M : Mem) : Option (Int32 × Mem) :=
  hbind (F_KW_mistakes x1 x2 M) (fun E1 M1 => if E1 = "java/lang/IllegalArgumentException" then some ((1, M1)) else none) fun _ M1 => some ((0, M1))
set_option maxRecDepth 100000 in
set_option maxHeartbeats 4000000 in
theorem K_LAW_mistakes (l : Launch) (g : GB) (htr : l.stackTraces = false) (x1 : Int32) (x2 : Int32) (M : Mem) (rr : Int32) (MZ : Mem) (h : F_LAW_mistakes x1 x2 M = some (rr, MZ)) : CT l g yL_mistakes (.codeWith yL_mistakes cL_mistakes 4 (some .int) [(0, 6, 9, 13)] :: wAll) { frames := 8, cells := 2, slots := 12, locals := 145 } [.ref (g.2.1 0), .int x1, .int x2] M (.inl (some (.int rr))) MZ := by
  refine CT.ofH [(0, .ref (g.2.1 0)), (1, .int x1), (2, .int x2)] (by decide +kernel) (Nat.le_of_ble_eq_true rfl) rfl htr ?_
  intro p e s m args below meth c K hr htb
  skip
  obtain ⟨PHI, hPHI, h⟩ : ∃ PHI : Int32 × Mem → Prop, (∀ a, PHI a → a = (rr, MZ)) ∧ wpO (F_LAW_mistakes x1 x2 M) PHI := ⟨fun a => a = (rr, MZ), fun _ h => h, _, h, rfl⟩
  unfold F_LAW_mistakes at h
  refine G_aload_n rfl 0 rfl K dL_mistakes_0 ?_
  refine G_iload_n rfl 1 rfl K dL_mistakes_1 ?_
  refine G_iload_n rfl 2 rfl K dL_mistakes_2 ?_
  obtain ⟨E1, M1, e1, h⟩ | ⟨r1, M1, e1, h⟩ := wpO_h h
  · by_cases hE0 : E1 = "java/lang/IllegalArgumentException"
    · subst hE0
      have h := wpO_t h rfl
      refine G_callXVt (ci := 11) [.int x1, .int x2] [] K dL_mistakes_3 wv_1182 yd_X11_mistakes (Nat.le_of_ble_eq_true rfl) (sh_0 _ _) rfl (by decide) (by decide) rfl rfl (Nat.le_of_ble_eq_true rfl) (K_KW_mistakes l g htr x1 x2 M _ _ e1) (G_catch [] (0, 6, 9, 13) [] K htb rfl (fun _ hz => absurd hz List.not_mem_nil) rfl (by decide) wd_649 (by decide) (fun q => ?_))
      refine G_astore_n rfl K dL_mistakes_9 (Nat.le_of_ble_eq_true rfl) rfl ?_
      refine G_iconst (v := 1) rfl K dL_mistakes_10 ?_
      cases hPHI _ (wpO_some h)
      exact G_iret K hr rfl dL_mistakes_11 (Nat.le_of_ble_eq_true rfl) (Nat.le_of_ble_eq_true rfl) ⟨rfl, rfl⟩
    have h := wpO_f h hE0
    exact wpO_none h
  refine G_callXVv (ci := 11) [.int x1, .int x2] [] K dL_mistakes_3 wv_1182 yd_X11_mistakes (Nat.le_of_ble_eq_true rfl) (sh_0 _ _) rfl (by decide) (by decide) rfl rfl (Nat.le_of_ble_eq_true rfl) (K_KW_mistakes l g htr x1 x2 M _ _ e1) ?_
  refine G_goto (tgt := 12) K dL_mistakes_6 (by decide) ?_
  refine G_iconst (v := 0) rfl K dL_mistakes_12 ?_
  cases hPHI _ (wpO_some h)
  exact G_iret K hr rfl dL_mistakes_13 (Nat.le_of_ble_eq_true rfl) (Nat.le_of_ble_eq_true rfl) ⟨rfl, rfl⟩
theorem yd_X11_doubt : ydN yX11_doubt 5 := ⟨by decide, by decide, by decide +kernel⟩
theorem wv_1189 : wdV "KeptWellLaw" 80 yX11_doubt cX11_doubt 6 (some .long) := ⟨wd_1189, wd_1190, wd_1191, wd_1, wd_1192⟩
def on_L_doubt : Nat := 0xac03ac05073aac04073a0b00a7505000b6051504151d1c1b2a030619
theorem ob_L_doubt : OKB cL_doubt on_L_doubt 28 := ⟨by decide +kernel, by decide +kernel⟩
theorem dL_doubt_0 : dc cL_doubt 0 2 (.aload 6) 2 := o_25 ob_L_doubt rfl rfl rfl rfl
theorem dL_doubt_2 : dc cL_doubt 2 3 (.iconst 0) 1 := o_3 ob_L_doubt rfl rfl rfl
theorem dL_doubt_3 : dc cL_doubt 3 4 (.aload_n 0) 1 := o_42 ob_L_doubt rfl rfl rfl
theorem dL_doubt_4 : dc cL_doubt 4 5 (.iload_n 1) 1 := o_27 ob_L_doubt rfl rfl rfl
theorem dL_doubt_5 : dc cL_doubt 5 6 (.iload_n 2) 1 := o_28 ob_L_doubt rfl rfl rfl
theorem dL_doubt_6 : dc cL_doubt 6 7 (.iload_n 3) 1 := o_29 ob_L_doubt rfl rfl rfl
theorem dL_doubt_7 : dc cL_doubt 7 9 (.iload 4) 2 := o_21 ob_L_doubt rfl rfl rfl rfl
theorem dL_doubt_9 : dc cL_doubt 9 11 (.iload 5) 2 := o_21 ob_L_doubt rfl rfl rfl rfl
theorem dL_doubt_11 : dc cL_doubt 11 14 (.invokevirtual 80) 3 := o_182 ob_L_doubt rfl rfl rfl rfl
theorem dL_doubt_14 : dc cL_doubt 14 15 .lastore 1 := o_80 ob_L_doubt rfl rfl rfl
theorem dL_doubt_15 : dc cL_doubt 15 18 (.goto 11) 3 := o_167 ob_L_doubt rfl rfl rfl rfl
theorem dL_doubt_18 : dc cL_doubt 18 20 (.astore 7) 2 := o_58 ob_L_doubt rfl rfl rfl rfl
theorem dL_doubt_20 : dc cL_doubt 20 21 (.iconst 1) 1 := o_4 ob_L_doubt rfl rfl rfl
theorem dL_doubt_21 : dc cL_doubt 21 22 .ireturn 1 := o_172 ob_L_doubt rfl rfl rfl
theorem dL_doubt_22 : dc cL_doubt 22 24 (.astore 7) 2 := o_58 ob_L_doubt rfl rfl rfl rfl
theorem dL_doubt_24 : dc cL_doubt 24 25 (.iconst 2) 1 := o_5 ob_L_doubt rfl rfl rfl
theorem dL_doubt_25 : dc cL_doubt 25 26 .ireturn 1 := o_172 ob_L_doubt rfl rfl rfl
theorem dL_doubt_26 : dc cL_doubt 26 27 (.iconst 0) 1 := o_3 ob_L_doubt rfl rfl rfl
theorem dL_doubt_27 : dc cL_doubt 27 28 .ireturn 1 := o_172 ob_L_doubt rfl rfl rfl
def F_LAW_doubt (x1 : Int32) (x2 : Int32) (x3 : Int32) (x4 : Int32) (x5 : Int32) (M : Mem) : Option (Int32 × Mem) :=
  hbind (F_KW_doubt x1 x2 x3 x4 x5 M) (fun E1 M1 => if E1 = "java/lang/IndexOutOfBoundsException" then some ((1, M1)) else if E1 = "java/lang/IllegalStateException" then some ((2, M1)) else none) fun r1 M1 => if inb ((0 : Int32)) 1 then some ((0, mSL M1 121 ((0 : Int32)).toNatClampNeg r1)) else none
set_option maxRecDepth 100000 in
set_option maxHeartbeats 4000000 in
theorem K_LAW_doubt (l : Launch) (g : GB) (htr : l.stackTraces = false) (x1 : Int32) (x2 : Int32) (x3 : Int32) (x4 : Int32) (x5 : Int32) (M : Mem) (rr : Int32) (MZ : Mem) (h : F_LAW_doubt x1 x2 x3 x4 x5 M = some (rr, MZ)) : CT l g yL_doubt (.codeWith yL_doubt cL_doubt 8 (some .int) [(0, 15, 18, 19), (0, 15, 22, 41)] :: wAll) { frames := 8, cells := 8, slots := 48, locals := 165 } [.ref (g.2.1 0), .int x1, .int x2, .int x3, .int x4, .int x5, .ref (g.2.1 121)] M (.inl (some (.int rr))) MZ := by
  refine CT.ofH [(0, .ref (g.2.1 0)), (1, .int x1), (2, .int x2), (3, .int x3), (4, .int x4), (5, .int x5), (6, .ref (g.2.1 121))] (by decide +kernel) (Nat.le_of_ble_eq_true rfl) rfl htr ?_
  intro p e s m args below meth c K hr htb
  skip
  obtain ⟨PHI, hPHI, h⟩ : ∃ PHI : Int32 × Mem → Prop, (∀ a, PHI a → a = (rr, MZ)) ∧ wpO (F_LAW_doubt x1 x2 x3 x4 x5 M) PHI := ⟨fun a => a = (rr, MZ), fun _ h => h, _, h, rfl⟩
  unfold F_LAW_doubt at h
  refine G_aload 6 rfl K dL_doubt_0 ?_
  refine G_iconst (v := 0) rfl K dL_doubt_2 ?_
  refine G_aload_n rfl 0 rfl K dL_doubt_3 ?_
  refine G_iload_n rfl 1 rfl K dL_doubt_4 ?_
  refine G_iload_n rfl 2 rfl K dL_doubt_5 ?_
  refine G_iload_n rfl 3 rfl K dL_doubt_6 ?_
  refine G_iload 4 rfl K dL_doubt_7 ?_
  refine G_iload 5 rfl K dL_doubt_9 ?_
  obtain ⟨E1, M1, e1, h⟩ | ⟨r1, M1, e1, h⟩ := wpO_h h
  · by_cases hE0 : E1 = "java/lang/IndexOutOfBoundsException"
    · subst hE0
      have h := wpO_t h rfl
      refine G_callXVt (ci := 11) [.int x1, .int x2, .int x3, .int x4, .int x5] [.int 0, .ref (g.2.1 121)] K dL_doubt_11 wv_1189 yd_X11_doubt (Nat.le_of_ble_eq_true rfl) (sh_0 _ _) rfl (by decide) (by decide) rfl rfl (Nat.le_of_ble_eq_true rfl) (K_KW_doubt l g htr x1 x2 x3 x4 x5 M _ _ e1) (G_catch [] (0, 15, 18, 19) [(0, 15, 22, 41)] K htb rfl (fun _ hz => absurd hz List.not_mem_nil) rfl (by decide) wd_726 (by decide) (fun q => ?_))
      refine G_astore K dL_doubt_18 (Nat.le_of_ble_eq_true rfl) rfl ?_
      refine G_iconst (v := 1) rfl K dL_doubt_20 ?_
      cases hPHI _ (wpO_some h)
      exact G_iret K hr rfl dL_doubt_21 (Nat.le_of_ble_eq_true rfl) (Nat.le_of_ble_eq_true rfl) ⟨rfl, rfl⟩
    have h := wpO_f h hE0
    by_cases hE1 : E1 = "java/lang/IllegalStateException"
    · subst hE1
      have h := wpO_t h rfl
      refine G_callXVt (ci := 11) [.int x1, .int x2, .int x3, .int x4, .int x5] [.int 0, .ref (g.2.1 121)] K dL_doubt_11 wv_1189 yd_X11_doubt (Nat.le_of_ble_eq_true rfl) (sh_0 _ _) rfl (by decide) (by decide) rfl rfl (Nat.le_of_ble_eq_true rfl) (K_KW_doubt l g htr x1 x2 x3 x4 x5 M _ _ e1) (G_catch [(0, 15, 18, 19)] (0, 15, 22, 41) [] K htb rfl (List.forall_mem_cons.mpr ⟨⟨by decide, "java/lang/IndexOutOfBoundsException", wd_726, by decide⟩, fun _ h => absurd h List.not_mem_nil⟩) rfl (by decide) wd_932 (by decide) (fun q => ?_))
      refine G_astore K dL_doubt_22 (Nat.le_of_ble_eq_true rfl) rfl ?_
      refine G_iconst (v := 2) rfl K dL_doubt_24 ?_
      cases hPHI _ (wpO_some h)
      exact G_iret K hr rfl dL_doubt_25 (Nat.le_of_ble_eq_true rfl) (Nat.le_of_ble_eq_true rfl) ⟨rfl, rfl⟩
    have h := wpO_f h hE1
    exact wpO_none h
  refine G_callXVl (ci := 11) [.int x1, .int x2, .int x3, .int x4, .int x5] [.int 0, .ref (g.2.1 121)] K dL_doubt_11 wv_1189 yd_X11_doubt (Nat.le_of_ble_eq_true rfl) (sh_0 _ _) rfl (by decide) (by decide) rfl rfl (Nat.le_of_ble_eq_true rfl) (K_KW_doubt l g htr x1 x2 x3 x4 x5 M _ _ e1) ?_
  obtain ⟨hin, h⟩ := wpO_g h
  refine G_last K dL_doubt_14 (Nat.le_of_ble_eq_true rfl) (sh_121 _) hin ?_
  refine G_goto (tgt := 26) K dL_doubt_15 (by decide) ?_
  refine G_iconst (v := 0) rfl K dL_doubt_26 ?_
  cases hPHI _ (wpO_some h)
  exact G_iret K hr rfl dL_doubt_27 (Nat.le_of_ble_eq_true rfl) (Nat.le_of_ble_eq_true rfl) ⟨rfl, rfl⟩
theorem yd_X11_row : ydN yX11_row 0 := ⟨by decide, by decide, by decide +kernel⟩
theorem wv_1228 : wdV "KeptWellLaw" 84 yX11_row cX11_row 2 (some .int) := ⟨wd_1228, wd_1229, wd_1230, wd_1, wd_1231⟩
def on_L_row : Nat := 0xac03ac044d0600a750855400b62a032b
theorem ob_L_row : OKB cL_row on_L_row 16 := ⟨by decide +kernel, by decide +kernel⟩
theorem dL_row_0 : dc cL_row 0 1 (.aload_n 1) 1 := o_43 ob_L_row rfl rfl rfl
theorem dL_row_1 : dc cL_row 1 2 (.iconst 0) 1 := o_3 ob_L_row rfl rfl rfl
theorem dL_row_2 : dc cL_row 2 3 (.aload_n 0) 1 := o_42 ob_L_row rfl rfl rfl
theorem dL_row_3 : dc cL_row 3 6 (.invokevirtual 84) 3 := o_182 ob_L_row rfl rfl rfl rfl
theorem dL_row_6 : dc cL_row 6 7 .i2l 1 := o_133 ob_L_row rfl rfl rfl
theorem dL_row_7 : dc cL_row 7 8 .lastore 1 := o_80 ob_L_row rfl rfl rfl
theorem dL_row_8 : dc cL_row 8 11 (.goto 6) 3 := o_167 ob_L_row rfl rfl rfl rfl
theorem dL_row_11 : dc cL_row 11 12 (.astore_n 2) 1 := o_77 ob_L_row rfl rfl rfl
theorem dL_row_12 : dc cL_row 12 13 (.iconst 1) 1 := o_4 ob_L_row rfl rfl rfl
theorem dL_row_13 : dc cL_row 13 14 .ireturn 1 := o_172 ob_L_row rfl rfl rfl
theorem dL_row_14 : dc cL_row 14 15 (.iconst 0) 1 := o_3 ob_L_row rfl rfl rfl
theorem dL_row_15 : dc cL_row 15 16 .ireturn 1 := o_172 ob_L_row rfl rfl rfl
def F_LAW_row (M : Mem) : Option (Int32 × Mem) :=
  hbind (F_KW_row M) (fun E1 M1 => if E1 = "java/lang/IllegalArgumentException" then some ((1, M1)) else none) fun r1 M1 => if inb ((0 : Int32)) 1 then some ((0, mSL M1 121 ((0 : Int32)).toNatClampNeg r1.toInt64)) else none
set_option maxRecDepth 100000 in
set_option maxHeartbeats 4000000 in
theorem K_LAW_row (l : Launch) (g : GB) (htr : l.stackTraces = false) (M : Mem) (rr : Int32) (MZ : Mem) (h : F_LAW_row M = some (rr, MZ)) : CT l g yL_row (.codeWith yL_row cL_row 3 (some .int) [(0, 8, 11, 13)] :: wAll) { frames := 7, cells := 1, slots := 6, locals := 121 } [.ref (g.2.1 0), .ref (g.2.1 121)] M (.inl (some (.int rr))) MZ := by
  refine CT.ofH [(0, .ref (g.2.1 0)), (1, .ref (g.2.1 121))] (by decide +kernel) (Nat.le_of_ble_eq_true rfl) rfl htr ?_
  intro p e s m args below meth c K hr htb
  skip
  obtain ⟨PHI, hPHI, h⟩ : ∃ PHI : Int32 × Mem → Prop, (∀ a, PHI a → a = (rr, MZ)) ∧ wpO (F_LAW_row M) PHI := ⟨fun a => a = (rr, MZ), fun _ h => h, _, h, rfl⟩
  unfold F_LAW_row at h
  refine G_aload_n rfl 1 rfl K dL_row_0 ?_
  refine G_iconst (v := 0) rfl K dL_row_1 ?_
  refine G_aload_n rfl 0 rfl K dL_row_2 ?_
  obtain ⟨E1, M1, e1, h⟩ | ⟨r1, M1, e1, h⟩ := wpO_h h
  · by_cases hE0 : E1 = "java/lang/IllegalArgumentException"
    · subst hE0
      have h := wpO_t h rfl
      refine G_callXVt (ci := 11) [] [.int 0, .ref (g.2.1 121)] K dL_row_3 wv_1228 yd_X11_row (Nat.le_of_ble_eq_true rfl) (sh_0 _ _) rfl (by decide) (by decide) rfl rfl (Nat.le_of_ble_eq_true rfl) (K_KW_row l g htr  M _ _ e1) (G_catch [] (0, 8, 11, 13) [] K htb rfl (fun _ hz => absurd hz List.not_mem_nil) rfl (by decide) wd_649 (by decide) (fun q => ?_))
      refine G_astore_n rfl K dL_row_11 (Nat.le_of_ble_eq_true rfl) rfl ?_
      refine G_iconst (v := 1) rfl K dL_row_12 ?_
      cases hPHI _ (wpO_some h)
      exact G_iret K hr rfl dL_row_13 (Nat.le_of_ble_eq_true rfl) (Nat.le_of_ble_eq_true rfl) ⟨rfl, rfl⟩
    have h := wpO_f h hE0
    exact wpO_none h
  refine G_callXVi (ci := 11) [] [.int 0, .ref (g.2.1 121)] K dL_row_3 wv_1228 yd_X11_row (Nat.le_of_ble_eq_true rfl) (sh_0 _ _) rfl (by decide) (by decide) rfl rfl (Nat.le_of_ble_eq_true rfl) (K_KW_row l g htr  M _ _ e1) ?_
  refine G_i2l K dL_row_6 ?_
  obtain ⟨hin, h⟩ := wpO_g h
  refine G_last K dL_row_7 (Nat.le_of_ble_eq_true rfl) (sh_121 _) hin ?_
  refine G_goto (tgt := 14) K dL_row_8 (by decide) ?_
  refine G_iconst (v := 0) rfl K dL_row_14 ?_
  cases hPHI _ (wpO_some h)
  exact G_iret K hr rfl dL_row_15 (Nat.le_of_ble_eq_true rfl) (Nat.le_of_ble_eq_true rfl) ⟨rfl, rfl⟩
theorem yd_X11_judge : ydN yX11_judge 2 := ⟨by decide, by decide, by decide +kernel⟩
theorem wv_1240 : wdV "KeptWellLaw" 87 yX11_judge cX11_judge 3 (some .int) := ⟨wd_1240, wd_1241, wd_1242, wd_1, wd_1243⟩
def on_L_judge : Nat := 0xac03ac05043aac04043a0b00a750855700b61c1b2a032d
theorem ob_L_judge : OKB cL_judge on_L_judge 23 := ⟨by decide +kernel, by decide +kernel⟩
theorem dL_judge_0 : dc cL_judge 0 1 (.aload_n 3) 1 := o_45 ob_L_judge rfl rfl rfl
theorem dL_judge_1 : dc cL_judge 1 2 (.iconst 0) 1 := o_3 ob_L_judge rfl rfl rfl
theorem dL_judge_2 : dc cL_judge 2 3 (.aload_n 0) 1 := o_42 ob_L_judge rfl rfl rfl
theorem dL_judge_3 : dc cL_judge 3 4 (.iload_n 1) 1 := o_27 ob_L_judge rfl rfl rfl
theorem dL_judge_4 : dc cL_judge 4 5 (.iload_n 2) 1 := o_28 ob_L_judge rfl rfl rfl
theorem dL_judge_5 : dc cL_judge 5 8 (.invokevirtual 87) 3 := o_182 ob_L_judge rfl rfl rfl rfl
theorem dL_judge_8 : dc cL_judge 8 9 .i2l 1 := o_133 ob_L_judge rfl rfl rfl
theorem dL_judge_9 : dc cL_judge 9 10 .lastore 1 := o_80 ob_L_judge rfl rfl rfl
theorem dL_judge_10 : dc cL_judge 10 13 (.goto 11) 3 := o_167 ob_L_judge rfl rfl rfl rfl
theorem dL_judge_13 : dc cL_judge 13 15 (.astore 4) 2 := o_58 ob_L_judge rfl rfl rfl rfl
theorem dL_judge_15 : dc cL_judge 15 16 (.iconst 1) 1 := o_4 ob_L_judge rfl rfl rfl
theorem dL_judge_16 : dc cL_judge 16 17 .ireturn 1 := o_172 ob_L_judge rfl rfl rfl
theorem dL_judge_17 : dc cL_judge 17 19 (.astore 4) 2 := o_58 ob_L_judge rfl rfl rfl rfl
theorem dL_judge_19 : dc cL_judge 19 20 (.iconst 2) 1 := o_5 ob_L_judge rfl rfl rfl
theorem dL_judge_20 : dc cL_judge 20 21 .ireturn 1 := o_172 ob_L_judge rfl rfl rfl
theorem dL_judge_21 : dc cL_judge 21 22 (.iconst 0) 1 := o_3 ob_L_judge rfl rfl rfl
theorem dL_judge_22 : dc cL_judge 22 23 .ireturn 1 := o_172 ob_L_judge rfl rfl rfl
def F_LAW_judge (x1 : Int32) (x2 : Int32) (M : Mem) : Option (Int32 × Mem) :=
  hbind (F_KW_judge x1 x2 M) (fun E1 M1 => if E1 = "java/lang/IndexOutOfBoundsException" then some ((1, M1)) else if E1 = "java/lang/IllegalStateException" then some ((2, M1)) else none) fun r1 M1 => if inb ((0 : Int32)) 1 then some ((0, mSL M1 121 ((0 : Int32)).toNatClampNeg r1.toInt64)) else none
set_option maxRecDepth 100000 in
set_option maxHeartbeats 4000000 in
theorem K_LAW_judge (l : Launch) (g : GB) (htr : l.stackTraces = false) (x1 : Int32) (x2 : Int32) (M : Mem) (rr : Int32) (MZ : Mem) (h : F_LAW_judge x1 x2 M = some (rr, MZ)) : CT l g yL_judge (.codeWith yL_judge cL_judge 5 (some .int) [(0, 10, 13, 19), (0, 10, 17, 41)] :: wAll) { frames := 9, cells := 5, slots := 30, locals := 165 } [.ref (g.2.1 0), .int x1, .int x2, .ref (g.2.1 121)] M (.inl (some (.int rr))) MZ := by
  refine CT.ofH [(0, .ref (g.2.1 0)), (1, .int x1), (2, .int x2), (3, .ref (g.2.1 121))] (by decide +kernel) (Nat.le_of_ble_eq_true rfl) rfl htr ?_
  intro p e s m args below meth c K hr htb
  skip
  obtain ⟨PHI, hPHI, h⟩ : ∃ PHI : Int32 × Mem → Prop, (∀ a, PHI a → a = (rr, MZ)) ∧ wpO (F_LAW_judge x1 x2 M) PHI := ⟨fun a => a = (rr, MZ), fun _ h => h, _, h, rfl⟩
  unfold F_LAW_judge at h
  refine G_aload_n rfl 3 rfl K dL_judge_0 ?_
  refine G_iconst (v := 0) rfl K dL_judge_1 ?_
  refine G_aload_n rfl 0 rfl K dL_judge_2 ?_
  refine G_iload_n rfl 1 rfl K dL_judge_3 ?_
  refine G_iload_n rfl 2 rfl K dL_judge_4 ?_
  obtain ⟨E1, M1, e1, h⟩ | ⟨r1, M1, e1, h⟩ := wpO_h h
  · by_cases hE0 : E1 = "java/lang/IndexOutOfBoundsException"
    · subst hE0
      have h := wpO_t h rfl
      refine G_callXVt (ci := 11) [.int x1, .int x2] [.int 0, .ref (g.2.1 121)] K dL_judge_5 wv_1240 yd_X11_judge (Nat.le_of_ble_eq_true rfl) (sh_0 _ _) rfl (by decide) (by decide) rfl rfl (Nat.le_of_ble_eq_true rfl) (K_KW_judge l g htr x1 x2 M _ _ e1) (G_catch [] (0, 10, 13, 19) [(0, 10, 17, 41)] K htb rfl (fun _ hz => absurd hz List.not_mem_nil) rfl (by decide) wd_726 (by decide) (fun q => ?_))
      refine G_astore K dL_judge_13 (Nat.le_of_ble_eq_true rfl) rfl ?_
      refine G_iconst (v := 1) rfl K dL_judge_15 ?_
      cases hPHI _ (wpO_some h)
      exact G_iret K hr rfl dL_judge_16 (Nat.le_of_ble_eq_true rfl) (Nat.le_of_ble_eq_true rfl) ⟨rfl, rfl⟩
    have h := wpO_f h hE0
    by_cases hE1 : E1 = "java/lang/IllegalStateException"
    · subst hE1
      have h := wpO_t h rfl
      refine G_callXVt (ci := 11) [.int x1, .int x2] [.int 0, .ref (g.2.1 121)] K dL_judge_5 wv_1240 yd_X11_judge (Nat.le_of_ble_eq_true rfl) (sh_0 _ _) rfl (by decide) (by decide) rfl rfl (Nat.le_of_ble_eq_true rfl) (K_KW_judge l g htr x1 x2 M _ _ e1) (G_catch [(0, 10, 13, 19)] (0, 10, 17, 41) [] K htb rfl (List.forall_mem_cons.mpr ⟨⟨by decide, "java/lang/IndexOutOfBoundsException", wd_726, by decide⟩, fun _ h => absurd h List.not_mem_nil⟩) rfl (by decide) wd_932 (by decide) (fun q => ?_))
      refine G_astore K dL_judge_17 (Nat.le_of_ble_eq_true rfl) rfl ?_
      refine G_iconst (v := 2) rfl K dL_judge_19 ?_
      cases hPHI _ (wpO_some h)
      exact G_iret K hr rfl dL_judge_20 (Nat.le_of_ble_eq_true rfl) (Nat.le_of_ble_eq_true rfl) ⟨rfl, rfl⟩
    have h := wpO_f h hE1
    exact wpO_none h
  refine G_callXVi (ci := 11) [.int x1, .int x2] [.int 0, .ref (g.2.1 121)] K dL_judge_5 wv_1240 yd_X11_judge (Nat.le_of_ble_eq_true rfl) (sh_0 _ _) rfl (by decide) (by decide) rfl rfl (Nat.le_of_ble_eq_true rfl) (K_KW_judge l g htr x1 x2 M _ _ e1) ?_
  refine G_i2l K dL_judge_8 ?_
  obtain ⟨hin, h⟩ := wpO_g h
  refine G_last K dL_judge_9 (Nat.le_of_ble_eq_true rfl) (sh_121 _) hin ?_
  refine G_goto (tgt := 21) K dL_judge_10 (by decide) ?_
  refine G_iconst (v := 0) rfl K dL_judge_21 ?_
  cases hPHI _ (wpO_some h)
  exact G_iret K hr rfl dL_judge_22 (Nat.le_of_ble_eq_true rfl) (Nat.le_of_ble_eq_true rfl) ⟨rfl, rfl⟩
theorem yd_X11_brought : ydN yX11_brought 1 := ⟨by decide, by decide, by decide +kernel⟩
theorem wv_1266 : wdV "KeptWellLaw" 90 yX11_brought cX11_brought 2 (some .int) := ⟨wd_1266, wd_1267, wd_1268, wd_1, wd_1269⟩
def on_L_brought : Nat := 0xac03ac044e0600a750855a00b61b2a032c
theorem ob_L_brought : OKB cL_brought on_L_brought 17 := ⟨by decide +kernel, by decide +kernel⟩
theorem dL_brought_0 : dc cL_brought 0 1 (.aload_n 2) 1 := o_44 ob_L_brought rfl rfl rfl
theorem dL_brought_1 : dc cL_brought 1 2 (.iconst 0) 1 := o_3 ob_L_brought rfl rfl rfl
theorem dL_brought_2 : dc cL_brought 2 3 (.aload_n 0) 1 := o_42 ob_L_brought rfl rfl rfl
theorem dL_brought_3 : dc cL_brought 3 4 (.iload_n 1) 1 := o_27 ob_L_brought rfl rfl rfl
theorem dL_brought_4 : dc cL_brought 4 7 (.invokevirtual 90) 3 := o_182 ob_L_brought rfl rfl rfl rfl
theorem dL_brought_7 : dc cL_brought 7 8 .i2l 1 := o_133 ob_L_brought rfl rfl rfl
theorem dL_brought_8 : dc cL_brought 8 9 .lastore 1 := o_80 ob_L_brought rfl rfl rfl
theorem dL_brought_9 : dc cL_brought 9 12 (.goto 6) 3 := o_167 ob_L_brought rfl rfl rfl rfl
theorem dL_brought_12 : dc cL_brought 12 13 (.astore_n 3) 1 := o_78 ob_L_brought rfl rfl rfl
theorem dL_brought_13 : dc cL_brought 13 14 (.iconst 1) 1 := o_4 ob_L_brought rfl rfl rfl
theorem dL_brought_14 : dc cL_brought 14 15 .ireturn 1 := o_172 ob_L_brought rfl rfl rfl
theorem dL_brought_15 : dc cL_brought 15 16 (.iconst 0) 1 := o_3 ob_L_brought rfl rfl rfl
theorem dL_brought_16 : dc cL_brought 16 17 .ireturn 1 := o_172 ob_L_brought rfl rfl rfl
def F_LAW_brought (x1 : Int32) (M : Mem) : Option (Int32 × Mem) :=
  hbind (F_KW_brought x1 M) (fun E1 M1 => if E1 = "java/lang/IndexOutOfBoundsException" then some ((1, M1)) else none) fun r1 M1 => if inb ((0 : Int32)) 1 then some ((0, mSL M1 121 ((0 : Int32)).toNatClampNeg r1.toInt64)) else none
set_option maxRecDepth 100000 in
set_option maxHeartbeats 4000000 in
theorem K_LAW_brought (l : Launch) (g : GB) (htr : l.stackTraces = false) (x1 : Int32) (M : Mem) (rr : Int32) (MZ : Mem) (h : F_LAW_brought x1 M = some (rr, MZ)) : CT l g yL_brought (.codeWith yL_brought cL_brought 4 (some .int) [(0, 9, 12, 19)] :: wAll) { frames := 8, cells := 1, slots := 6, locals := 142 } [.ref (g.2.1 0), .int x1, .ref (g.2.1 121)] M (.inl (some (.int rr))) MZ := by
  refine CT.ofH [(0, .ref (g.2.1 0)), (1, .int x1), (2, .ref (g.2.1 121))] (by decide +kernel) (Nat.le_of_ble_eq_true rfl) rfl htr ?_
  intro p e s m args below meth c K hr htb
  skip
  obtain ⟨PHI, hPHI, h⟩ : ∃ PHI : Int32 × Mem → Prop, (∀ a, PHI a → a = (rr, MZ)) ∧ wpO (F_LAW_brought x1 M) PHI := ⟨fun a => a = (rr, MZ), fun _ h => h, _, h, rfl⟩
  unfold F_LAW_brought at h
  refine G_aload_n rfl 2 rfl K dL_brought_0 ?_
  refine G_iconst (v := 0) rfl K dL_brought_1 ?_
  refine G_aload_n rfl 0 rfl K dL_brought_2 ?_
  refine G_iload_n rfl 1 rfl K dL_brought_3 ?_
  obtain ⟨E1, M1, e1, h⟩ | ⟨r1, M1, e1, h⟩ := wpO_h h
  · by_cases hE0 : E1 = "java/lang/IndexOutOfBoundsException"
    · subst hE0
      have h := wpO_t h rfl
      refine G_callXVt (ci := 11) [.int x1] [.int 0, .ref (g.2.1 121)] K dL_brought_4 wv_1266 yd_X11_brought (Nat.le_of_ble_eq_true rfl) (sh_0 _ _) rfl (by decide) (by decide) rfl rfl (Nat.le_of_ble_eq_true rfl) (K_KW_brought l g htr x1 M _ _ e1) (G_catch [] (0, 9, 12, 19) [] K htb rfl (fun _ hz => absurd hz List.not_mem_nil) rfl (by decide) wd_726 (by decide) (fun q => ?_))
      refine G_astore_n rfl K dL_brought_12 (Nat.le_of_ble_eq_true rfl) rfl ?_
      refine G_iconst (v := 1) rfl K dL_brought_13 ?_
      cases hPHI _ (wpO_some h)
      exact G_iret K hr rfl dL_brought_14 (Nat.le_of_ble_eq_true rfl) (Nat.le_of_ble_eq_true rfl) ⟨rfl, rfl⟩
    have h := wpO_f h hE0
    exact wpO_none h
  refine G_callXVi (ci := 11) [.int x1] [.int 0, .ref (g.2.1 121)] K dL_brought_4 wv_1266 yd_X11_brought (Nat.le_of_ble_eq_true rfl) (sh_0 _ _) rfl (by decide) (by decide) rfl rfl (Nat.le_of_ble_eq_true rfl) (K_KW_brought l g htr x1 M _ _ e1) ?_
  refine G_i2l K dL_brought_7 ?_
  obtain ⟨hin, h⟩ := wpO_g h
  refine G_last K dL_brought_8 (Nat.le_of_ble_eq_true rfl) (sh_121 _) hin ?_
  refine G_goto (tgt := 15) K dL_brought_9 (by decide) ?_
  refine G_iconst (v := 0) rfl K dL_brought_15 ?_
  cases hPHI _ (wpO_some h)
  exact G_iret K hr rfl dL_brought_16 (Nat.le_of_ble_eq_true rfl) (Nat.le_of_ble_eq_true rfl) ⟨rfl, rfl⟩
theorem yd_X11_drawn : ydN yX11_drawn 5 := ⟨by decide, by decide, by decide +kernel⟩
theorem wv_1278 : wdV "KeptWellLaw" 94 yX11_drawn cX11_drawn 6 (some .int) := ⟨wd_1278, wd_1279, wd_1280, wd_1, wd_1281⟩
def on_L_drawn : Nat := 0xac03ac07073aac06073aac05073aac04073a1300a750855e00b6051504151d1c1b2a030619
theorem ob_L_drawn : OKB cL_drawn on_L_drawn 37 := ⟨by decide +kernel, by decide +kernel⟩
theorem dL_drawn_0 : dc cL_drawn 0 2 (.aload 6) 2 := o_25 ob_L_drawn rfl rfl rfl rfl
theorem dL_drawn_2 : dc cL_drawn 2 3 (.iconst 0) 1 := o_3 ob_L_drawn rfl rfl rfl
theorem dL_drawn_3 : dc cL_drawn 3 4 (.aload_n 0) 1 := o_42 ob_L_drawn rfl rfl rfl
theorem dL_drawn_4 : dc cL_drawn 4 5 (.iload_n 1) 1 := o_27 ob_L_drawn rfl rfl rfl
theorem dL_drawn_5 : dc cL_drawn 5 6 (.iload_n 2) 1 := o_28 ob_L_drawn rfl rfl rfl
theorem dL_drawn_6 : dc cL_drawn 6 7 (.iload_n 3) 1 := o_29 ob_L_drawn rfl rfl rfl
theorem dL_drawn_7 : dc cL_drawn 7 9 (.iload 4) 2 := o_21 ob_L_drawn rfl rfl rfl rfl
theorem dL_drawn_9 : dc cL_drawn 9 11 (.iload 5) 2 := o_21 ob_L_drawn rfl rfl rfl rfl
theorem dL_drawn_11 : dc cL_drawn 11 14 (.invokevirtual 94) 3 := o_182 ob_L_drawn rfl rfl rfl rfl
theorem dL_drawn_14 : dc cL_drawn 14 15 .i2l 1 := o_133 ob_L_drawn rfl rfl rfl
theorem dL_drawn_15 : dc cL_drawn 15 16 .lastore 1 := o_80 ob_L_drawn rfl rfl rfl
theorem dL_drawn_16 : dc cL_drawn 16 19 (.goto 19) 3 := o_167 ob_L_drawn rfl rfl rfl rfl
theorem dL_drawn_19 : dc cL_drawn 19 21 (.astore 7) 2 := o_58 ob_L_drawn rfl rfl rfl rfl
theorem dL_drawn_21 : dc cL_drawn 21 22 (.iconst 1) 1 := o_4 ob_L_drawn rfl rfl rfl
theorem dL_drawn_22 : dc cL_drawn 22 23 .ireturn 1 := o_172 ob_L_drawn rfl rfl rfl
theorem dL_drawn_23 : dc cL_drawn 23 25 (.astore 7) 2 := o_58 ob_L_drawn rfl rfl rfl rfl
theorem dL_drawn_25 : dc cL_drawn 25 26 (.iconst 2) 1 := o_5 ob_L_drawn rfl rfl rfl
theorem dL_drawn_26 : dc cL_drawn 26 27 .ireturn 1 := o_172 ob_L_drawn rfl rfl rfl
theorem dL_drawn_27 : dc cL_drawn 27 29 (.astore 7) 2 := o_58 ob_L_drawn rfl rfl rfl rfl
theorem dL_drawn_29 : dc cL_drawn 29 30 (.iconst 3) 1 := o_6 ob_L_drawn rfl rfl rfl
theorem dL_drawn_30 : dc cL_drawn 30 31 .ireturn 1 := o_172 ob_L_drawn rfl rfl rfl
theorem dL_drawn_31 : dc cL_drawn 31 33 (.astore 7) 2 := o_58 ob_L_drawn rfl rfl rfl rfl
theorem dL_drawn_33 : dc cL_drawn 33 34 (.iconst 4) 1 := o_7 ob_L_drawn rfl rfl rfl
theorem dL_drawn_34 : dc cL_drawn 34 35 .ireturn 1 := o_172 ob_L_drawn rfl rfl rfl
theorem dL_drawn_35 : dc cL_drawn 35 36 (.iconst 0) 1 := o_3 ob_L_drawn rfl rfl rfl
theorem dL_drawn_36 : dc cL_drawn 36 37 .ireturn 1 := o_172 ob_L_drawn rfl rfl rfl
def F_LAW_drawn (x1 : Int32) (x2 : Int32) (x3 : Int32) (x4 : Int32) (x5 : Int32) (M : Mem) : Option (Int32 × Mem) :=
  hbind (F_KW_drawn x1 x2 x3 x4 x5 M) (fun E1 M1 => if E1 = "java/lang/IndexOutOfBoundsException" then some ((1, M1)) else if E1 = "java/lang/IllegalArgumentException" then some ((2, M1)) else if E1 = "java/lang/IllegalStateException" then some ((3, M1)) else if E1 = "java/util/NoSuchElementException" then some ((4, M1)) else none) fun r1 M1 => if inb ((0 : Int32)) 1 then some ((0, mSL M1 121 ((0 : Int32)).toNatClampNeg r1.toInt64)) else none
set_option maxRecDepth 100000 in
set_option maxHeartbeats 4000000 in
theorem K_LAW_drawn (l : Launch) (g : GB) (htr : l.stackTraces = false) (x1 : Int32) (x2 : Int32) (x3 : Int32) (x4 : Int32) (x5 : Int32) (M : Mem) (rr : Int32) (MZ : Mem) (h : F_LAW_drawn x1 x2 x3 x4 x5 M = some (rr, MZ)) : CT l g yL_drawn (.codeWith yL_drawn cL_drawn 8 (some .int) [(0, 16, 19, 19), (0, 16, 23, 13), (0, 16, 27, 41), (0, 16, 31, 35)] :: wAll) { frames := 8, cells := 7, slots := 42, locals := 148 } [.ref (g.2.1 0), .int x1, .int x2, .int x3, .int x4, .int x5, .ref (g.2.1 121)] M (.inl (some (.int rr))) MZ := by
  refine CT.ofH [(0, .ref (g.2.1 0)), (1, .int x1), (2, .int x2), (3, .int x3), (4, .int x4), (5, .int x5), (6, .ref (g.2.1 121))] (by decide +kernel) (Nat.le_of_ble_eq_true rfl) rfl htr ?_
  intro p e s m args below meth c K hr htb
  skip
  obtain ⟨PHI, hPHI, h⟩ : ∃ PHI : Int32 × Mem → Prop, (∀ a, PHI a → a = (rr, MZ)) ∧ wpO (F_LAW_drawn x1 x2 x3 x4 x5 M) PHI := ⟨fun a => a = (rr, MZ), fun _ h => h, _, h, rfl⟩
  unfold F_LAW_drawn at h
  refine G_aload 6 rfl K dL_drawn_0 ?_
  refine G_iconst (v := 0) rfl K dL_drawn_2 ?_
  refine G_aload_n rfl 0 rfl K dL_drawn_3 ?_
  refine G_iload_n rfl 1 rfl K dL_drawn_4 ?_
  refine G_iload_n rfl 2 rfl K dL_drawn_5 ?_
  refine G_iload_n rfl 3 rfl K dL_drawn_6 ?_
  refine G_iload 4 rfl K dL_drawn_7 ?_
  refine G_iload 5 rfl K dL_drawn_9 ?_
  obtain ⟨E1, M1, e1, h⟩ | ⟨r1, M1, e1, h⟩ := wpO_h h
  · by_cases hE0 : E1 = "java/lang/IndexOutOfBoundsException"
    · subst hE0
      have h := wpO_t h rfl
      refine G_callXVt (ci := 11) [.int x1, .int x2, .int x3, .int x4, .int x5] [.int 0, .ref (g.2.1 121)] K dL_drawn_11 wv_1278 yd_X11_drawn (Nat.le_of_ble_eq_true rfl) (sh_0 _ _) rfl (by decide) (by decide) rfl rfl (Nat.le_of_ble_eq_true rfl) (K_KW_drawn l g htr x1 x2 x3 x4 x5 M _ _ e1) (G_catch [] (0, 16, 19, 19) [(0, 16, 23, 13), (0, 16, 27, 41), (0, 16, 31, 35)] K htb rfl (fun _ hz => absurd hz List.not_mem_nil) rfl (by decide) wd_726 (by decide) (fun q => ?_))
      refine G_astore K dL_drawn_19 (Nat.le_of_ble_eq_true rfl) rfl ?_
      refine G_iconst (v := 1) rfl K dL_drawn_21 ?_
      cases hPHI _ (wpO_some h)
      exact G_iret K hr rfl dL_drawn_22 (Nat.le_of_ble_eq_true rfl) (Nat.le_of_ble_eq_true rfl) ⟨rfl, rfl⟩
    have h := wpO_f h hE0
    by_cases hE1 : E1 = "java/lang/IllegalArgumentException"
    · subst hE1
      have h := wpO_t h rfl
      refine G_callXVt (ci := 11) [.int x1, .int x2, .int x3, .int x4, .int x5] [.int 0, .ref (g.2.1 121)] K dL_drawn_11 wv_1278 yd_X11_drawn (Nat.le_of_ble_eq_true rfl) (sh_0 _ _) rfl (by decide) (by decide) rfl rfl (Nat.le_of_ble_eq_true rfl) (K_KW_drawn l g htr x1 x2 x3 x4 x5 M _ _ e1) (G_catch [(0, 16, 19, 19)] (0, 16, 23, 13) [(0, 16, 27, 41), (0, 16, 31, 35)] K htb rfl (List.forall_mem_cons.mpr ⟨⟨by decide, "java/lang/IndexOutOfBoundsException", wd_726, by decide⟩, fun _ h => absurd h List.not_mem_nil⟩) rfl (by decide) wd_649 (by decide) (fun q => ?_))
      refine G_astore K dL_drawn_23 (Nat.le_of_ble_eq_true rfl) rfl ?_
      refine G_iconst (v := 2) rfl K dL_drawn_25 ?_
      cases hPHI _ (wpO_some h)
      exact G_iret K hr rfl dL_drawn_26 (Nat.le_of_ble_eq_true rfl) (Nat.le_of_ble_eq_true rfl) ⟨rfl, rfl⟩
    have h := wpO_f h hE1
    by_cases hE2 : E1 = "java/lang/IllegalStateException"
    · subst hE2
      have h := wpO_t h rfl
      refine G_callXVt (ci := 11) [.int x1, .int x2, .int x3, .int x4, .int x5] [.int 0, .ref (g.2.1 121)] K dL_drawn_11 wv_1278 yd_X11_drawn (Nat.le_of_ble_eq_true rfl) (sh_0 _ _) rfl (by decide) (by decide) rfl rfl (Nat.le_of_ble_eq_true rfl) (K_KW_drawn l g htr x1 x2 x3 x4 x5 M _ _ e1) (G_catch [(0, 16, 19, 19), (0, 16, 23, 13)] (0, 16, 27, 41) [(0, 16, 31, 35)] K htb rfl (List.forall_mem_cons.mpr ⟨⟨by decide, "java/lang/IndexOutOfBoundsException", wd_726, by decide⟩, List.forall_mem_cons.mpr ⟨⟨by decide, "java/lang/IllegalArgumentException", wd_649, by decide⟩, fun _ h => absurd h List.not_mem_nil⟩⟩) rfl (by decide) wd_932 (by decide) (fun q => ?_))
      refine G_astore K dL_drawn_27 (Nat.le_of_ble_eq_true rfl) rfl ?_
      refine G_iconst (v := 3) rfl K dL_drawn_29 ?_
      cases hPHI _ (wpO_some h)
      exact G_iret K hr rfl dL_drawn_30 (Nat.le_of_ble_eq_true rfl) (Nat.le_of_ble_eq_true rfl) ⟨rfl, rfl⟩
    have h := wpO_f h hE2
    by_cases hE3 : E1 = "java/util/NoSuchElementException"
    · subst hE3
      have h := wpO_t h rfl
      refine G_callXVt (ci := 11) [.int x1, .int x2, .int x3, .int x4, .int x5] [.int 0, .ref (g.2.1 121)] K dL_drawn_11 wv_1278 yd_X11_drawn (Nat.le_of_ble_eq_true rfl) (sh_0 _ _) rfl (by decide) (by decide) rfl rfl (Nat.le_of_ble_eq_true rfl) (K_KW_drawn l g htr x1 x2 x3 x4 x5 M _ _ e1) (G_catch [(0, 16, 19, 19), (0, 16, 23, 13), (0, 16, 27, 41)] (0, 16, 31, 35) [] K htb rfl (List.forall_mem_cons.mpr ⟨⟨by decide, "java/lang/IndexOutOfBoundsException", wd_726, by decide⟩, List.forall_mem_cons.mpr ⟨⟨by decide, "java/lang/IllegalArgumentException", wd_649, by decide⟩, List.forall_mem_cons.mpr ⟨⟨by decide, "java/lang/IllegalStateException", wd_932, by decide⟩, fun _ h => absurd h List.not_mem_nil⟩⟩⟩) rfl (by decide) wd_893 (by decide) (fun q => ?_))
      refine G_astore K dL_drawn_31 (Nat.le_of_ble_eq_true rfl) rfl ?_
      refine G_iconst (v := 4) rfl K dL_drawn_33 ?_
      cases hPHI _ (wpO_some h)
      exact G_iret K hr rfl dL_drawn_34 (Nat.le_of_ble_eq_true rfl) (Nat.le_of_ble_eq_true rfl) ⟨rfl, rfl⟩
    have h := wpO_f h hE3
    exact wpO_none h
  refine G_callXVi (ci := 11) [.int x1, .int x2, .int x3, .int x4, .int x5] [.int 0, .ref (g.2.1 121)] K dL_drawn_11 wv_1278 yd_X11_drawn (Nat.le_of_ble_eq_true rfl) (sh_0 _ _) rfl (by decide) (by decide) rfl rfl (Nat.le_of_ble_eq_true rfl) (K_KW_drawn l g htr x1 x2 x3 x4 x5 M _ _ e1) ?_
  refine G_i2l K dL_drawn_14 ?_
  obtain ⟨hin, h⟩ := wpO_g h
  refine G_last K dL_drawn_15 (Nat.le_of_ble_eq_true rfl) (sh_121 _) hin ?_
  refine G_goto (tgt := 35) K dL_drawn_16 (by decide) ?_
  refine G_iconst (v := 0) rfl K dL_drawn_35 ?_
  cases hPHI _ (wpO_some h)
  exact G_iret K hr rfl dL_drawn_36 (Nat.le_of_ble_eq_true rfl) (Nat.le_of_ble_eq_true rfl) ⟨rfl, rfl⟩
theorem yd_X11_field : ydN yX11_field 2 := ⟨by decide, by decide, by decide +kernel⟩
theorem wv_1294 : wdV "KeptWellLaw" 98 yX11_field cX11_field 3 none := ⟨wd_1294, wd_1295, wd_1296, wd_1, wd_1297⟩
def on_L_field : Nat := 0xac03ac054eac044e0900a76200b61c1b2a
theorem ob_L_field : OKB cL_field on_L_field 17 := ⟨by decide +kernel, by decide +kernel⟩
theorem dL_field_0 : dc cL_field 0 1 (.aload_n 0) 1 := o_42 ob_L_field rfl rfl rfl
theorem dL_field_1 : dc cL_field 1 2 (.iload_n 1) 1 := o_27 ob_L_field rfl rfl rfl
theorem dL_field_2 : dc cL_field 2 3 (.iload_n 2) 1 := o_28 ob_L_field rfl rfl rfl
theorem dL_field_3 : dc cL_field 3 6 (.invokevirtual 98) 3 := o_182 ob_L_field rfl rfl rfl rfl
theorem dL_field_6 : dc cL_field 6 9 (.goto 9) 3 := o_167 ob_L_field rfl rfl rfl rfl
theorem dL_field_9 : dc cL_field 9 10 (.astore_n 3) 1 := o_78 ob_L_field rfl rfl rfl
theorem dL_field_10 : dc cL_field 10 11 (.iconst 1) 1 := o_4 ob_L_field rfl rfl rfl
theorem dL_field_11 : dc cL_field 11 12 .ireturn 1 := o_172 ob_L_field rfl rfl rfl
theorem dL_field_12 : dc cL_field 12 13 (.astore_n 3) 1 := o_78 ob_L_field rfl rfl rfl
theorem dL_field_13 : dc cL_field 13 14 (.iconst 2) 1 := o_5 ob_L_field rfl rfl rfl
theorem dL_field_14 : dc cL_field 14 15 .ireturn 1 := o_172 ob_L_field rfl rfl rfl
theorem dL_field_15 : dc cL_field 15 16 (.iconst 0) 1 := o_3 ob_L_field rfl rfl rfl
theorem dL_field_16 : dc cL_field 16 17 .ireturn 1 := o_172 ob_L_field rfl rfl rfl
def F_LAW_field (x1 : Int32) (x2 : Int32) (M : Mem) : Option (Int32 × Mem) :=
  hbind (F_KW_field x1 x2 M) (fun E1 M1 => if E1 = "java/lang/IndexOutOfBoundsException" then some ((1, M1)) else if E1 = "java/lang/IllegalArgumentException" then some ((2, M1)) else none) fun _ M1 => some ((0, M1))
set_option maxRecDepth 100000 in
set_option maxHeartbeats 4000000 in
theorem K_LAW_field (l : Launch) (g : GB) (htr : l.stackTraces = false) (x1 : Int32) (x2 : Int32) (M : Mem) (rr : Int32) (MZ : Mem) (h : F_LAW_field x1 x2 M = some (rr, MZ)) : CT l g yL_field (.codeWith yL_field cL_field 4 (some .int) [(0, 6, 9, 19), (0, 6, 12, 13)] :: wAll) { frames := 8, cells := 2, slots := 12, locals := 145 } [.ref (g.2.1 0), .int x1, .int x2] M (.inl (some (.int rr))) MZ := by
  refine CT.ofH [(0, .ref (g.2.1 0)), (1, .int x1), (2, .int x2)] (by decide +kernel) (Nat.le_of_ble_eq_true rfl) rfl htr ?_
  intro p e s m args below meth c K hr htb
  skip
  obtain ⟨PHI, hPHI, h⟩ : ∃ PHI : Int32 × Mem → Prop, (∀ a, PHI a → a = (rr, MZ)) ∧ wpO (F_LAW_field x1 x2 M) PHI := ⟨fun a => a = (rr, MZ), fun _ h => h, _, h, rfl⟩
  unfold F_LAW_field at h
  refine G_aload_n rfl 0 rfl K dL_field_0 ?_
  refine G_iload_n rfl 1 rfl K dL_field_1 ?_
  refine G_iload_n rfl 2 rfl K dL_field_2 ?_
  obtain ⟨E1, M1, e1, h⟩ | ⟨r1, M1, e1, h⟩ := wpO_h h
  · by_cases hE0 : E1 = "java/lang/IndexOutOfBoundsException"
    · subst hE0
      have h := wpO_t h rfl
      refine G_callXVt (ci := 11) [.int x1, .int x2] [] K dL_field_3 wv_1294 yd_X11_field (Nat.le_of_ble_eq_true rfl) (sh_0 _ _) rfl (by decide) (by decide) rfl rfl (Nat.le_of_ble_eq_true rfl) (K_KW_field l g htr x1 x2 M _ _ e1) (G_catch [] (0, 6, 9, 19) [(0, 6, 12, 13)] K htb rfl (fun _ hz => absurd hz List.not_mem_nil) rfl (by decide) wd_726 (by decide) (fun q => ?_))
      refine G_astore_n rfl K dL_field_9 (Nat.le_of_ble_eq_true rfl) rfl ?_
      refine G_iconst (v := 1) rfl K dL_field_10 ?_
      cases hPHI _ (wpO_some h)
      exact G_iret K hr rfl dL_field_11 (Nat.le_of_ble_eq_true rfl) (Nat.le_of_ble_eq_true rfl) ⟨rfl, rfl⟩
    have h := wpO_f h hE0
    by_cases hE1 : E1 = "java/lang/IllegalArgumentException"
    · subst hE1
      have h := wpO_t h rfl
      refine G_callXVt (ci := 11) [.int x1, .int x2] [] K dL_field_3 wv_1294 yd_X11_field (Nat.le_of_ble_eq_true rfl) (sh_0 _ _) rfl (by decide) (by decide) rfl rfl (Nat.le_of_ble_eq_true rfl) (K_KW_field l g htr x1 x2 M _ _ e1) (G_catch [(0, 6, 9, 19)] (0, 6, 12, 13) [] K htb rfl (List.forall_mem_cons.mpr ⟨⟨by decide, "java/lang/IndexOutOfBoundsException", wd_726, by decide⟩, fun _ h => absurd h List.not_mem_nil⟩) rfl (by decide) wd_649 (by decide) (fun q => ?_))
      refine G_astore_n rfl K dL_field_12 (Nat.le_of_ble_eq_true rfl) rfl ?_
      refine G_iconst (v := 2) rfl K dL_field_13 ?_
      cases hPHI _ (wpO_some h)
      exact G_iret K hr rfl dL_field_14 (Nat.le_of_ble_eq_true rfl) (Nat.le_of_ble_eq_true rfl) ⟨rfl, rfl⟩
    have h := wpO_f h hE1
    exact wpO_none h
  refine G_callXVv (ci := 11) [.int x1, .int x2] [] K dL_field_3 wv_1294 yd_X11_field (Nat.le_of_ble_eq_true rfl) (sh_0 _ _) rfl (by decide) (by decide) rfl rfl (Nat.le_of_ble_eq_true rfl) (K_KW_field l g htr x1 x2 M _ _ e1) ?_
  refine G_goto (tgt := 15) K dL_field_6 (by decide) ?_
  refine G_iconst (v := 0) rfl K dL_field_15 ?_
  cases hPHI _ (wpO_some h)
  exact G_iret K hr rfl dL_field_16 (Nat.le_of_ble_eq_true rfl) (Nat.le_of_ble_eq_true rfl) ⟨rfl, rfl⟩
theorem yd_X11_rounds : ydN yX11_rounds 1 := ⟨by decide, by decide, by decide +kernel⟩
theorem wv_1302 : wdV "KeptWellLaw" 101 yX11_rounds cX11_rounds 2 none := ⟨wd_1302, wd_1303, wd_1304, wd_1, wd_1305⟩
def on_L_rounds : Nat := 0xac03ac044d0600a76500b61b2a
theorem ob_L_rounds : OKB cL_rounds on_L_rounds 13 := ⟨by decide +kernel, by decide +kernel⟩
theorem dL_rounds_0 : dc cL_rounds 0 1 (.aload_n 0) 1 := o_42 ob_L_rounds rfl rfl rfl
theorem dL_rounds_1 : dc cL_rounds 1 2 (.iload_n 1) 1 := o_27 ob_L_rounds rfl rfl rfl
theorem dL_rounds_2 : dc cL_rounds 2 5 (.invokevirtual 101) 3 := o_182 ob_L_rounds rfl rfl rfl rfl
theorem dL_rounds_5 : dc cL_rounds 5 8 (.goto 6) 3 := o_167 ob_L_rounds rfl rfl rfl rfl
theorem dL_rounds_8 : dc cL_rounds 8 9 (.astore_n 2) 1 := o_77 ob_L_rounds rfl rfl rfl
theorem dL_rounds_9 : dc cL_rounds 9 10 (.iconst 1) 1 := o_4 ob_L_rounds rfl rfl rfl
theorem dL_rounds_10 : dc cL_rounds 10 11 .ireturn 1 := o_172 ob_L_rounds rfl rfl rfl
theorem dL_rounds_11 : dc cL_rounds 11 12 (.iconst 0) 1 := o_3 ob_L_rounds rfl rfl rfl
theorem dL_rounds_12 : dc cL_rounds 12 13 .ireturn 1 := o_172 ob_L_rounds rfl rfl rfl
def F_LAW_rounds (x1 : Int32) (M : Mem) : Option (Int32 × Mem) :=
  hbind (F_KW_rounds x1 M) (fun E1 M1 => if E1 = "java/lang/IllegalArgumentException" then some ((1, M1)) else none) fun _ M1 => some ((0, M1))
set_option maxRecDepth 100000 in
set_option maxHeartbeats 4000000 in
theorem K_LAW_rounds (l : Launch) (g : GB) (htr : l.stackTraces = false) (x1 : Int32) (M : Mem) (rr : Int32) (MZ : Mem) (h : F_LAW_rounds x1 M = some (rr, MZ)) : CT l g yL_rounds (.codeWith yL_rounds cL_rounds 3 (some .int) [(0, 5, 8, 13)] :: wAll) { frames := 8, cells := 1, slots := 6, locals := 144 } [.ref (g.2.1 0), .int x1] M (.inl (some (.int rr))) MZ := by
  refine CT.ofH [(0, .ref (g.2.1 0)), (1, .int x1)] (by decide +kernel) (Nat.le_of_ble_eq_true rfl) rfl htr ?_
  intro p e s m args below meth c K hr htb
  skip
  obtain ⟨PHI, hPHI, h⟩ : ∃ PHI : Int32 × Mem → Prop, (∀ a, PHI a → a = (rr, MZ)) ∧ wpO (F_LAW_rounds x1 M) PHI := ⟨fun a => a = (rr, MZ), fun _ h => h, _, h, rfl⟩
  unfold F_LAW_rounds at h
  refine G_aload_n rfl 0 rfl K dL_rounds_0 ?_
  refine G_iload_n rfl 1 rfl K dL_rounds_1 ?_
  obtain ⟨E1, M1, e1, h⟩ | ⟨r1, M1, e1, h⟩ := wpO_h h
  · by_cases hE0 : E1 = "java/lang/IllegalArgumentException"
    · subst hE0
      have h := wpO_t h rfl
      refine G_callXVt (ci := 11) [.int x1] [] K dL_rounds_2 wv_1302 yd_X11_rounds (Nat.le_of_ble_eq_true rfl) (sh_0 _ _) rfl (by decide) (by decide) rfl rfl (Nat.le_of_ble_eq_true rfl) (K_KW_rounds l g htr x1 M _ _ e1) (G_catch [] (0, 5, 8, 13) [] K htb rfl (fun _ hz => absurd hz List.not_mem_nil) rfl (by decide) wd_649 (by decide) (fun q => ?_))
      refine G_astore_n rfl K dL_rounds_8 (Nat.le_of_ble_eq_true rfl) rfl ?_
      refine G_iconst (v := 1) rfl K dL_rounds_9 ?_
      cases hPHI _ (wpO_some h)
      exact G_iret K hr rfl dL_rounds_10 (Nat.le_of_ble_eq_true rfl) (Nat.le_of_ble_eq_true rfl) ⟨rfl, rfl⟩
    have h := wpO_f h hE0
    exact wpO_none h
  refine G_callXVv (ci := 11) [.int x1] [] K dL_rounds_2 wv_1302 yd_X11_rounds (Nat.le_of_ble_eq_true rfl) (sh_0 _ _) rfl (by decide) (by decide) rfl rfl (Nat.le_of_ble_eq_true rfl) (K_KW_rounds l g htr x1 M _ _ e1) ?_
  refine G_goto (tgt := 11) K dL_rounds_5 (by decide) ?_
  refine G_iconst (v := 0) rfl K dL_rounds_11 ?_
  cases hPHI _ (wpO_some h)
  exact G_iret K hr rfl dL_rounds_12 (Nat.le_of_ble_eq_true rfl) (Nat.le_of_ble_eq_true rfl) ⟨rfl, rfl⟩
theorem yd_X11_meet : ydN yX11_meet 2 := ⟨by decide, by decide, by decide +kernel⟩
theorem wv_1309 : wdV "KeptWellLaw" 104 yX11_meet cX11_meet 3 (some .int) := ⟨wd_1309, wd_1310, wd_1311, wd_1, wd_1312⟩
def on_L_meet : Nat := 0xac03ac05043aac04043a0b00a750856800b61c1b2a032d
theorem ob_L_meet : OKB cL_meet on_L_meet 23 := ⟨by decide +kernel, by decide +kernel⟩
theorem dL_meet_0 : dc cL_meet 0 1 (.aload_n 3) 1 := o_45 ob_L_meet rfl rfl rfl
theorem dL_meet_1 : dc cL_meet 1 2 (.iconst 0) 1 := o_3 ob_L_meet rfl rfl rfl
theorem dL_meet_2 : dc cL_meet 2 3 (.aload_n 0) 1 := o_42 ob_L_meet rfl rfl rfl
theorem dL_meet_3 : dc cL_meet 3 4 (.iload_n 1) 1 := o_27 ob_L_meet rfl rfl rfl
theorem dL_meet_4 : dc cL_meet 4 5 (.iload_n 2) 1 := o_28 ob_L_meet rfl rfl rfl
theorem dL_meet_5 : dc cL_meet 5 8 (.invokevirtual 104) 3 := o_182 ob_L_meet rfl rfl rfl rfl
theorem dL_meet_8 : dc cL_meet 8 9 .i2l 1 := o_133 ob_L_meet rfl rfl rfl
theorem dL_meet_9 : dc cL_meet 9 10 .lastore 1 := o_80 ob_L_meet rfl rfl rfl
theorem dL_meet_10 : dc cL_meet 10 13 (.goto 11) 3 := o_167 ob_L_meet rfl rfl rfl rfl
theorem dL_meet_13 : dc cL_meet 13 15 (.astore 4) 2 := o_58 ob_L_meet rfl rfl rfl rfl
theorem dL_meet_15 : dc cL_meet 15 16 (.iconst 1) 1 := o_4 ob_L_meet rfl rfl rfl
theorem dL_meet_16 : dc cL_meet 16 17 .ireturn 1 := o_172 ob_L_meet rfl rfl rfl
theorem dL_meet_17 : dc cL_meet 17 19 (.astore 4) 2 := o_58 ob_L_meet rfl rfl rfl rfl
theorem dL_meet_19 : dc cL_meet 19 20 (.iconst 2) 1 := o_5 ob_L_meet rfl rfl rfl
theorem dL_meet_20 : dc cL_meet 20 21 .ireturn 1 := o_172 ob_L_meet rfl rfl rfl
theorem dL_meet_21 : dc cL_meet 21 22 (.iconst 0) 1 := o_3 ob_L_meet rfl rfl rfl
theorem dL_meet_22 : dc cL_meet 22 23 .ireturn 1 := o_172 ob_L_meet rfl rfl rfl
def F_LAW_meet (x1 : Int32) (x2 : Int32) (M : Mem) : Option (Int32 × Mem) :=
  hbind (F_KW_meet x1 x2 M) (fun E1 M1 => if E1 = "java/lang/IndexOutOfBoundsException" then some ((1, M1)) else if E1 = "java/lang/IllegalStateException" then some ((2, M1)) else none) fun r1 M1 => if inb ((0 : Int32)) 1 then some ((0, mSL M1 121 ((0 : Int32)).toNatClampNeg r1.toInt64)) else none
set_option maxRecDepth 100000 in
set_option maxHeartbeats 4000000 in
theorem K_LAW_meet (l : Launch) (g : GB) (htr : l.stackTraces = false) (x1 : Int32) (x2 : Int32) (M : Mem) (rr : Int32) (MZ : Mem) (h : F_LAW_meet x1 x2 M = some (rr, MZ)) : CT l g yL_meet (.codeWith yL_meet cL_meet 5 (some .int) [(0, 10, 13, 19), (0, 10, 17, 41)] :: wAll) { frames := 9, cells := 4, slots := 24, locals := 165 } [.ref (g.2.1 0), .int x1, .int x2, .ref (g.2.1 121)] M (.inl (some (.int rr))) MZ := by
  refine CT.ofH [(0, .ref (g.2.1 0)), (1, .int x1), (2, .int x2), (3, .ref (g.2.1 121))] (by decide +kernel) (Nat.le_of_ble_eq_true rfl) rfl htr ?_
  intro p e s m args below meth c K hr htb
  skip
  obtain ⟨PHI, hPHI, h⟩ : ∃ PHI : Int32 × Mem → Prop, (∀ a, PHI a → a = (rr, MZ)) ∧ wpO (F_LAW_meet x1 x2 M) PHI := ⟨fun a => a = (rr, MZ), fun _ h => h, _, h, rfl⟩
  unfold F_LAW_meet at h
  refine G_aload_n rfl 3 rfl K dL_meet_0 ?_
  refine G_iconst (v := 0) rfl K dL_meet_1 ?_
  refine G_aload_n rfl 0 rfl K dL_meet_2 ?_
  refine G_iload_n rfl 1 rfl K dL_meet_3 ?_
  refine G_iload_n rfl 2 rfl K dL_meet_4 ?_
  obtain ⟨E1, M1, e1, h⟩ | ⟨r1, M1, e1, h⟩ := wpO_h h
  · by_cases hE0 : E1 = "java/lang/IndexOutOfBoundsException"
    · subst hE0
      have h := wpO_t h rfl
      refine G_callXVt (ci := 11) [.int x1, .int x2] [.int 0, .ref (g.2.1 121)] K dL_meet_5 wv_1309 yd_X11_meet (Nat.le_of_ble_eq_true rfl) (sh_0 _ _) rfl (by decide) (by decide) rfl rfl (Nat.le_of_ble_eq_true rfl) (K_KW_meet l g htr x1 x2 M _ _ e1) (G_catch [] (0, 10, 13, 19) [(0, 10, 17, 41)] K htb rfl (fun _ hz => absurd hz List.not_mem_nil) rfl (by decide) wd_726 (by decide) (fun q => ?_))
      refine G_astore K dL_meet_13 (Nat.le_of_ble_eq_true rfl) rfl ?_
      refine G_iconst (v := 1) rfl K dL_meet_15 ?_
      cases hPHI _ (wpO_some h)
      exact G_iret K hr rfl dL_meet_16 (Nat.le_of_ble_eq_true rfl) (Nat.le_of_ble_eq_true rfl) ⟨rfl, rfl⟩
    have h := wpO_f h hE0
    by_cases hE1 : E1 = "java/lang/IllegalStateException"
    · subst hE1
      have h := wpO_t h rfl
      refine G_callXVt (ci := 11) [.int x1, .int x2] [.int 0, .ref (g.2.1 121)] K dL_meet_5 wv_1309 yd_X11_meet (Nat.le_of_ble_eq_true rfl) (sh_0 _ _) rfl (by decide) (by decide) rfl rfl (Nat.le_of_ble_eq_true rfl) (K_KW_meet l g htr x1 x2 M _ _ e1) (G_catch [(0, 10, 13, 19)] (0, 10, 17, 41) [] K htb rfl (List.forall_mem_cons.mpr ⟨⟨by decide, "java/lang/IndexOutOfBoundsException", wd_726, by decide⟩, fun _ h => absurd h List.not_mem_nil⟩) rfl (by decide) wd_932 (by decide) (fun q => ?_))
      refine G_astore K dL_meet_17 (Nat.le_of_ble_eq_true rfl) rfl ?_
      refine G_iconst (v := 2) rfl K dL_meet_19 ?_
      cases hPHI _ (wpO_some h)
      exact G_iret K hr rfl dL_meet_20 (Nat.le_of_ble_eq_true rfl) (Nat.le_of_ble_eq_true rfl) ⟨rfl, rfl⟩
    have h := wpO_f h hE1
    exact wpO_none h
  refine G_callXVi (ci := 11) [.int x1, .int x2] [.int 0, .ref (g.2.1 121)] K dL_meet_5 wv_1309 yd_X11_meet (Nat.le_of_ble_eq_true rfl) (sh_0 _ _) rfl (by decide) (by decide) rfl rfl (Nat.le_of_ble_eq_true rfl) (K_KW_meet l g htr x1 x2 M _ _ e1) ?_
  refine G_i2l K dL_meet_8 ?_
  obtain ⟨hin, h⟩ := wpO_g h
  refine G_last K dL_meet_9 (Nat.le_of_ble_eq_true rfl) (sh_121 _) hin ?_
  refine G_goto (tgt := 21) K dL_meet_10 (by decide) ?_
  refine G_iconst (v := 0) rfl K dL_meet_21 ?_
  cases hPHI _ (wpO_some h)
  exact G_iret K hr rfl dL_meet_22 (Nat.le_of_ble_eq_true rfl) (Nat.le_of_ble_eq_true rfl) ⟨rfl, rfl⟩
theorem yd_X11_grow : ydN yX11_grow 1 := ⟨by decide, by decide, by decide +kernel⟩
theorem wv_1320 : wdV "KeptWellLaw" 107 yX11_grow cX11_grow 2 (some .int) := ⟨wd_1320, wd_1321, wd_1322, wd_1, wd_1323⟩
def on_L_grow : Nat := 0xac03ac044e0600a750856b00b61b2a032c
theorem ob_L_grow : OKB cL_grow on_L_grow 17 := ⟨by decide +kernel, by decide +kernel⟩
theorem dL_grow_0 : dc cL_grow 0 1 (.aload_n 2) 1 := o_44 ob_L_grow rfl rfl rfl
theorem dL_grow_1 : dc cL_grow 1 2 (.iconst 0) 1 := o_3 ob_L_grow rfl rfl rfl
theorem dL_grow_2 : dc cL_grow 2 3 (.aload_n 0) 1 := o_42 ob_L_grow rfl rfl rfl
theorem dL_grow_3 : dc cL_grow 3 4 (.iload_n 1) 1 := o_27 ob_L_grow rfl rfl rfl
theorem dL_grow_4 : dc cL_grow 4 7 (.invokevirtual 107) 3 := o_182 ob_L_grow rfl rfl rfl rfl
theorem dL_grow_7 : dc cL_grow 7 8 .i2l 1 := o_133 ob_L_grow rfl rfl rfl
theorem dL_grow_8 : dc cL_grow 8 9 .lastore 1 := o_80 ob_L_grow rfl rfl rfl
theorem dL_grow_9 : dc cL_grow 9 12 (.goto 6) 3 := o_167 ob_L_grow rfl rfl rfl rfl
theorem dL_grow_12 : dc cL_grow 12 13 (.astore_n 3) 1 := o_78 ob_L_grow rfl rfl rfl
theorem dL_grow_13 : dc cL_grow 13 14 (.iconst 1) 1 := o_4 ob_L_grow rfl rfl rfl
theorem dL_grow_14 : dc cL_grow 14 15 .ireturn 1 := o_172 ob_L_grow rfl rfl rfl
theorem dL_grow_15 : dc cL_grow 15 16 (.iconst 0) 1 := o_3 ob_L_grow rfl rfl rfl
theorem dL_grow_16 : dc cL_grow 16 17 .ireturn 1 := o_172 ob_L_grow rfl rfl rfl
def F_LAW_grow (x1 : Int32) (M : Mem) : Option (Int32 × Mem) :=
  hbind (F_KW_grow x1 M) (fun E1 M1 => if E1 = "java/lang/IllegalArgumentException" then some ((1, M1)) else none) fun r1 M1 => if inb ((0 : Int32)) 1 then some ((0, mSL M1 121 ((0 : Int32)).toNatClampNeg r1.toInt64)) else none
set_option maxRecDepth 100000 in
set_option maxHeartbeats 4000000 in
theorem K_LAW_grow (l : Launch) (g : GB) (htr : l.stackTraces = false) (x1 : Int32) (M : Mem) (rr : Int32) (MZ : Mem) (h : F_LAW_grow x1 M = some (rr, MZ)) : CT l g yL_grow (.codeWith yL_grow cL_grow 4 (some .int) [(0, 9, 12, 13)] :: wAll) { frames := 8, cells := 1, slots := 6, locals := 159 } [.ref (g.2.1 0), .int x1, .ref (g.2.1 121)] M (.inl (some (.int rr))) MZ := by
  refine CT.ofH [(0, .ref (g.2.1 0)), (1, .int x1), (2, .ref (g.2.1 121))] (by decide +kernel) (Nat.le_of_ble_eq_true rfl) rfl htr ?_
  intro p e s m args below meth c K hr htb
  skip
  obtain ⟨PHI, hPHI, h⟩ : ∃ PHI : Int32 × Mem → Prop, (∀ a, PHI a → a = (rr, MZ)) ∧ wpO (F_LAW_grow x1 M) PHI := ⟨fun a => a = (rr, MZ), fun _ h => h, _, h, rfl⟩
  unfold F_LAW_grow at h
  refine G_aload_n rfl 2 rfl K dL_grow_0 ?_
  refine G_iconst (v := 0) rfl K dL_grow_1 ?_
  refine G_aload_n rfl 0 rfl K dL_grow_2 ?_
  refine G_iload_n rfl 1 rfl K dL_grow_3 ?_
  obtain ⟨E1, M1, e1, h⟩ | ⟨r1, M1, e1, h⟩ := wpO_h h
  · by_cases hE0 : E1 = "java/lang/IllegalArgumentException"
    · subst hE0
      have h := wpO_t h rfl
      refine G_callXVt (ci := 11) [.int x1] [.int 0, .ref (g.2.1 121)] K dL_grow_4 wv_1320 yd_X11_grow (Nat.le_of_ble_eq_true rfl) (sh_0 _ _) rfl (by decide) (by decide) rfl rfl (Nat.le_of_ble_eq_true rfl) (K_KW_grow l g htr x1 M _ _ e1) (G_catch [] (0, 9, 12, 13) [] K htb rfl (fun _ hz => absurd hz List.not_mem_nil) rfl (by decide) wd_649 (by decide) (fun q => ?_))
      refine G_astore_n rfl K dL_grow_12 (Nat.le_of_ble_eq_true rfl) rfl ?_
      refine G_iconst (v := 1) rfl K dL_grow_13 ?_
      cases hPHI _ (wpO_some h)
      exact G_iret K hr rfl dL_grow_14 (Nat.le_of_ble_eq_true rfl) (Nat.le_of_ble_eq_true rfl) ⟨rfl, rfl⟩
    have h := wpO_f h hE0
    exact wpO_none h
  refine G_callXVi (ci := 11) [.int x1] [.int 0, .ref (g.2.1 121)] K dL_grow_4 wv_1320 yd_X11_grow (Nat.le_of_ble_eq_true rfl) (sh_0 _ _) rfl (by decide) (by decide) rfl rfl (Nat.le_of_ble_eq_true rfl) (K_KW_grow l g htr x1 M _ _ e1) ?_
  refine G_i2l K dL_grow_7 ?_
  obtain ⟨hin, h⟩ := wpO_g h
  refine G_last K dL_grow_8 (Nat.le_of_ble_eq_true rfl) (sh_121 _) hin ?_
  refine G_goto (tgt := 15) K dL_grow_9 (by decide) ?_
  refine G_iconst (v := 0) rfl K dL_grow_15 ?_
  cases hPHI _ (wpO_some h)
  exact G_iret K hr rfl dL_grow_16 (Nat.le_of_ble_eq_true rfl) (Nat.le_of_ble_eq_true rfl) ⟨rfl, rfl⟩
theorem yd_X11_beings : ydN yX11_beings 1 := ⟨by decide, by decide, by decide +kernel⟩
theorem wv_1370 : wdV "KeptWellLaw" 110 yX11_beings cX11_beings 2 (some .int) := ⟨wd_1370, wd_1371, wd_1372, wd_1, wd_1373⟩
def on_L_beings : Nat := 0xac03ac044e0600a750856e00b61b2a032c
theorem ob_L_beings : OKB cL_beings on_L_beings 17 := ⟨by decide +kernel, by decide +kernel⟩
theorem dL_beings_0 : dc cL_beings 0 1 (.aload_n 2) 1 := o_44 ob_L_beings rfl rfl rfl
theorem dL_beings_1 : dc cL_beings 1 2 (.iconst 0) 1 := o_3 ob_L_beings rfl rfl rfl
theorem dL_beings_2 : dc cL_beings 2 3 (.aload_n 0) 1 := o_42 ob_L_beings rfl rfl rfl
theorem dL_beings_3 : dc cL_beings 3 4 (.iload_n 1) 1 := o_27 ob_L_beings rfl rfl rfl
theorem dL_beings_4 : dc cL_beings 4 7 (.invokevirtual 110) 3 := o_182 ob_L_beings rfl rfl rfl rfl
theorem dL_beings_7 : dc cL_beings 7 8 .i2l 1 := o_133 ob_L_beings rfl rfl rfl
theorem dL_beings_8 : dc cL_beings 8 9 .lastore 1 := o_80 ob_L_beings rfl rfl rfl
theorem dL_beings_9 : dc cL_beings 9 12 (.goto 6) 3 := o_167 ob_L_beings rfl rfl rfl rfl
theorem dL_beings_12 : dc cL_beings 12 13 (.astore_n 3) 1 := o_78 ob_L_beings rfl rfl rfl
theorem dL_beings_13 : dc cL_beings 13 14 (.iconst 1) 1 := o_4 ob_L_beings rfl rfl rfl
theorem dL_beings_14 : dc cL_beings 14 15 .ireturn 1 := o_172 ob_L_beings rfl rfl rfl
theorem dL_beings_15 : dc cL_beings 15 16 (.iconst 0) 1 := o_3 ob_L_beings rfl rfl rfl
theorem dL_beings_16 : dc cL_beings 16 17 .ireturn 1 := o_172 ob_L_beings rfl rfl rfl
def F_LAW_beings (x1 : Int32) (M : Mem) : Option (Int32 × Mem) :=
  hbind (F_KW_beings x1 M) (fun E1 M1 => if E1 = "java/lang/IndexOutOfBoundsException" then some ((1, M1)) else none) fun r1 M1 => if inb ((0 : Int32)) 1 then some ((0, mSL M1 121 ((0 : Int32)).toNatClampNeg r1.toInt64)) else none
set_option maxRecDepth 100000 in
set_option maxHeartbeats 4000000 in
theorem K_LAW_beings (l : Launch) (g : GB) (htr : l.stackTraces = false) (x1 : Int32) (M : Mem) (rr : Int32) (MZ : Mem) (h : F_LAW_beings x1 M = some (rr, MZ)) : CT l g yL_beings (.codeWith yL_beings cL_beings 4 (some .int) [(0, 9, 12, 19)] :: wAll) { frames := 8, cells := 1, slots := 6, locals := 142 } [.ref (g.2.1 0), .int x1, .ref (g.2.1 121)] M (.inl (some (.int rr))) MZ := by
  refine CT.ofH [(0, .ref (g.2.1 0)), (1, .int x1), (2, .ref (g.2.1 121))] (by decide +kernel) (Nat.le_of_ble_eq_true rfl) rfl htr ?_
  intro p e s m args below meth c K hr htb
  skip
  obtain ⟨PHI, hPHI, h⟩ : ∃ PHI : Int32 × Mem → Prop, (∀ a, PHI a → a = (rr, MZ)) ∧ wpO (F_LAW_beings x1 M) PHI := ⟨fun a => a = (rr, MZ), fun _ h => h, _, h, rfl⟩
  unfold F_LAW_beings at h
  refine G_aload_n rfl 2 rfl K dL_beings_0 ?_
  refine G_iconst (v := 0) rfl K dL_beings_1 ?_
  refine G_aload_n rfl 0 rfl K dL_beings_2 ?_
  refine G_iload_n rfl 1 rfl K dL_beings_3 ?_
  obtain ⟨E1, M1, e1, h⟩ | ⟨r1, M1, e1, h⟩ := wpO_h h
  · by_cases hE0 : E1 = "java/lang/IndexOutOfBoundsException"
    · subst hE0
      have h := wpO_t h rfl
      refine G_callXVt (ci := 11) [.int x1] [.int 0, .ref (g.2.1 121)] K dL_beings_4 wv_1370 yd_X11_beings (Nat.le_of_ble_eq_true rfl) (sh_0 _ _) rfl (by decide) (by decide) rfl rfl (Nat.le_of_ble_eq_true rfl) (K_KW_beings l g htr x1 M _ _ e1) (G_catch [] (0, 9, 12, 19) [] K htb rfl (fun _ hz => absurd hz List.not_mem_nil) rfl (by decide) wd_726 (by decide) (fun q => ?_))
      refine G_astore_n rfl K dL_beings_12 (Nat.le_of_ble_eq_true rfl) rfl ?_
      refine G_iconst (v := 1) rfl K dL_beings_13 ?_
      cases hPHI _ (wpO_some h)
      exact G_iret K hr rfl dL_beings_14 (Nat.le_of_ble_eq_true rfl) (Nat.le_of_ble_eq_true rfl) ⟨rfl, rfl⟩
    have h := wpO_f h hE0
    exact wpO_none h
  refine G_callXVi (ci := 11) [.int x1] [.int 0, .ref (g.2.1 121)] K dL_beings_4 wv_1370 yd_X11_beings (Nat.le_of_ble_eq_true rfl) (sh_0 _ _) rfl (by decide) (by decide) rfl rfl (Nat.le_of_ble_eq_true rfl) (K_KW_beings l g htr x1 M _ _ e1) ?_
  refine G_i2l K dL_beings_7 ?_
  obtain ⟨hin, h⟩ := wpO_g h
  refine G_last K dL_beings_8 (Nat.le_of_ble_eq_true rfl) (sh_121 _) hin ?_
  refine G_goto (tgt := 15) K dL_beings_9 (by decide) ?_
  refine G_iconst (v := 0) rfl K dL_beings_15 ?_
  cases hPHI _ (wpO_some h)
  exact G_iret K hr rfl dL_beings_16 (Nat.le_of_ble_eq_true rfl) (Nat.le_of_ble_eq_true rfl) ⟨rfl, rfl⟩
theorem yd_X11_stays : ydN yX11_stays 1 := ⟨by decide, by decide, by decide +kernel⟩
theorem wv_1377 : wdV "KeptWellLaw" 113 yX11_stays cX11_stays 2 (some .boolean) := ⟨wd_1377, wd_1378, wd_1379, wd_1, wd_1380⟩
def on_L_stays : Nat := 0xac03ac054eac044e0900a750090400a70a0700997100b61b2a032c
theorem ob_L_stays : OKB cL_stays on_L_stays 27 := ⟨by decide +kernel, by decide +kernel⟩
theorem dL_stays_0 : dc cL_stays 0 1 (.aload_n 2) 1 := o_44 ob_L_stays rfl rfl rfl
theorem dL_stays_1 : dc cL_stays 1 2 (.iconst 0) 1 := o_3 ob_L_stays rfl rfl rfl
theorem dL_stays_2 : dc cL_stays 2 3 (.aload_n 0) 1 := o_42 ob_L_stays rfl rfl rfl
theorem dL_stays_3 : dc cL_stays 3 4 (.iload_n 1) 1 := o_27 ob_L_stays rfl rfl rfl
theorem dL_stays_4 : dc cL_stays 4 7 (.invokevirtual 113) 3 := o_182 ob_L_stays rfl rfl rfl rfl
theorem dL_stays_7 : dc cL_stays 7 10 (.ifCond .eq 7) 3 := o_153 ob_L_stays rfl rfl rfl rfl
theorem dL_stays_10 : dc cL_stays 10 11 (.lconst 1) 1 := o_10 ob_L_stays rfl rfl rfl
theorem dL_stays_11 : dc cL_stays 11 14 (.goto 4) 3 := o_167 ob_L_stays rfl rfl rfl rfl
theorem dL_stays_14 : dc cL_stays 14 15 (.lconst 0) 1 := o_9 ob_L_stays rfl rfl rfl
theorem dL_stays_15 : dc cL_stays 15 16 .lastore 1 := o_80 ob_L_stays rfl rfl rfl
theorem dL_stays_16 : dc cL_stays 16 19 (.goto 9) 3 := o_167 ob_L_stays rfl rfl rfl rfl
theorem dL_stays_19 : dc cL_stays 19 20 (.astore_n 3) 1 := o_78 ob_L_stays rfl rfl rfl
theorem dL_stays_20 : dc cL_stays 20 21 (.iconst 1) 1 := o_4 ob_L_stays rfl rfl rfl
theorem dL_stays_21 : dc cL_stays 21 22 .ireturn 1 := o_172 ob_L_stays rfl rfl rfl
theorem dL_stays_22 : dc cL_stays 22 23 (.astore_n 3) 1 := o_78 ob_L_stays rfl rfl rfl
theorem dL_stays_23 : dc cL_stays 23 24 (.iconst 2) 1 := o_5 ob_L_stays rfl rfl rfl
theorem dL_stays_24 : dc cL_stays 24 25 .ireturn 1 := o_172 ob_L_stays rfl rfl rfl
theorem dL_stays_25 : dc cL_stays 25 26 (.iconst 0) 1 := o_3 ob_L_stays rfl rfl rfl
theorem dL_stays_26 : dc cL_stays 26 27 .ireturn 1 := o_172 ob_L_stays rfl rfl rfl
def F_LAW_stays (x1 : Int32) (M : Mem) : Option (Int32 × Mem) :=
  hbind (F_KW_stays x1 M) (fun E1 M1 => if E1 = "java/lang/IndexOutOfBoundsException" then some ((1, M1)) else if E1 = "java/lang/IllegalStateException" then some ((2, M1)) else none) fun r1 M1 => if r1 = true then if inb ((0 : Int32)) 1 then some ((0, mSL M1 121 ((0 : Int32)).toNatClampNeg 1)) else none else if inb ((0 : Int32)) 1 then some ((0, mSL M1 121 ((0 : Int32)).toNatClampNeg 0)) else none
set_option maxRecDepth 100000 in
set_option maxHeartbeats 4000000 in
theorem K_LAW_stays (l : Launch) (g : GB) (htr : l.stackTraces = false) (x1 : Int32) (M : Mem) (rr : Int32) (MZ : Mem) (h : F_LAW_stays x1 M = some (rr, MZ)) : CT l g yL_stays (.codeWith yL_stays cL_stays 4 (some .int) [(0, 16, 19, 19), (0, 16, 22, 41)] :: wAll) { frames := 8, cells := 2, slots := 12, locals := 159 } [.ref (g.2.1 0), .int x1, .ref (g.2.1 121)] M (.inl (some (.int rr))) MZ := by
  refine CT.ofH [(0, .ref (g.2.1 0)), (1, .int x1), (2, .ref (g.2.1 121))] (by decide +kernel) (Nat.le_of_ble_eq_true rfl) rfl htr ?_
  intro p e s m args below meth c K hr htb
  skip
  obtain ⟨PHI, hPHI, h⟩ : ∃ PHI : Int32 × Mem → Prop, (∀ a, PHI a → a = (rr, MZ)) ∧ wpO (F_LAW_stays x1 M) PHI := ⟨fun a => a = (rr, MZ), fun _ h => h, _, h, rfl⟩
  unfold F_LAW_stays at h
  refine G_aload_n rfl 2 rfl K dL_stays_0 ?_
  refine G_iconst (v := 0) rfl K dL_stays_1 ?_
  refine G_aload_n rfl 0 rfl K dL_stays_2 ?_
  refine G_iload_n rfl 1 rfl K dL_stays_3 ?_
  obtain ⟨E1, M1, e1, h⟩ | ⟨r1, M1, e1, h⟩ := wpO_h h
  · by_cases hE0 : E1 = "java/lang/IndexOutOfBoundsException"
    · subst hE0
      have h := wpO_t h rfl
      refine G_callXVt (ci := 11) [.int x1] [.int 0, .ref (g.2.1 121)] K dL_stays_4 wv_1377 yd_X11_stays (Nat.le_of_ble_eq_true rfl) (sh_0 _ _) rfl (by decide) (by decide) rfl rfl (Nat.le_of_ble_eq_true rfl) (K_KW_stays l g htr x1 M _ _ e1) (G_catch [] (0, 16, 19, 19) [(0, 16, 22, 41)] K htb rfl (fun _ hz => absurd hz List.not_mem_nil) rfl (by decide) wd_726 (by decide) (fun q => ?_))
      refine G_astore_n rfl K dL_stays_19 (Nat.le_of_ble_eq_true rfl) rfl ?_
      refine G_iconst (v := 1) rfl K dL_stays_20 ?_
      cases hPHI _ (wpO_some h)
      exact G_iret K hr rfl dL_stays_21 (Nat.le_of_ble_eq_true rfl) (Nat.le_of_ble_eq_true rfl) ⟨rfl, rfl⟩
    have h := wpO_f h hE0
    by_cases hE1 : E1 = "java/lang/IllegalStateException"
    · subst hE1
      have h := wpO_t h rfl
      refine G_callXVt (ci := 11) [.int x1] [.int 0, .ref (g.2.1 121)] K dL_stays_4 wv_1377 yd_X11_stays (Nat.le_of_ble_eq_true rfl) (sh_0 _ _) rfl (by decide) (by decide) rfl rfl (Nat.le_of_ble_eq_true rfl) (K_KW_stays l g htr x1 M _ _ e1) (G_catch [(0, 16, 19, 19)] (0, 16, 22, 41) [] K htb rfl (List.forall_mem_cons.mpr ⟨⟨by decide, "java/lang/IndexOutOfBoundsException", wd_726, by decide⟩, fun _ h => absurd h List.not_mem_nil⟩) rfl (by decide) wd_932 (by decide) (fun q => ?_))
      refine G_astore_n rfl K dL_stays_22 (Nat.le_of_ble_eq_true rfl) rfl ?_
      refine G_iconst (v := 2) rfl K dL_stays_23 ?_
      cases hPHI _ (wpO_some h)
      exact G_iret K hr rfl dL_stays_24 (Nat.le_of_ble_eq_true rfl) (Nat.le_of_ble_eq_true rfl) ⟨rfl, rfl⟩
    have h := wpO_f h hE1
    exact wpO_none h
  refine G_callXVi (ci := 11) [.int x1] [.int 0, .ref (g.2.1 121)] K dL_stays_4 wv_1377 yd_X11_stays (Nat.le_of_ble_eq_true rfl) (sh_0 _ _) rfl (by decide) (by decide) rfl rfl (Nat.le_of_ble_eq_true rfl) (K_KW_stays l g htr x1 M _ _ e1) ?_
  refine G_ifb_eq (tgt := 14) K dL_stays_7 (by decide) (fun hc => ?_) (fun hc => ?_)
  · have h := wpO_bf h hc
    refine G_lconst (v := 0) rfl K dL_stays_14 ?_
    obtain ⟨hin, h⟩ := wpO_g h
    refine G_last K dL_stays_15 (Nat.le_of_ble_eq_true rfl) (sh_121 _) hin ?_
    refine G_goto (tgt := 25) K dL_stays_16 (by decide) ?_
    refine G_iconst (v := 0) rfl K dL_stays_25 ?_
    cases hPHI _ (wpO_some h)
    exact G_iret K hr rfl dL_stays_26 (Nat.le_of_ble_eq_true rfl) (Nat.le_of_ble_eq_true rfl) ⟨rfl, rfl⟩
  · have h := wpO_t h hc
    refine G_lconst (v := 1) rfl K dL_stays_10 ?_
    refine G_goto (tgt := 15) K dL_stays_11 (by decide) ?_
    obtain ⟨hin, h⟩ := wpO_g h
    refine G_last K dL_stays_15 (Nat.le_of_ble_eq_true rfl) (sh_121 _) hin ?_
    refine G_goto (tgt := 25) K dL_stays_16 (by decide) ?_
    refine G_iconst (v := 0) rfl K dL_stays_25 ?_
    cases hPHI _ (wpO_some h)
    exact G_iret K hr rfl dL_stays_26 (Nat.le_of_ble_eq_true rfl) (Nat.le_of_ble_eq_true rfl) ⟨rfl, rfl⟩
theorem yd_X11_all : ydN yX11_all 2 := ⟨by decide, by decide, by decide +kernel⟩
theorem wv_1392 : wdV "KeptWellLaw" 117 yX11_all cX11_all 7 (some .int) := ⟨wd_1392, wd_1393, wd_1394, wd_1, wd_1395⟩
def on_L_all : Nat := 0xac03ac06043aac05043aac04043a0f00a750857500b61c1b2a032d
theorem ob_L_all : OKB cL_all on_L_all 27 := ⟨by decide +kernel, by decide +kernel⟩
theorem dL_all_0 : dc cL_all 0 1 (.aload_n 3) 1 := o_45 ob_L_all rfl rfl rfl
theorem dL_all_1 : dc cL_all 1 2 (.iconst 0) 1 := o_3 ob_L_all rfl rfl rfl
theorem dL_all_2 : dc cL_all 2 3 (.aload_n 0) 1 := o_42 ob_L_all rfl rfl rfl
theorem dL_all_3 : dc cL_all 3 4 (.iload_n 1) 1 := o_27 ob_L_all rfl rfl rfl
theorem dL_all_4 : dc cL_all 4 5 (.iload_n 2) 1 := o_28 ob_L_all rfl rfl rfl
theorem dL_all_5 : dc cL_all 5 8 (.invokevirtual 117) 3 := o_182 ob_L_all rfl rfl rfl rfl
theorem dL_all_8 : dc cL_all 8 9 .i2l 1 := o_133 ob_L_all rfl rfl rfl
theorem dL_all_9 : dc cL_all 9 10 .lastore 1 := o_80 ob_L_all rfl rfl rfl
theorem dL_all_10 : dc cL_all 10 13 (.goto 15) 3 := o_167 ob_L_all rfl rfl rfl rfl
theorem dL_all_13 : dc cL_all 13 15 (.astore 4) 2 := o_58 ob_L_all rfl rfl rfl rfl
theorem dL_all_15 : dc cL_all 15 16 (.iconst 1) 1 := o_4 ob_L_all rfl rfl rfl
theorem dL_all_16 : dc cL_all 16 17 .ireturn 1 := o_172 ob_L_all rfl rfl rfl
theorem dL_all_17 : dc cL_all 17 19 (.astore 4) 2 := o_58 ob_L_all rfl rfl rfl rfl
theorem dL_all_19 : dc cL_all 19 20 (.iconst 2) 1 := o_5 ob_L_all rfl rfl rfl
theorem dL_all_20 : dc cL_all 20 21 .ireturn 1 := o_172 ob_L_all rfl rfl rfl
theorem dL_all_21 : dc cL_all 21 23 (.astore 4) 2 := o_58 ob_L_all rfl rfl rfl rfl
theorem dL_all_23 : dc cL_all 23 24 (.iconst 3) 1 := o_6 ob_L_all rfl rfl rfl
theorem dL_all_24 : dc cL_all 24 25 .ireturn 1 := o_172 ob_L_all rfl rfl rfl
theorem dL_all_25 : dc cL_all 25 26 (.iconst 0) 1 := o_3 ob_L_all rfl rfl rfl
theorem dL_all_26 : dc cL_all 26 27 .ireturn 1 := o_172 ob_L_all rfl rfl rfl
def F_LAW_all (x1 : Int32) (x2 : Int32) (M : Mem) : Option (Int32 × Mem) :=
  hbind (F_KW_all x1 x2 M) (fun E1 M1 => if E1 = "java/lang/IndexOutOfBoundsException" then some ((1, M1)) else if E1 = "java/lang/IllegalStateException" then some ((2, M1)) else if E1 = "java/util/NoSuchElementException" then some ((3, M1)) else none) fun r1 M1 => if inb ((0 : Int32)) 1 then some ((0, mSL M1 121 ((0 : Int32)).toNatClampNeg r1.toInt64)) else none
set_option maxRecDepth 100000 in
set_option maxHeartbeats 4000000 in
theorem K_LAW_all (l : Launch) (g : GB) (htr : l.stackTraces = false) (x1 : Int32) (x2 : Int32) (M : Mem) (rr : Int32) (MZ : Mem) (h : F_LAW_all x1 x2 M = some (rr, MZ)) : CT l g yL_all (.codeWith yL_all cL_all 5 (some .int) [(0, 10, 13, 19), (0, 10, 17, 41), (0, 10, 21, 35)] :: wAll) { frames := 8, cells := 4, slots := 24, locals := 192 } [.ref (g.2.1 0), .int x1, .int x2, .ref (g.2.1 121)] M (.inl (some (.int rr))) MZ := by
  refine CT.ofH [(0, .ref (g.2.1 0)), (1, .int x1), (2, .int x2), (3, .ref (g.2.1 121))] (by decide +kernel) (Nat.le_of_ble_eq_true rfl) rfl htr ?_
  intro p e s m args below meth c K hr htb
  skip
  obtain ⟨PHI, hPHI, h⟩ : ∃ PHI : Int32 × Mem → Prop, (∀ a, PHI a → a = (rr, MZ)) ∧ wpO (F_LAW_all x1 x2 M) PHI := ⟨fun a => a = (rr, MZ), fun _ h => h, _, h, rfl⟩
  unfold F_LAW_all at h
  refine G_aload_n rfl 3 rfl K dL_all_0 ?_
  refine G_iconst (v := 0) rfl K dL_all_1 ?_
  refine G_aload_n rfl 0 rfl K dL_all_2 ?_
  refine G_iload_n rfl 1 rfl K dL_all_3 ?_
  refine G_iload_n rfl 2 rfl K dL_all_4 ?_
  obtain ⟨E1, M1, e1, h⟩ | ⟨r1, M1, e1, h⟩ := wpO_h h
  · by_cases hE0 : E1 = "java/lang/IndexOutOfBoundsException"
    · subst hE0
      have h := wpO_t h rfl
      refine G_callXVt (ci := 11) [.int x1, .int x2] [.int 0, .ref (g.2.1 121)] K dL_all_5 wv_1392 yd_X11_all (Nat.le_of_ble_eq_true rfl) (sh_0 _ _) rfl (by decide) (by decide) rfl rfl (Nat.le_of_ble_eq_true rfl) (K_KW_all l g htr x1 x2 M _ _ e1) (G_catch [] (0, 10, 13, 19) [(0, 10, 17, 41), (0, 10, 21, 35)] K htb rfl (fun _ hz => absurd hz List.not_mem_nil) rfl (by decide) wd_726 (by decide) (fun q => ?_))
      refine G_astore K dL_all_13 (Nat.le_of_ble_eq_true rfl) rfl ?_
      refine G_iconst (v := 1) rfl K dL_all_15 ?_
      cases hPHI _ (wpO_some h)
      exact G_iret K hr rfl dL_all_16 (Nat.le_of_ble_eq_true rfl) (Nat.le_of_ble_eq_true rfl) ⟨rfl, rfl⟩
    have h := wpO_f h hE0
    by_cases hE1 : E1 = "java/lang/IllegalStateException"
    · subst hE1
      have h := wpO_t h rfl
      refine G_callXVt (ci := 11) [.int x1, .int x2] [.int 0, .ref (g.2.1 121)] K dL_all_5 wv_1392 yd_X11_all (Nat.le_of_ble_eq_true rfl) (sh_0 _ _) rfl (by decide) (by decide) rfl rfl (Nat.le_of_ble_eq_true rfl) (K_KW_all l g htr x1 x2 M _ _ e1) (G_catch [(0, 10, 13, 19)] (0, 10, 17, 41) [(0, 10, 21, 35)] K htb rfl (List.forall_mem_cons.mpr ⟨⟨by decide, "java/lang/IndexOutOfBoundsException", wd_726, by decide⟩, fun _ h => absurd h List.not_mem_nil⟩) rfl (by decide) wd_932 (by decide) (fun q => ?_))
      refine G_astore K dL_all_17 (Nat.le_of_ble_eq_true rfl) rfl ?_
      refine G_iconst (v := 2) rfl K dL_all_19 ?_
      cases hPHI _ (wpO_some h)
      exact G_iret K hr rfl dL_all_20 (Nat.le_of_ble_eq_true rfl) (Nat.le_of_ble_eq_true rfl) ⟨rfl, rfl⟩
    have h := wpO_f h hE1
    by_cases hE2 : E1 = "java/util/NoSuchElementException"
    · subst hE2
      have h := wpO_t h rfl
      refine G_callXVt (ci := 11) [.int x1, .int x2] [.int 0, .ref (g.2.1 121)] K dL_all_5 wv_1392 yd_X11_all (Nat.le_of_ble_eq_true rfl) (sh_0 _ _) rfl (by decide) (by decide) rfl rfl (Nat.le_of_ble_eq_true rfl) (K_KW_all l g htr x1 x2 M _ _ e1) (G_catch [(0, 10, 13, 19), (0, 10, 17, 41)] (0, 10, 21, 35) [] K htb rfl (List.forall_mem_cons.mpr ⟨⟨by decide, "java/lang/IndexOutOfBoundsException", wd_726, by decide⟩, List.forall_mem_cons.mpr ⟨⟨by decide, "java/lang/IllegalStateException", wd_932, by decide⟩, fun _ h => absurd h List.not_mem_nil⟩⟩) rfl (by decide) wd_893 (by decide) (fun q => ?_))
      refine G_astore K dL_all_21 (Nat.le_of_ble_eq_true rfl) rfl ?_
      refine G_iconst (v := 3) rfl K dL_all_23 ?_
      cases hPHI _ (wpO_some h)
      exact G_iret K hr rfl dL_all_24 (Nat.le_of_ble_eq_true rfl) (Nat.le_of_ble_eq_true rfl) ⟨rfl, rfl⟩
    have h := wpO_f h hE2
    exact wpO_none h
  refine G_callXVi (ci := 11) [.int x1, .int x2] [.int 0, .ref (g.2.1 121)] K dL_all_5 wv_1392 yd_X11_all (Nat.le_of_ble_eq_true rfl) (sh_0 _ _) rfl (by decide) (by decide) rfl rfl (Nat.le_of_ble_eq_true rfl) (K_KW_all l g htr x1 x2 M _ _ e1) ?_
  refine G_i2l K dL_all_8 ?_
  obtain ⟨hin, h⟩ := wpO_g h
  refine G_last K dL_all_9 (Nat.le_of_ble_eq_true rfl) (sh_121 _) hin ?_
  refine G_goto (tgt := 25) K dL_all_10 (by decide) ?_
  refine G_iconst (v := 0) rfl K dL_all_25 ?_
  cases hPHI _ (wpO_some h)
  exact G_iret K hr rfl dL_all_26 (Nat.le_of_ble_eq_true rfl) (Nat.le_of_ble_eq_true rfl) ⟨rfl, rfl⟩
theorem yd_X11_begin : ydN yX11_begin 2 := ⟨by decide, by decide, by decide +kernel⟩
theorem wv_1408 : wdV "KeptWellLaw" 120 yX11_begin cX11_begin 3 (some .int) := ⟨wd_1408, wd_1409, wd_1410, wd_1, wd_1411⟩
def on_L_begin : Nat := 0xac03ac05043aac04043a0b00a750857800b61c1b2a032d
theorem ob_L_begin : OKB cL_begin on_L_begin 23 := ⟨by decide +kernel, by decide +kernel⟩
theorem dL_begin_0 : dc cL_begin 0 1 (.aload_n 3) 1 := o_45 ob_L_begin rfl rfl rfl
theorem dL_begin_1 : dc cL_begin 1 2 (.iconst 0) 1 := o_3 ob_L_begin rfl rfl rfl
theorem dL_begin_2 : dc cL_begin 2 3 (.aload_n 0) 1 := o_42 ob_L_begin rfl rfl rfl
theorem dL_begin_3 : dc cL_begin 3 4 (.iload_n 1) 1 := o_27 ob_L_begin rfl rfl rfl
theorem dL_begin_4 : dc cL_begin 4 5 (.iload_n 2) 1 := o_28 ob_L_begin rfl rfl rfl
theorem dL_begin_5 : dc cL_begin 5 8 (.invokevirtual 120) 3 := o_182 ob_L_begin rfl rfl rfl rfl
theorem dL_begin_8 : dc cL_begin 8 9 .i2l 1 := o_133 ob_L_begin rfl rfl rfl
theorem dL_begin_9 : dc cL_begin 9 10 .lastore 1 := o_80 ob_L_begin rfl rfl rfl
theorem dL_begin_10 : dc cL_begin 10 13 (.goto 11) 3 := o_167 ob_L_begin rfl rfl rfl rfl
theorem dL_begin_13 : dc cL_begin 13 15 (.astore 4) 2 := o_58 ob_L_begin rfl rfl rfl rfl
theorem dL_begin_15 : dc cL_begin 15 16 (.iconst 1) 1 := o_4 ob_L_begin rfl rfl rfl
theorem dL_begin_16 : dc cL_begin 16 17 .ireturn 1 := o_172 ob_L_begin rfl rfl rfl
theorem dL_begin_17 : dc cL_begin 17 19 (.astore 4) 2 := o_58 ob_L_begin rfl rfl rfl rfl
theorem dL_begin_19 : dc cL_begin 19 20 (.iconst 2) 1 := o_5 ob_L_begin rfl rfl rfl
theorem dL_begin_20 : dc cL_begin 20 21 .ireturn 1 := o_172 ob_L_begin rfl rfl rfl
theorem dL_begin_21 : dc cL_begin 21 22 (.iconst 0) 1 := o_3 ob_L_begin rfl rfl rfl
theorem dL_begin_22 : dc cL_begin 22 23 .ireturn 1 := o_172 ob_L_begin rfl rfl rfl
def F_LAW_begin (x1 : Int32) (x2 : Int32) (M : Mem) : Option (Int32 × Mem) :=
  hbind (F_KW_begin x1 x2 M) (fun E1 M1 => if E1 = "java/lang/IndexOutOfBoundsException" then some ((1, M1)) else if E1 = "java/lang/IllegalStateException" then some ((2, M1)) else none) fun r1 M1 => if inb ((0 : Int32)) 1 then some ((0, mSL M1 121 ((0 : Int32)).toNatClampNeg r1.toInt64)) else none
set_option maxRecDepth 100000 in
set_option maxHeartbeats 4000000 in
theorem K_LAW_begin (l : Launch) (g : GB) (htr : l.stackTraces = false) (x1 : Int32) (x2 : Int32) (M : Mem) (rr : Int32) (MZ : Mem) (h : F_LAW_begin x1 x2 M = some (rr, MZ)) : CT l g yL_begin (.codeWith yL_begin cL_begin 5 (some .int) [(0, 10, 13, 19), (0, 10, 17, 41)] :: wAll) { frames := 9, cells := 4, slots := 24, locals := 165 } [.ref (g.2.1 0), .int x1, .int x2, .ref (g.2.1 121)] M (.inl (some (.int rr))) MZ := by
  refine CT.ofH [(0, .ref (g.2.1 0)), (1, .int x1), (2, .int x2), (3, .ref (g.2.1 121))] (by decide +kernel) (Nat.le_of_ble_eq_true rfl) rfl htr ?_
  intro p e s m args below meth c K hr htb
  skip
  obtain ⟨PHI, hPHI, h⟩ : ∃ PHI : Int32 × Mem → Prop, (∀ a, PHI a → a = (rr, MZ)) ∧ wpO (F_LAW_begin x1 x2 M) PHI := ⟨fun a => a = (rr, MZ), fun _ h => h, _, h, rfl⟩
  unfold F_LAW_begin at h
  refine G_aload_n rfl 3 rfl K dL_begin_0 ?_
  refine G_iconst (v := 0) rfl K dL_begin_1 ?_
  refine G_aload_n rfl 0 rfl K dL_begin_2 ?_
  refine G_iload_n rfl 1 rfl K dL_begin_3 ?_
  refine G_iload_n rfl 2 rfl K dL_begin_4 ?_
  obtain ⟨E1, M1, e1, h⟩ | ⟨r1, M1, e1, h⟩ := wpO_h h
  · by_cases hE0 : E1 = "java/lang/IndexOutOfBoundsException"
    · subst hE0
      have h := wpO_t h rfl
      refine G_callXVt (ci := 11) [.int x1, .int x2] [.int 0, .ref (g.2.1 121)] K dL_begin_5 wv_1408 yd_X11_begin (Nat.le_of_ble_eq_true rfl) (sh_0 _ _) rfl (by decide) (by decide) rfl rfl (Nat.le_of_ble_eq_true rfl) (K_KW_begin l g htr x1 x2 M _ _ e1) (G_catch [] (0, 10, 13, 19) [(0, 10, 17, 41)] K htb rfl (fun _ hz => absurd hz List.not_mem_nil) rfl (by decide) wd_726 (by decide) (fun q => ?_))
      refine G_astore K dL_begin_13 (Nat.le_of_ble_eq_true rfl) rfl ?_
      refine G_iconst (v := 1) rfl K dL_begin_15 ?_
      cases hPHI _ (wpO_some h)
      exact G_iret K hr rfl dL_begin_16 (Nat.le_of_ble_eq_true rfl) (Nat.le_of_ble_eq_true rfl) ⟨rfl, rfl⟩
    have h := wpO_f h hE0
    by_cases hE1 : E1 = "java/lang/IllegalStateException"
    · subst hE1
      have h := wpO_t h rfl
      refine G_callXVt (ci := 11) [.int x1, .int x2] [.int 0, .ref (g.2.1 121)] K dL_begin_5 wv_1408 yd_X11_begin (Nat.le_of_ble_eq_true rfl) (sh_0 _ _) rfl (by decide) (by decide) rfl rfl (Nat.le_of_ble_eq_true rfl) (K_KW_begin l g htr x1 x2 M _ _ e1) (G_catch [(0, 10, 13, 19)] (0, 10, 17, 41) [] K htb rfl (List.forall_mem_cons.mpr ⟨⟨by decide, "java/lang/IndexOutOfBoundsException", wd_726, by decide⟩, fun _ h => absurd h List.not_mem_nil⟩) rfl (by decide) wd_932 (by decide) (fun q => ?_))
      refine G_astore K dL_begin_17 (Nat.le_of_ble_eq_true rfl) rfl ?_
      refine G_iconst (v := 2) rfl K dL_begin_19 ?_
      cases hPHI _ (wpO_some h)
      exact G_iret K hr rfl dL_begin_20 (Nat.le_of_ble_eq_true rfl) (Nat.le_of_ble_eq_true rfl) ⟨rfl, rfl⟩
    have h := wpO_f h hE1
    exact wpO_none h
  refine G_callXVi (ci := 11) [.int x1, .int x2] [.int 0, .ref (g.2.1 121)] K dL_begin_5 wv_1408 yd_X11_begin (Nat.le_of_ble_eq_true rfl) (sh_0 _ _) rfl (by decide) (by decide) rfl rfl (Nat.le_of_ble_eq_true rfl) (K_KW_begin l g htr x1 x2 M _ _ e1) ?_
  refine G_i2l K dL_begin_8 ?_
  obtain ⟨hin, h⟩ := wpO_g h
  refine G_last K dL_begin_9 (Nat.le_of_ble_eq_true rfl) (sh_121 _) hin ?_
  refine G_goto (tgt := 21) K dL_begin_10 (by decide) ?_
  refine G_iconst (v := 0) rfl K dL_begin_21 ?_
  cases hPHI _ (wpO_some h)
  exact G_iret K hr rfl dL_begin_22 (Nat.le_of_ble_eq_true rfl) (Nat.le_of_ble_eq_true rfl) ⟨rfl, rfl⟩
theorem yd_X11_villager : ydN yX11_villager 2 := ⟨by decide, by decide, by decide +kernel⟩
theorem wv_1426 : wdV "KeptWellLaw" 123 yX11_villager cX11_villager 3 (some .int) := ⟨wd_1426, wd_1427, wd_1428, wd_1, wd_1429⟩
def on_L_villager : Nat := 0xac03ac05043aac04043a0b00a750857b00b61c1b2a032d
theorem ob_L_villager : OKB cL_villager on_L_villager 23 := ⟨by decide +kernel, by decide +kernel⟩
theorem dL_villager_0 : dc cL_villager 0 1 (.aload_n 3) 1 := o_45 ob_L_villager rfl rfl rfl
theorem dL_villager_1 : dc cL_villager 1 2 (.iconst 0) 1 := o_3 ob_L_villager rfl rfl rfl
theorem dL_villager_2 : dc cL_villager 2 3 (.aload_n 0) 1 := o_42 ob_L_villager rfl rfl rfl
theorem dL_villager_3 : dc cL_villager 3 4 (.iload_n 1) 1 := o_27 ob_L_villager rfl rfl rfl
theorem dL_villager_4 : dc cL_villager 4 5 (.iload_n 2) 1 := o_28 ob_L_villager rfl rfl rfl
theorem dL_villager_5 : dc cL_villager 5 8 (.invokevirtual 123) 3 := o_182 ob_L_villager rfl rfl rfl rfl
theorem dL_villager_8 : dc cL_villager 8 9 .i2l 1 := o_133 ob_L_villager rfl rfl rfl
theorem dL_villager_9 : dc cL_villager 9 10 .lastore 1 := o_80 ob_L_villager rfl rfl rfl
theorem dL_villager_10 : dc cL_villager 10 13 (.goto 11) 3 := o_167 ob_L_villager rfl rfl rfl rfl
theorem dL_villager_13 : dc cL_villager 13 15 (.astore 4) 2 := o_58 ob_L_villager rfl rfl rfl rfl
theorem dL_villager_15 : dc cL_villager 15 16 (.iconst 1) 1 := o_4 ob_L_villager rfl rfl rfl
theorem dL_villager_16 : dc cL_villager 16 17 .ireturn 1 := o_172 ob_L_villager rfl rfl rfl
theorem dL_villager_17 : dc cL_villager 17 19 (.astore 4) 2 := o_58 ob_L_villager rfl rfl rfl rfl
theorem dL_villager_19 : dc cL_villager 19 20 (.iconst 2) 1 := o_5 ob_L_villager rfl rfl rfl
theorem dL_villager_20 : dc cL_villager 20 21 .ireturn 1 := o_172 ob_L_villager rfl rfl rfl
theorem dL_villager_21 : dc cL_villager 21 22 (.iconst 0) 1 := o_3 ob_L_villager rfl rfl rfl
theorem dL_villager_22 : dc cL_villager 22 23 .ireturn 1 := o_172 ob_L_villager rfl rfl rfl
def F_LAW_villager (x1 : Int32) (x2 : Int32) (M : Mem) : Option (Int32 × Mem) :=
  hbind (F_KW_villager x1 x2 M) (fun E1 M1 => if E1 = "java/lang/IllegalArgumentException" then some ((1, M1)) else if E1 = "java/lang/UnsupportedOperationException" then some ((2, M1)) else none) fun r1 M1 => if inb ((0 : Int32)) 1 then some ((0, mSL M1 121 ((0 : Int32)).toNatClampNeg r1.toInt64)) else none
set_option maxRecDepth 100000 in
set_option maxHeartbeats 4000000 in
theorem K_LAW_villager (l : Launch) (g : GB) (htr : l.stackTraces = false) (x1 : Int32) (x2 : Int32) (M : Mem) (rr : Int32) (MZ : Mem) (h : F_LAW_villager x1 x2 M = some (rr, MZ)) : CT l g yL_villager (.codeWith yL_villager cL_villager 5 (some .int) [(0, 10, 13, 13), (0, 10, 17, 29)] :: wAll) { frames := 8, cells := 3, slots := 18, locals := 145 } [.ref (g.2.1 0), .int x1, .int x2, .ref (g.2.1 121)] M (.inl (some (.int rr))) MZ := by
  refine CT.ofH [(0, .ref (g.2.1 0)), (1, .int x1), (2, .int x2), (3, .ref (g.2.1 121))] (by decide +kernel) (Nat.le_of_ble_eq_true rfl) rfl htr ?_
  intro p e s m args below meth c K hr htb
  skip
  obtain ⟨PHI, hPHI, h⟩ : ∃ PHI : Int32 × Mem → Prop, (∀ a, PHI a → a = (rr, MZ)) ∧ wpO (F_LAW_villager x1 x2 M) PHI := ⟨fun a => a = (rr, MZ), fun _ h => h, _, h, rfl⟩
  unfold F_LAW_villager at h
  refine G_aload_n rfl 3 rfl K dL_villager_0 ?_
  refine G_iconst (v := 0) rfl K dL_villager_1 ?_
  refine G_aload_n rfl 0 rfl K dL_villager_2 ?_
  refine G_iload_n rfl 1 rfl K dL_villager_3 ?_
  refine G_iload_n rfl 2 rfl K dL_villager_4 ?_
  obtain ⟨E1, M1, e1, h⟩ | ⟨r1, M1, e1, h⟩ := wpO_h h
  · by_cases hE0 : E1 = "java/lang/IllegalArgumentException"
    · subst hE0
      have h := wpO_t h rfl
      refine G_callXVt (ci := 11) [.int x1, .int x2] [.int 0, .ref (g.2.1 121)] K dL_villager_5 wv_1426 yd_X11_villager (Nat.le_of_ble_eq_true rfl) (sh_0 _ _) rfl (by decide) (by decide) rfl rfl (Nat.le_of_ble_eq_true rfl) (K_KW_villager l g htr x1 x2 M _ _ e1) (G_catch [] (0, 10, 13, 13) [(0, 10, 17, 29)] K htb rfl (fun _ hz => absurd hz List.not_mem_nil) rfl (by decide) wd_649 (by decide) (fun q => ?_))
      refine G_astore K dL_villager_13 (Nat.le_of_ble_eq_true rfl) rfl ?_
      refine G_iconst (v := 1) rfl K dL_villager_15 ?_
      cases hPHI _ (wpO_some h)
      exact G_iret K hr rfl dL_villager_16 (Nat.le_of_ble_eq_true rfl) (Nat.le_of_ble_eq_true rfl) ⟨rfl, rfl⟩
    have h := wpO_f h hE0
    by_cases hE1 : E1 = "java/lang/UnsupportedOperationException"
    · subst hE1
      have h := wpO_t h rfl
      refine G_callXVt (ci := 11) [.int x1, .int x2] [.int 0, .ref (g.2.1 121)] K dL_villager_5 wv_1426 yd_X11_villager (Nat.le_of_ble_eq_true rfl) (sh_0 _ _) rfl (by decide) (by decide) rfl rfl (Nat.le_of_ble_eq_true rfl) (K_KW_villager l g htr x1 x2 M _ _ e1) (G_catch [(0, 10, 13, 13)] (0, 10, 17, 29) [] K htb rfl (List.forall_mem_cons.mpr ⟨⟨by decide, "java/lang/IllegalArgumentException", wd_649, by decide⟩, fun _ h => absurd h List.not_mem_nil⟩) rfl (by decide) wd_765 (by decide) (fun q => ?_))
      refine G_astore K dL_villager_17 (Nat.le_of_ble_eq_true rfl) rfl ?_
      refine G_iconst (v := 2) rfl K dL_villager_19 ?_
      cases hPHI _ (wpO_some h)
      exact G_iret K hr rfl dL_villager_20 (Nat.le_of_ble_eq_true rfl) (Nat.le_of_ble_eq_true rfl) ⟨rfl, rfl⟩
    have h := wpO_f h hE1
    exact wpO_none h
  refine G_callXVi (ci := 11) [.int x1, .int x2] [.int 0, .ref (g.2.1 121)] K dL_villager_5 wv_1426 yd_X11_villager (Nat.le_of_ble_eq_true rfl) (sh_0 _ _) rfl (by decide) (by decide) rfl rfl (Nat.le_of_ble_eq_true rfl) (K_KW_villager l g htr x1 x2 M _ _ e1) ?_
  refine G_i2l K dL_villager_8 ?_
  obtain ⟨hin, h⟩ := wpO_g h
  refine G_last K dL_villager_9 (Nat.le_of_ble_eq_true rfl) (sh_121 _) hin ?_
  refine G_goto (tgt := 21) K dL_villager_10 (by decide) ?_
  refine G_iconst (v := 0) rfl K dL_villager_21 ?_
  cases hPHI _ (wpO_some h)
  exact G_iret K hr rfl dL_villager_22 (Nat.le_of_ble_eq_true rfl) (Nat.le_of_ble_eq_true rfl) ⟨rfl, rfl⟩
theorem yd_X11_villageEdge : ydN yX11_villageEdge 2 := ⟨by decide, by decide, by decide +kernel⟩
theorem wv_1433 : wdV "KeptWellLaw" 126 yX11_villageEdge cX11_villageEdge 3 (some .int) := ⟨wd_1433, wd_1434, wd_1435, wd_1, wd_1436⟩
def on_L_villageEdge : Nat := 0xac03ac04043a0700a750857e00b61c1b2a032d
theorem ob_L_villageEdge : OKB cL_villageEdge on_L_villageEdge 19 := ⟨by decide +kernel, by decide +kernel⟩
theorem dL_villageEdge_0 : dc cL_villageEdge 0 1 (.aload_n 3) 1 := o_45 ob_L_villageEdge rfl rfl rfl
theorem dL_villageEdge_1 : dc cL_villageEdge 1 2 (.iconst 0) 1 := o_3 ob_L_villageEdge rfl rfl rfl
theorem dL_villageEdge_2 : dc cL_villageEdge 2 3 (.aload_n 0) 1 := o_42 ob_L_villageEdge rfl rfl rfl
theorem dL_villageEdge_3 : dc cL_villageEdge 3 4 (.iload_n 1) 1 := o_27 ob_L_villageEdge rfl rfl rfl
theorem dL_villageEdge_4 : dc cL_villageEdge 4 5 (.iload_n 2) 1 := o_28 ob_L_villageEdge rfl rfl rfl
theorem dL_villageEdge_5 : dc cL_villageEdge 5 8 (.invokevirtual 126) 3 := o_182 ob_L_villageEdge rfl rfl rfl rfl
theorem dL_villageEdge_8 : dc cL_villageEdge 8 9 .i2l 1 := o_133 ob_L_villageEdge rfl rfl rfl
theorem dL_villageEdge_9 : dc cL_villageEdge 9 10 .lastore 1 := o_80 ob_L_villageEdge rfl rfl rfl
theorem dL_villageEdge_10 : dc cL_villageEdge 10 13 (.goto 7) 3 := o_167 ob_L_villageEdge rfl rfl rfl rfl
theorem dL_villageEdge_13 : dc cL_villageEdge 13 15 (.astore 4) 2 := o_58 ob_L_villageEdge rfl rfl rfl rfl
theorem dL_villageEdge_15 : dc cL_villageEdge 15 16 (.iconst 1) 1 := o_4 ob_L_villageEdge rfl rfl rfl
theorem dL_villageEdge_16 : dc cL_villageEdge 16 17 .ireturn 1 := o_172 ob_L_villageEdge rfl rfl rfl
theorem dL_villageEdge_17 : dc cL_villageEdge 17 18 (.iconst 0) 1 := o_3 ob_L_villageEdge rfl rfl rfl
theorem dL_villageEdge_18 : dc cL_villageEdge 18 19 .ireturn 1 := o_172 ob_L_villageEdge rfl rfl rfl
def F_LAW_villageEdge (x1 : Int32) (x2 : Int32) (M : Mem) : Option (Int32 × Mem) :=
  hbind (F_KW_villageEdge x1 x2 M) (fun E1 M1 => if E1 = "java/lang/IndexOutOfBoundsException" then some ((1, M1)) else none) fun r1 M1 => if inb ((0 : Int32)) 1 then some ((0, mSL M1 121 ((0 : Int32)).toNatClampNeg r1.toInt64)) else none
set_option maxRecDepth 100000 in
set_option maxHeartbeats 4000000 in
theorem K_LAW_villageEdge (l : Launch) (g : GB) (htr : l.stackTraces = false) (x1 : Int32) (x2 : Int32) (M : Mem) (rr : Int32) (MZ : Mem) (h : F_LAW_villageEdge x1 x2 M = some (rr, MZ)) : CT l g yL_villageEdge (.codeWith yL_villageEdge cL_villageEdge 5 (some .int) [(0, 10, 13, 19)] :: wAll) { frames := 7, cells := 1, slots := 6, locals := 126 } [.ref (g.2.1 0), .int x1, .int x2, .ref (g.2.1 121)] M (.inl (some (.int rr))) MZ := by
  refine CT.ofH [(0, .ref (g.2.1 0)), (1, .int x1), (2, .int x2), (3, .ref (g.2.1 121))] (by decide +kernel) (Nat.le_of_ble_eq_true rfl) rfl htr ?_
  intro p e s m args below meth c K hr htb
  skip
  obtain ⟨PHI, hPHI, h⟩ : ∃ PHI : Int32 × Mem → Prop, (∀ a, PHI a → a = (rr, MZ)) ∧ wpO (F_LAW_villageEdge x1 x2 M) PHI := ⟨fun a => a = (rr, MZ), fun _ h => h, _, h, rfl⟩
  unfold F_LAW_villageEdge at h
  refine G_aload_n rfl 3 rfl K dL_villageEdge_0 ?_
  refine G_iconst (v := 0) rfl K dL_villageEdge_1 ?_
  refine G_aload_n rfl 0 rfl K dL_villageEdge_2 ?_
  refine G_iload_n rfl 1 rfl K dL_villageEdge_3 ?_
  refine G_iload_n rfl 2 rfl K dL_villageEdge_4 ?_
  obtain ⟨E1, M1, e1, h⟩ | ⟨r1, M1, e1, h⟩ := wpO_h h
  · by_cases hE0 : E1 = "java/lang/IndexOutOfBoundsException"
    · subst hE0
      have h := wpO_t h rfl
      refine G_callXVt (ci := 11) [.int x1, .int x2] [.int 0, .ref (g.2.1 121)] K dL_villageEdge_5 wv_1433 yd_X11_villageEdge (Nat.le_of_ble_eq_true rfl) (sh_0 _ _) rfl (by decide) (by decide) rfl rfl (Nat.le_of_ble_eq_true rfl) (K_KW_villageEdge l g htr x1 x2 M _ _ e1) (G_catch [] (0, 10, 13, 19) [] K htb rfl (fun _ hz => absurd hz List.not_mem_nil) rfl (by decide) wd_726 (by decide) (fun q => ?_))
      refine G_astore K dL_villageEdge_13 (Nat.le_of_ble_eq_true rfl) rfl ?_
      refine G_iconst (v := 1) rfl K dL_villageEdge_15 ?_
      cases hPHI _ (wpO_some h)
      exact G_iret K hr rfl dL_villageEdge_16 (Nat.le_of_ble_eq_true rfl) (Nat.le_of_ble_eq_true rfl) ⟨rfl, rfl⟩
    have h := wpO_f h hE0
    exact wpO_none h
  refine G_callXVi (ci := 11) [.int x1, .int x2] [.int 0, .ref (g.2.1 121)] K dL_villageEdge_5 wv_1433 yd_X11_villageEdge (Nat.le_of_ble_eq_true rfl) (sh_0 _ _) rfl (by decide) (by decide) rfl rfl (Nat.le_of_ble_eq_true rfl) (K_KW_villageEdge l g htr x1 x2 M _ _ e1) ?_
  refine G_i2l K dL_villageEdge_8 ?_
  obtain ⟨hin, h⟩ := wpO_g h
  refine G_last K dL_villageEdge_9 (Nat.le_of_ble_eq_true rfl) (sh_121 _) hin ?_
  refine G_goto (tgt := 17) K dL_villageEdge_10 (by decide) ?_
  refine G_iconst (v := 0) rfl K dL_villageEdge_17 ?_
  cases hPHI _ (wpO_some h)
  exact G_iret K hr rfl dL_villageEdge_18 (Nat.le_of_ble_eq_true rfl) (Nat.le_of_ble_eq_true rfl) ⟨rfl, rfl⟩
theorem yd_X11_village : ydN yX11_village 1 := ⟨by decide, by decide, by decide +kernel⟩
theorem wv_1446 : wdV "KeptWellLaw" 129 yX11_village cX11_village 2 (some .int) := ⟨wd_1446, wd_1447, wd_1448, wd_1, wd_1449⟩
def on_L_village : Nat := 0xac03ac044e0600a750858100b61b2a032c
theorem ob_L_village : OKB cL_village on_L_village 17 := ⟨by decide +kernel, by decide +kernel⟩
theorem dL_village_0 : dc cL_village 0 1 (.aload_n 2) 1 := o_44 ob_L_village rfl rfl rfl
theorem dL_village_1 : dc cL_village 1 2 (.iconst 0) 1 := o_3 ob_L_village rfl rfl rfl
theorem dL_village_2 : dc cL_village 2 3 (.aload_n 0) 1 := o_42 ob_L_village rfl rfl rfl
theorem dL_village_3 : dc cL_village 3 4 (.iload_n 1) 1 := o_27 ob_L_village rfl rfl rfl
theorem dL_village_4 : dc cL_village 4 7 (.invokevirtual 129) 3 := o_182 ob_L_village rfl rfl rfl rfl
theorem dL_village_7 : dc cL_village 7 8 .i2l 1 := o_133 ob_L_village rfl rfl rfl
theorem dL_village_8 : dc cL_village 8 9 .lastore 1 := o_80 ob_L_village rfl rfl rfl
theorem dL_village_9 : dc cL_village 9 12 (.goto 6) 3 := o_167 ob_L_village rfl rfl rfl rfl
theorem dL_village_12 : dc cL_village 12 13 (.astore_n 3) 1 := o_78 ob_L_village rfl rfl rfl
theorem dL_village_13 : dc cL_village 13 14 (.iconst 1) 1 := o_4 ob_L_village rfl rfl rfl
theorem dL_village_14 : dc cL_village 14 15 .ireturn 1 := o_172 ob_L_village rfl rfl rfl
theorem dL_village_15 : dc cL_village 15 16 (.iconst 0) 1 := o_3 ob_L_village rfl rfl rfl
theorem dL_village_16 : dc cL_village 16 17 .ireturn 1 := o_172 ob_L_village rfl rfl rfl
def F_LAW_village (x1 : Int32) (M : Mem) : Option (Int32 × Mem) :=
  hbind (F_KW_village x1 M) (fun E1 M1 => if E1 = "java/util/NoSuchElementException" then some ((1, M1)) else none) fun r1 M1 => if inb ((0 : Int32)) 1 then some ((0, mSL M1 121 ((0 : Int32)).toNatClampNeg r1.toInt64)) else none
set_option maxRecDepth 100000 in
set_option maxHeartbeats 4000000 in
theorem K_LAW_village (l : Launch) (g : GB) (htr : l.stackTraces = false) (x1 : Int32) (M : Mem) (rr : Int32) (MZ : Mem) (h : F_LAW_village x1 M = some (rr, MZ)) : CT l g yL_village (.codeWith yL_village cL_village 4 (some .int) [(0, 9, 12, 35)] :: wAll) { frames := 8, cells := 1, slots := 6, locals := 171 } [.ref (g.2.1 0), .int x1, .ref (g.2.1 121)] M (.inl (some (.int rr))) MZ := by
  refine CT.ofH [(0, .ref (g.2.1 0)), (1, .int x1), (2, .ref (g.2.1 121))] (by decide +kernel) (Nat.le_of_ble_eq_true rfl) rfl htr ?_
  intro p e s m args below meth c K hr htb
  skip
  obtain ⟨PHI, hPHI, h⟩ : ∃ PHI : Int32 × Mem → Prop, (∀ a, PHI a → a = (rr, MZ)) ∧ wpO (F_LAW_village x1 M) PHI := ⟨fun a => a = (rr, MZ), fun _ h => h, _, h, rfl⟩
  unfold F_LAW_village at h
  refine G_aload_n rfl 2 rfl K dL_village_0 ?_
  refine G_iconst (v := 0) rfl K dL_village_1 ?_
  refine G_aload_n rfl 0 rfl K dL_village_2 ?_
  refine G_iload_n rfl 1 rfl K dL_village_3 ?_
  obtain ⟨E1, M1, e1, h⟩ | ⟨r1, M1, e1, h⟩ := wpO_h h
  · by_cases hE0 : E1 = "java/util/NoSuchElementException"
    · subst hE0
      have h := wpO_t h rfl
      refine G_callXVt (ci := 11) [.int x1] [.int 0, .ref (g.2.1 121)] K dL_village_4 wv_1446 yd_X11_village (Nat.le_of_ble_eq_true rfl) (sh_0 _ _) rfl (by decide) (by decide) rfl rfl (Nat.le_of_ble_eq_true rfl) (K_KW_village l g htr x1 M _ _ e1) (G_catch [] (0, 9, 12, 35) [] K htb rfl (fun _ hz => absurd hz List.not_mem_nil) rfl (by decide) wd_893 (by decide) (fun q => ?_))
      refine G_astore_n rfl K dL_village_12 (Nat.le_of_ble_eq_true rfl) rfl ?_
      refine G_iconst (v := 1) rfl K dL_village_13 ?_
      cases hPHI _ (wpO_some h)
      exact G_iret K hr rfl dL_village_14 (Nat.le_of_ble_eq_true rfl) (Nat.le_of_ble_eq_true rfl) ⟨rfl, rfl⟩
    have h := wpO_f h hE0
    exact wpO_none h
  refine G_callXVi (ci := 11) [.int x1] [.int 0, .ref (g.2.1 121)] K dL_village_4 wv_1446 yd_X11_village (Nat.le_of_ble_eq_true rfl) (sh_0 _ _) rfl (by decide) (by decide) rfl rfl (Nat.le_of_ble_eq_true rfl) (K_KW_village l g htr x1 M _ _ e1) ?_
  refine G_i2l K dL_village_7 ?_
  obtain ⟨hin, h⟩ := wpO_g h
  refine G_last K dL_village_8 (Nat.le_of_ble_eq_true rfl) (sh_121 _) hin ?_
  refine G_goto (tgt := 15) K dL_village_9 (by decide) ?_
  refine G_iconst (v := 0) rfl K dL_village_15 ?_
  cases hPHI _ (wpO_some h)
  exact G_iret K hr rfl dL_village_16 (Nat.le_of_ble_eq_true rfl) (Nat.le_of_ble_eq_true rfl) ⟨rfl, rfl⟩
