def on_X7_at : Nat := 0xad2f1b0d00b42a0900a7090700a1be0d00b42a1b0c009b1b
theorem ob_X7_at : OKB cX7_at on_X7_at 24 := ⟨by decide +kernel, by decide +kernel⟩
theorem dX7_at_0 : dc cX7_at 0 1 (.iload_n 1) 1 := o_27 ob_X7_at rfl rfl rfl
theorem dX7_at_1 : dc cX7_at 1 4 (.ifCond .lt 12) 3 := o_155 ob_X7_at rfl rfl rfl rfl
theorem dX7_at_4 : dc cX7_at 4 5 (.iload_n 1) 1 := o_27 ob_X7_at rfl rfl rfl
theorem dX7_at_5 : dc cX7_at 5 6 (.aload_n 0) 1 := o_42 ob_X7_at rfl rfl rfl
theorem dX7_at_6 : dc cX7_at 6 9 (.getfield 13) 3 := o_180 ob_X7_at rfl rfl rfl rfl
theorem dX7_at_9 : dc cX7_at 9 10 .arraylength 1 := o_190 ob_X7_at rfl rfl rfl
theorem dX7_at_10 : dc cX7_at 10 13 (.if_icmp .lt 7) 3 := o_161 ob_X7_at rfl rfl rfl rfl
theorem dX7_at_13 : dc cX7_at 13 14 (.lconst 0) 1 := o_9 ob_X7_at rfl rfl rfl
theorem dX7_at_14 : dc cX7_at 14 17 (.goto 9) 3 := o_167 ob_X7_at rfl rfl rfl rfl
theorem dX7_at_17 : dc cX7_at 17 18 (.aload_n 0) 1 := o_42 ob_X7_at rfl rfl rfl
theorem dX7_at_18 : dc cX7_at 18 21 (.getfield 13) 3 := o_180 ob_X7_at rfl rfl rfl rfl
theorem dX7_at_21 : dc cX7_at 21 22 (.iload_n 1) 1 := o_27 ob_X7_at rfl rfl rfl
theorem dX7_at_22 : dc cX7_at 22 23 .laload 1 := o_47 ob_X7_at rfl rfl rfl
theorem dX7_at_23 : dc cX7_at 23 24 .lreturn 1 := o_173 ob_X7_at rfl rfl rfl
def F_Row_at (ba : Nat) (bn : Nat) (x1 : Int32) (M : Mem) : Option (Int64) :=
  if x1 < 0 then some 0 else if x1 < (nI bn) then if inb x1 bn then some (M.2 ba x1.toNatClampNeg) else none else some 0
set_option maxRecDepth 100000 in
set_option maxHeartbeats 4000000 in
theorem K_Row_at (l : Launch) (g : GB) (htr : l.stackTraces = false) (b ba bn : Nat) (hb : isRow b ba bn) (x1 : Int32) (M : Mem) (rr : Int64) (h : F_Row_at ba bn x1 M = some rr) : CT l g yX7_at (.code yX7_at cX7_at 2 (some .long) :: wAll) { frames := 0, cells := 0, slots := 0, locals := 0 } [.ref (g.2.1 b), .int x1] M (.inl (some (.long rr))) M := by
  refine CT.of [(0, .ref (g.2.1 b)), (1, .int x1)] (by decide +kernel) (Nat.le_of_ble_eq_true rfl) rfl htr ?_
  intro p e s m args below meth c K hr ht
  skip
  obtain ⟨PHI, hPHI, h⟩ : ∃ PHI : Int64 → Prop, (∀ a, PHI a → a = rr) ∧ wpO (F_Row_at ba bn x1 M) PHI := ⟨fun a => a = rr, fun _ h => h, _, h, rfl⟩
  unfold F_Row_at at h
  refine G_iload_n rfl 1 rfl K dX7_at_0 ?_
  refine G_if_lt (tgt := 13) K dX7_at_1 (by decide) (fun hc => ?_) (fun hc => ?_)
  · have h := wpO_t h hc
    refine G_lconst (v := 0) rfl K dX7_at_13 ?_
    refine G_goto (tgt := 23) K dX7_at_14 (by decide) ?_
    cases hPHI _ (wpO_some h)
    exact G_lret K hr dX7_at_23 (Nat.le_of_ble_eq_true rfl) (Nat.le_of_ble_eq_true rfl) ⟨rfl, rfl⟩
  · have h := wpO_f h hc
    refine G_iload_n rfl 1 rfl K dX7_at_4 ?_
    refine G_aload_n rfl 0 rfl K dX7_at_5 ?_
    refine G_get (ci := 7) (k := 0) K rfl in_X7 wd_51 rfl dX7_at_6 hb.1 (hb.2.2.1 _ _) (Nat.le_of_ble_eq_true rfl) rfl ?_
    refine G_alen (v := nI bn) 1 rfl rfl K dX7_at_9 hb.2.1 (hb.2.2.2 _ _) ?_
    refine G_icmp_lt (tgt := 17) K dX7_at_10 (by decide) (fun hc => ?_) (fun hc => ?_)
    · have h := wpO_t h hc
      refine G_aload_n rfl 0 rfl K dX7_at_17 ?_
      refine G_get (ci := 7) (k := 0) K rfl in_X7 wd_51 rfl dX7_at_18 hb.1 (hb.2.2.1 _ _) (Nat.le_of_ble_eq_true rfl) rfl ?_
      refine G_iload_n rfl 1 rfl K dX7_at_21 ?_
      obtain ⟨hin, h⟩ := wpO_g h
      refine G_lald K dX7_at_22 hb.2.1 (hb.2.2.2 _ _) hin ?_
      cases hPHI _ (wpO_some h)
      exact G_lret K hr dX7_at_23 (Nat.le_of_ble_eq_true rfl) (Nat.le_of_ble_eq_true rfl) ⟨rfl, rfl⟩
    · have h := wpO_f h hc
      refine G_lconst (v := 0) rfl K dX7_at_13 ?_
      refine G_goto (tgt := 23) K dX7_at_14 (by decide) ?_
      cases hPHI _ (wpO_some h)
      exact G_lret K hr dX7_at_23 (Nat.le_of_ble_eq_true rfl) (Nat.le_of_ble_eq_true rfl) ⟨rfl, rfl⟩
def on_X7_small : Nat := 0xac882f1b0d00b42a0a00a7030700a1be0d00b42a1b0c009b1b
theorem ob_X7_small : OKB cX7_small on_X7_small 25 := ⟨by decide +kernel, by decide +kernel⟩
theorem dX7_small_0 : dc cX7_small 0 1 (.iload_n 1) 1 := o_27 ob_X7_small rfl rfl rfl
theorem dX7_small_1 : dc cX7_small 1 4 (.ifCond .lt 12) 3 := o_155 ob_X7_small rfl rfl rfl rfl
theorem dX7_small_4 : dc cX7_small 4 5 (.iload_n 1) 1 := o_27 ob_X7_small rfl rfl rfl
theorem dX7_small_5 : dc cX7_small 5 6 (.aload_n 0) 1 := o_42 ob_X7_small rfl rfl rfl
theorem dX7_small_6 : dc cX7_small 6 9 (.getfield 13) 3 := o_180 ob_X7_small rfl rfl rfl rfl
theorem dX7_small_9 : dc cX7_small 9 10 .arraylength 1 := o_190 ob_X7_small rfl rfl rfl
theorem dX7_small_10 : dc cX7_small 10 13 (.if_icmp .lt 7) 3 := o_161 ob_X7_small rfl rfl rfl rfl
theorem dX7_small_13 : dc cX7_small 13 14 (.iconst 0) 1 := o_3 ob_X7_small rfl rfl rfl
theorem dX7_small_14 : dc cX7_small 14 17 (.goto 10) 3 := o_167 ob_X7_small rfl rfl rfl rfl
theorem dX7_small_17 : dc cX7_small 17 18 (.aload_n 0) 1 := o_42 ob_X7_small rfl rfl rfl
theorem dX7_small_18 : dc cX7_small 18 21 (.getfield 13) 3 := o_180 ob_X7_small rfl rfl rfl rfl
theorem dX7_small_21 : dc cX7_small 21 22 (.iload_n 1) 1 := o_27 ob_X7_small rfl rfl rfl
theorem dX7_small_22 : dc cX7_small 22 23 .laload 1 := o_47 ob_X7_small rfl rfl rfl
theorem dX7_small_23 : dc cX7_small 23 24 .l2i 1 := o_136 ob_X7_small rfl rfl rfl
theorem dX7_small_24 : dc cX7_small 24 25 .ireturn 1 := o_172 ob_X7_small rfl rfl rfl
def F_Row_small (ba : Nat) (bn : Nat) (x1 : Int32) (M : Mem) : Option (Int32) :=
  if x1 < 0 then some 0 else if x1 < (nI bn) then if inb x1 bn then some ((M.2 ba x1.toNatClampNeg).toInt32) else none else some 0
set_option maxRecDepth 100000 in
set_option maxHeartbeats 4000000 in
theorem K_Row_small (l : Launch) (g : GB) (htr : l.stackTraces = false) (b ba bn : Nat) (hb : isRow b ba bn) (x1 : Int32) (M : Mem) (rr : Int32) (h : F_Row_small ba bn x1 M = some rr) : CT l g yX7_small (.code yX7_small cX7_small 2 (some .int) :: wAll) { frames := 0, cells := 0, slots := 0, locals := 0 } [.ref (g.2.1 b), .int x1] M (.inl (some (.int rr))) M := by
  refine CT.of [(0, .ref (g.2.1 b)), (1, .int x1)] (by decide +kernel) (Nat.le_of_ble_eq_true rfl) rfl htr ?_
  intro p e s m args below meth c K hr ht
  skip
  obtain ⟨PHI, hPHI, h⟩ : ∃ PHI : Int32 → Prop, (∀ a, PHI a → a = rr) ∧ wpO (F_Row_small ba bn x1 M) PHI := ⟨fun a => a = rr, fun _ h => h, _, h, rfl⟩
  unfold F_Row_small at h
  refine G_iload_n rfl 1 rfl K dX7_small_0 ?_
  refine G_if_lt (tgt := 13) K dX7_small_1 (by decide) (fun hc => ?_) (fun hc => ?_)
  · have h := wpO_t h hc
    refine G_iconst (v := 0) rfl K dX7_small_13 ?_
    refine G_goto (tgt := 24) K dX7_small_14 (by decide) ?_
    cases hPHI _ (wpO_some h)
    exact G_iret K hr rfl dX7_small_24 (Nat.le_of_ble_eq_true rfl) (Nat.le_of_ble_eq_true rfl) ⟨rfl, rfl⟩
  · have h := wpO_f h hc
    refine G_iload_n rfl 1 rfl K dX7_small_4 ?_
    refine G_aload_n rfl 0 rfl K dX7_small_5 ?_
    refine G_get (ci := 7) (k := 0) K rfl in_X7 wd_51 rfl dX7_small_6 hb.1 (hb.2.2.1 _ _) (Nat.le_of_ble_eq_true rfl) rfl ?_
    refine G_alen (v := nI bn) 1 rfl rfl K dX7_small_9 hb.2.1 (hb.2.2.2 _ _) ?_
    refine G_icmp_lt (tgt := 17) K dX7_small_10 (by decide) (fun hc => ?_) (fun hc => ?_)
    · have h := wpO_t h hc
      refine G_aload_n rfl 0 rfl K dX7_small_17 ?_
      refine G_get (ci := 7) (k := 0) K rfl in_X7 wd_51 rfl dX7_small_18 hb.1 (hb.2.2.1 _ _) (Nat.le_of_ble_eq_true rfl) rfl ?_
      refine G_iload_n rfl 1 rfl K dX7_small_21 ?_
      obtain ⟨hin, h⟩ := wpO_g h
      refine G_lald K dX7_small_22 hb.2.1 (hb.2.2.2 _ _) hin ?_
      refine G_l2i K dX7_small_23 ?_
      cases hPHI _ (wpO_some h)
      exact G_iret K hr rfl dX7_small_24 (Nat.le_of_ble_eq_true rfl) (Nat.le_of_ble_eq_true rfl) ⟨rfl, rfl⟩
    · have h := wpO_f h hc
      refine G_iconst (v := 0) rfl K dX7_small_13 ?_
      refine G_goto (tgt := 24) K dX7_small_14 (by decide) ?_
      cases hPHI _ (wpO_some h)
      exact G_iret K hr rfl dX7_small_24 (Nat.le_of_ble_eq_true rfl) (Nat.le_of_ble_eq_true rfl) ⟨rfl, rfl⟩
def on_X7_put : Nat := 0xb150201b0d00b42a0a00a2be0d00b42a1b13009b1b
theorem ob_X7_put : OKB cX7_put on_X7_put 21 := ⟨by decide +kernel, by decide +kernel⟩
theorem dX7_put_0 : dc cX7_put 0 1 (.iload_n 1) 1 := o_27 ob_X7_put rfl rfl rfl
theorem dX7_put_1 : dc cX7_put 1 4 (.ifCond .lt 19) 3 := o_155 ob_X7_put rfl rfl rfl rfl
theorem dX7_put_4 : dc cX7_put 4 5 (.iload_n 1) 1 := o_27 ob_X7_put rfl rfl rfl
theorem dX7_put_5 : dc cX7_put 5 6 (.aload_n 0) 1 := o_42 ob_X7_put rfl rfl rfl
theorem dX7_put_6 : dc cX7_put 6 9 (.getfield 13) 3 := o_180 ob_X7_put rfl rfl rfl rfl
theorem dX7_put_9 : dc cX7_put 9 10 .arraylength 1 := o_190 ob_X7_put rfl rfl rfl
theorem dX7_put_10 : dc cX7_put 10 13 (.if_icmp .ge 10) 3 := o_162 ob_X7_put rfl rfl rfl rfl
theorem dX7_put_13 : dc cX7_put 13 14 (.aload_n 0) 1 := o_42 ob_X7_put rfl rfl rfl
theorem dX7_put_14 : dc cX7_put 14 17 (.getfield 13) 3 := o_180 ob_X7_put rfl rfl rfl rfl
theorem dX7_put_17 : dc cX7_put 17 18 (.iload_n 1) 1 := o_27 ob_X7_put rfl rfl rfl
theorem dX7_put_18 : dc cX7_put 18 19 (.lload_n 2) 1 := o_32 ob_X7_put rfl rfl rfl
theorem dX7_put_19 : dc cX7_put 19 20 .lastore 1 := o_80 ob_X7_put rfl rfl rfl
theorem dX7_put_20 : dc cX7_put 20 21 .return_ 1 := o_177 ob_X7_put rfl rfl rfl
def F_Row_put (ba : Nat) (bn : Nat) (x1 : Int32) (x2 : Int64) (M : Mem) : Option (Mem) :=
  if x1 < 0 then some M else if (nI bn) ≤ x1 then some M else if inb x1 bn then some (mSL M ba x1.toNatClampNeg x2) else none
set_option maxRecDepth 100000 in
set_option maxHeartbeats 4000000 in
theorem K_Row_put (l : Launch) (g : GB) (htr : l.stackTraces = false) (b ba bn : Nat) (hb : isRow b ba bn) (x1 : Int32) (x2 : Int64) (M : Mem) (MZ : Mem) (h : F_Row_put ba bn x1 x2 M = some MZ) : CT l g yX7_put (.code yX7_put cX7_put 4 none :: wAll) { frames := 0, cells := 0, slots := 0, locals := 0 } [.ref (g.2.1 b), .int x1, .long x2] M (.inl none) MZ := by
  refine CT.of [(0, .ref (g.2.1 b)), (1, .int x1), (2, .long x2)] (by decide +kernel) (Nat.le_of_ble_eq_true rfl) rfl htr ?_
  intro p e s m args below meth c K hr ht
  skip
  obtain ⟨PHI, hPHI, h⟩ : ∃ PHI : Mem → Prop, (∀ a, PHI a → a = MZ) ∧ wpO (F_Row_put ba bn x1 x2 M) PHI := ⟨fun a => a = MZ, fun _ h => h, _, h, rfl⟩
  unfold F_Row_put at h
  refine G_iload_n rfl 1 rfl K dX7_put_0 ?_
  refine G_if_lt (tgt := 20) K dX7_put_1 (by decide) (fun hc => ?_) (fun hc => ?_)
  · have h := wpO_t h hc
    cases hPHI _ (wpO_some h)
    exact G_vret K hr dX7_put_20 (Nat.le_of_ble_eq_true rfl) (Nat.le_of_ble_eq_true rfl) ⟨rfl, rfl⟩
  · have h := wpO_f h hc
    refine G_iload_n rfl 1 rfl K dX7_put_4 ?_
    refine G_aload_n rfl 0 rfl K dX7_put_5 ?_
    refine G_get (ci := 7) (k := 0) K rfl in_X7 wd_51 rfl dX7_put_6 hb.1 (hb.2.2.1 _ _) (Nat.le_of_ble_eq_true rfl) rfl ?_
    refine G_alen (v := nI bn) 1 rfl rfl K dX7_put_9 hb.2.1 (hb.2.2.2 _ _) ?_
    refine G_icmp_ge (tgt := 20) K dX7_put_10 (by decide) (fun hc => ?_) (fun hc => ?_)
    · have h := wpO_t h hc
      cases hPHI _ (wpO_some h)
      exact G_vret K hr dX7_put_20 (Nat.le_of_ble_eq_true rfl) (Nat.le_of_ble_eq_true rfl) ⟨rfl, rfl⟩
    · have h := wpO_f h hc
      refine G_aload_n rfl 0 rfl K dX7_put_13 ?_
      refine G_get (ci := 7) (k := 0) K rfl in_X7 wd_51 rfl dX7_put_14 hb.1 (hb.2.2.1 _ _) (Nat.le_of_ble_eq_true rfl) rfl ?_
      refine G_iload_n rfl 1 rfl K dX7_put_17 ?_
      refine G_lload_n rfl 2 rfl K dX7_put_18 ?_
      obtain ⟨hin, h⟩ := wpO_g h
      refine G_last K dX7_put_19 hb.2.1 (hb.2.2.2 _) hin ?_
      cases hPHI _ (wpO_some h)
      exact G_vret K hr dX7_put_20 (Nat.le_of_ble_eq_true rfl) (Nat.le_of_ble_eq_true rfl) ⟨rfl, rfl⟩
theorem yd_X7_at : ydN yX7_at 1 := ⟨by decide, by decide, by decide +kernel⟩
theorem yd_X7_put : ydN yX7_put 2 := ⟨by decide, by decide, by decide +kernel⟩
theorem wv_628 : wdV "KeptWell$Row" 19 yX7_at cX7_at 2 (some .long) := ⟨wd_628, wd_528, wd_529, wd_3, wd_530⟩
theorem wv_1097 : wdV "KeptWell$Row" 23 yX7_put cX7_put 4 none := ⟨wd_1097, wd_452, wd_453, wd_3, wd_454⟩
def on_X7_add : Nat := 0xb11700b661201300b61b2a1b2a
theorem ob_X7_add : OKB cX7_add on_X7_add 13 := ⟨by decide +kernel, by decide +kernel⟩
theorem dX7_add_0 : dc cX7_add 0 1 (.aload_n 0) 1 := o_42 ob_X7_add rfl rfl rfl
theorem dX7_add_1 : dc cX7_add 1 2 (.iload_n 1) 1 := o_27 ob_X7_add rfl rfl rfl
theorem dX7_add_2 : dc cX7_add 2 3 (.aload_n 0) 1 := o_42 ob_X7_add rfl rfl rfl
theorem dX7_add_3 : dc cX7_add 3 4 (.iload_n 1) 1 := o_27 ob_X7_add rfl rfl rfl
theorem dX7_add_4 : dc cX7_add 4 7 (.invokevirtual 19) 3 := o_182 ob_X7_add rfl rfl rfl rfl
theorem dX7_add_7 : dc cX7_add 7 8 (.lload_n 2) 1 := o_32 ob_X7_add rfl rfl rfl
theorem dX7_add_8 : dc cX7_add 8 9 .ladd 1 := o_97 ob_X7_add rfl rfl rfl
theorem dX7_add_9 : dc cX7_add 9 12 (.invokevirtual 23) 3 := o_182 ob_X7_add rfl rfl rfl rfl
theorem dX7_add_12 : dc cX7_add 12 13 .return_ 1 := o_177 ob_X7_add rfl rfl rfl
def F_Row_add (ba : Nat) (bn : Nat) (x1 : Int32) (x2 : Int64) (M : Mem) : Option (Mem) :=
  (F_Row_at ba bn x1 M).bind fun r1 => (F_Row_put ba bn x1 (r1 + x2) M).bind fun r2 => some r2
set_option maxRecDepth 100000 in
set_option maxHeartbeats 4000000 in
theorem K_Row_add (l : Launch) (g : GB) (htr : l.stackTraces = false) (b ba bn : Nat) (hb : isRow b ba bn) (x1 : Int32) (x2 : Int64) (M : Mem) (MZ : Mem) (h : F_Row_add ba bn x1 x2 M = some MZ) : CT l g yX7_add (.code yX7_add cX7_add 4 none :: wAll) { frames := 1, cells := 0, slots := 0, locals := 23 } [.ref (g.2.1 b), .int x1, .long x2] M (.inl none) MZ := by
  refine CT.of [(0, .ref (g.2.1 b)), (1, .int x1), (2, .long x2)] (by decide +kernel) (Nat.le_of_ble_eq_true rfl) rfl htr ?_
  intro p e s m args below meth c K hr ht
  skip
  obtain ⟨PHI, hPHI, h⟩ : ∃ PHI : Mem → Prop, (∀ a, PHI a → a = MZ) ∧ wpO (F_Row_add ba bn x1 x2 M) PHI := ⟨fun a => a = MZ, fun _ h => h, _, h, rfl⟩
  unfold F_Row_add at h
  refine G_aload_n rfl 0 rfl K dX7_add_0 ?_
  refine G_iload_n rfl 1 rfl K dX7_add_1 ?_
  refine G_aload_n rfl 0 rfl K dX7_add_2 ?_
  refine G_iload_n rfl 1 rfl K dX7_add_3 ?_
  obtain ⟨r1, e1, h⟩ := wpO_bind h
  refine G_callVl (ci := 7) [.int x1] [.int x1, .ref (g.2.1 b)] K dX7_add_4 wv_628 yd_X7_at hb.1 (hb.2.2.1 _ _) rfl (by decide) (by decide) rfl rfl (Nat.le_of_ble_eq_true rfl) (K_Row_at l g htr b ba bn hb x1 M _ e1) ?_
  refine G_lload_n rfl 2 rfl K dX7_add_7 ?_
  refine G_ladd K dX7_add_8 ?_
  obtain ⟨r2, e2, h⟩ := wpO_bind h
  refine G_callVv (ci := 7) [.int x1, .long (r1 + x2)] [] K dX7_add_9 wv_1097 yd_X7_put hb.1 (hb.2.2.1 _ _) rfl (by decide) (by decide) rfl rfl (Nat.le_of_ble_eq_true rfl) (K_Row_put l g htr b ba bn hb x1 (r1 + x2) M _ e2) ?_
  cases hPHI _ (wpO_some h)
  exact G_vret K hr dX7_add_12 (Nat.le_of_ble_eq_true rfl) (Nat.le_of_ble_eq_true rfl) ⟨rfl, rfl⟩
def on_X7_setAll : Nat := 0xb1edffa7010384501f1d0d00b42a1000a2be0d00b42a1d3e03
theorem ob_X7_setAll : OKB cX7_setAll on_X7_setAll 25 := ⟨by decide +kernel, by decide +kernel⟩
theorem dX7_setAll_0 : dc cX7_setAll 0 1 (.iconst 0) 1 := o_3 ob_X7_setAll rfl rfl rfl
theorem dX7_setAll_1 : dc cX7_setAll 1 2 (.istore_n 3) 1 := o_62 ob_X7_setAll rfl rfl rfl
theorem dX7_setAll_2 : dc cX7_setAll 2 3 (.iload_n 3) 1 := o_29 ob_X7_setAll rfl rfl rfl
theorem dX7_setAll_3 : dc cX7_setAll 3 4 (.aload_n 0) 1 := o_42 ob_X7_setAll rfl rfl rfl
theorem dX7_setAll_4 : dc cX7_setAll 4 7 (.getfield 13) 3 := o_180 ob_X7_setAll rfl rfl rfl rfl
theorem dX7_setAll_7 : dc cX7_setAll 7 8 .arraylength 1 := o_190 ob_X7_setAll rfl rfl rfl
theorem dX7_setAll_8 : dc cX7_setAll 8 11 (.if_icmp .ge 16) 3 := o_162 ob_X7_setAll rfl rfl rfl rfl
theorem dX7_setAll_11 : dc cX7_setAll 11 12 (.aload_n 0) 1 := o_42 ob_X7_setAll rfl rfl rfl
theorem dX7_setAll_12 : dc cX7_setAll 12 15 (.getfield 13) 3 := o_180 ob_X7_setAll rfl rfl rfl rfl
theorem dX7_setAll_15 : dc cX7_setAll 15 16 (.iload_n 3) 1 := o_29 ob_X7_setAll rfl rfl rfl
theorem dX7_setAll_16 : dc cX7_setAll 16 17 (.lload_n 1) 1 := o_31 ob_X7_setAll rfl rfl rfl
theorem dX7_setAll_17 : dc cX7_setAll 17 18 .lastore 1 := o_80 ob_X7_setAll rfl rfl rfl
theorem dX7_setAll_18 : dc cX7_setAll 18 21 (.iinc 3 1) 3 := o_132 ob_X7_setAll rfl rfl rfl rfl rfl
theorem dX7_setAll_21 : dc cX7_setAll 21 24 (.goto (-19)) 3 := o_167 ob_X7_setAll rfl rfl rfl rfl
theorem dX7_setAll_24 : dc cX7_setAll 24 25 .return_ 1 := o_177 ob_X7_setAll rfl rfl rfl
def F_Row_setAll_b2 (ba : Nat) (bn : Nat) (x1 : Int64) (z : Int32 × Mem) : Option ((Int32 × Mem) ⊕ ((Mem))) :=
  if (nI bn) ≤ z.1 then some (.inr z.2) else if inb z.1 bn then some (.inl ((z.1 + 1, mSL z.2 ba z.1.toNatClampNeg x1))) else none
def F_Row_setAll_l2 (ba : Nat) (bn : Nat) (x1 : Int64) (x3 : Int32) (M : Mem) : Option (Mem) :=
  (iter (F_Row_setAll_b2 ba bn x1) FUEL (x3, M)).bind fun r => some r
def F_Row_setAll (ba : Nat) (bn : Nat) (x1 : Int64) (M : Mem) : Option (Mem) :=
  F_Row_setAll_l2 ba bn x1 0 M
set_option maxRecDepth 100000 in
set_option maxHeartbeats 4000000 in
theorem K_Row_setAll (l : Launch) (g : GB) (htr : l.stackTraces = false) (b ba bn : Nat) (hb : isRow b ba bn) (x1 : Int64) (M : Mem) (MZ : Mem) (h : F_Row_setAll ba bn x1 M = some MZ) : CT l g yX7_setAll (.code yX7_setAll cX7_setAll 4 none :: wAll) { frames := 0, cells := 0, slots := 0, locals := 0 } [.ref (g.2.1 b), .long x1] M (.inl none) MZ := by
  refine CT.of [(0, .ref (g.2.1 b)), (1, .long x1)] (by decide +kernel) (Nat.le_of_ble_eq_true rfl) rfl htr ?_
  intro p e s m args below meth c K hr ht
  skip
  obtain ⟨PHI, hPHI, h⟩ : ∃ PHI : Mem → Prop, (∀ a, PHI a → a = MZ) ∧ wpO (F_Row_setAll ba bn x1 M) PHI := ⟨fun a => a = MZ, fun _ h => h, _, h, rfl⟩
  have J2 : ∀ (x1 : Int64) (x3 : Int32) (M : Mem), wpO (F_Row_setAll_l2 ba bn x1 x3 M) PHI → GG p l e { frames := 0, cells := 0, slots := 0, locals := 0 } s m args below meth c g 4 (vx_MQ below (Qn g s.heap.size (.inl none) MZ) (QX g s.heap.size (.inl none) MZ) args s 0 0 (AS g s.heap.size)) 0 0 2 [(0, .ref (g.2.1 b)), (1, .long x1), (3, .int x3)] [] M := by
    intro x1 x3 M h
    unfold F_Row_setAll_l2 at h
    refine loop_C2 (G := fun (x3 : Int32) (M : Mem) => GG p l e { frames := 0, cells := 0, slots := 0, locals := 0 } s m args below meth c g 4 (vx_MQ below (Qn g s.heap.size (.inl none) MZ) (QX g s.heap.size (.inl none) MZ) args s 0 0 (AS g s.heap.size)) 0 0 2 [(0, .ref (g.2.1 b)), (1, .long x1), (3, .int x3)] [] M) (body := F_Row_setAll_b2 ba bn x1) ?_ FUEL _ _ (wpO_bind h)
    intro P2 E2 X2
    intro z h
    unfold F_Row_setAll_b2 at h
    refine G_iload_n rfl 2 rfl K dX7_setAll_2 ?_
    refine G_aload_n rfl 0 rfl K dX7_setAll_3 ?_
    refine G_get (ci := 7) (k := 0) K rfl in_X7 wd_51 rfl dX7_setAll_4 hb.1 (hb.2.2.1 _ _) (Nat.le_of_ble_eq_true rfl) rfl ?_
    refine G_alen (v := nI bn) 1 rfl rfl K dX7_setAll_7 hb.2.1 (hb.2.2.2 _ _) ?_
    refine G_icmp_ge (tgt := 24) K dX7_setAll_8 (by decide) (fun hc => ?_) (fun hc => ?_)
    · have h := wpO_t h hc
      have h := X2 _ (wpO_some h)
      try dsimp only at h
      cases hPHI _ (wpO_some h)
      exact G_vret K hr dX7_setAll_24 (Nat.le_of_ble_eq_true rfl) (Nat.le_of_ble_eq_true rfl) ⟨rfl, rfl⟩
    · have h := wpO_f h hc
      refine G_aload_n rfl 0 rfl K dX7_setAll_11 ?_
      refine G_get (ci := 7) (k := 0) K rfl in_X7 wd_51 rfl dX7_setAll_12 hb.1 (hb.2.2.1 _ _) (Nat.le_of_ble_eq_true rfl) rfl ?_
      refine G_iload_n rfl 2 rfl K dX7_setAll_15 ?_
      refine G_lload_n rfl 1 rfl K dX7_setAll_16 ?_
      obtain ⟨hin, h⟩ := wpO_g h
      refine G_last K dX7_setAll_17 hb.2.1 (hb.2.2.2 _) hin ?_
      refine G_iinc (v := z.1 + 1) 2 rfl K dX7_setAll_18 rfl (Nat.le_of_ble_eq_true rfl) rfl ?_
      refine G_goto (tgt := 2) K dX7_setAll_21 (by decide) ?_
      exact G_lv (lv' := [(0, .ref (g.2.1 b)), (1, .long x1), (3, .int (z.1 + 1))]) [1, 2, 0] rfl (E2 (z.1 + 1) (mSL z.2 ba z.1.toNatClampNeg x1) (wpO_some h))
  unfold F_Row_setAll at h
  refine G_iconst (v := 0) rfl K dX7_setAll_0 ?_
  refine G_istore_n rfl K dX7_setAll_1 (Nat.le_of_ble_eq_true rfl) rfl ?_
  exact G_lv (lv' := [(0, .ref (g.2.1 b)), (1, .long x1), (3, .int 0)]) [1, 2, 0] rfl (J2 x1 0 M h)
def on_X7_takeFrom : Nat := 0xb1e9ffa7010284501300b61c2b1c0d00b42a1400a2be0d00b42a1c3d03
theorem ob_X7_takeFrom : OKB cX7_takeFrom on_X7_takeFrom 29 := ⟨by decide +kernel, by decide +kernel⟩
theorem dX7_takeFrom_0 : dc cX7_takeFrom 0 1 (.iconst 0) 1 := o_3 ob_X7_takeFrom rfl rfl rfl
theorem dX7_takeFrom_1 : dc cX7_takeFrom 1 2 (.istore_n 2) 1 := o_61 ob_X7_takeFrom rfl rfl rfl
theorem dX7_takeFrom_2 : dc cX7_takeFrom 2 3 (.iload_n 2) 1 := o_28 ob_X7_takeFrom rfl rfl rfl
theorem dX7_takeFrom_3 : dc cX7_takeFrom 3 4 (.aload_n 0) 1 := o_42 ob_X7_takeFrom rfl rfl rfl
theorem dX7_takeFrom_4 : dc cX7_takeFrom 4 7 (.getfield 13) 3 := o_180 ob_X7_takeFrom rfl rfl rfl rfl
theorem dX7_takeFrom_7 : dc cX7_takeFrom 7 8 .arraylength 1 := o_190 ob_X7_takeFrom rfl rfl rfl
theorem dX7_takeFrom_8 : dc cX7_takeFrom 8 11 (.if_icmp .ge 20) 3 := o_162 ob_X7_takeFrom rfl rfl rfl rfl
theorem dX7_takeFrom_11 : dc cX7_takeFrom 11 12 (.aload_n 0) 1 := o_42 ob_X7_takeFrom rfl rfl rfl
theorem dX7_takeFrom_12 : dc cX7_takeFrom 12 15 (.getfield 13) 3 := o_180 ob_X7_takeFrom rfl rfl rfl rfl
theorem dX7_takeFrom_15 : dc cX7_takeFrom 15 16 (.iload_n 2) 1 := o_28 ob_X7_takeFrom rfl rfl rfl
theorem dX7_takeFrom_16 : dc cX7_takeFrom 16 17 (.aload_n 1) 1 := o_43 ob_X7_takeFrom rfl rfl rfl
theorem dX7_takeFrom_17 : dc cX7_takeFrom 17 18 (.iload_n 2) 1 := o_28 ob_X7_takeFrom rfl rfl rfl
theorem dX7_takeFrom_18 : dc cX7_takeFrom 18 21 (.invokevirtual 19) 3 := o_182 ob_X7_takeFrom rfl rfl rfl rfl
theorem dX7_takeFrom_21 : dc cX7_takeFrom 21 22 .lastore 1 := o_80 ob_X7_takeFrom rfl rfl rfl
theorem dX7_takeFrom_22 : dc cX7_takeFrom 22 25 (.iinc 2 1) 3 := o_132 ob_X7_takeFrom rfl rfl rfl rfl rfl
theorem dX7_takeFrom_25 : dc cX7_takeFrom 25 28 (.goto (-23)) 3 := o_167 ob_X7_takeFrom rfl rfl rfl rfl
theorem dX7_takeFrom_28 : dc cX7_takeFrom 28 29 .return_ 1 := o_177 ob_X7_takeFrom rfl rfl rfl
def F_Row_takeFrom_b2 (ba : Nat) (bn : Nat) (o1a : Nat) (o1n : Nat) (z : Int32 × Mem) : Option ((Int32 × Mem) ⊕ ((Mem))) :=
  if (nI bn) ≤ z.1 then some (.inr z.2) else (F_Row_at o1a o1n z.1 z.2).bind fun r1 => if inb z.1 bn then some (.inl ((z.1 + 1, mSL z.2 ba z.1.toNatClampNeg r1))) else none
def F_Row_takeFrom_l2 (ba : Nat) (bn : Nat) (o1a : Nat) (o1n : Nat) (x2 : Int32) (M : Mem) : Option (Mem) :=
  (iter (F_Row_takeFrom_b2 ba bn o1a o1n) FUEL (x2, M)).bind fun r => some r
def F_Row_takeFrom (ba : Nat) (bn : Nat) (o1a : Nat) (o1n : Nat) (M : Mem) : Option (Mem) :=
  F_Row_takeFrom_l2 ba bn o1a o1n 0 M
set_option maxRecDepth 100000 in
set_option maxHeartbeats 4000000 in
theorem K_Row_takeFrom (l : Launch) (g : GB) (htr : l.stackTraces = false) (b ba bn : Nat) (o1 o1a o1n : Nat) (hb : isRow b ba bn) (ho1 : isRow o1 o1a o1n) (M : Mem) (MZ : Mem) (h : F_Row_takeFrom ba bn o1a o1n M = some MZ) : CT l g yX7_takeFrom (.code yX7_takeFrom cX7_takeFrom 3 none :: wAll) { frames := 1, cells := 0, slots := 0, locals := 21 } [.ref (g.2.1 b), .ref (g.2.1 o1)] M (.inl none) MZ := by
  refine CT.of [(0, .ref (g.2.1 b)), (1, .ref (g.2.1 o1))] (by decide +kernel) (Nat.le_of_ble_eq_true rfl) rfl htr ?_
  intro p e s m args below meth c K hr ht
  skip
  obtain ⟨PHI, hPHI, h⟩ : ∃ PHI : Mem → Prop, (∀ a, PHI a → a = MZ) ∧ wpO (F_Row_takeFrom ba bn o1a o1n M) PHI := ⟨fun a => a = MZ, fun _ h => h, _, h, rfl⟩
  have J2 : ∀ (x2 : Int32) (M : Mem), wpO (F_Row_takeFrom_l2 ba bn o1a o1n x2 M) PHI → GG p l e { frames := 1, cells := 0, slots := 0, locals := 21 } s m args below meth c g 3 (vx_MQ below (Qn g s.heap.size (.inl none) MZ) (QX g s.heap.size (.inl none) MZ) args s 0 0 (AS g s.heap.size)) 0 0 2 [(0, .ref (g.2.1 b)), (1, .ref (g.2.1 o1)), (2, .int x2)] [] M := by
    intro x2 M h
    unfold F_Row_takeFrom_l2 at h
    refine loop_C2 (G := fun (x2 : Int32) (M : Mem) => GG p l e { frames := 1, cells := 0, slots := 0, locals := 21 } s m args below meth c g 3 (vx_MQ below (Qn g s.heap.size (.inl none) MZ) (QX g s.heap.size (.inl none) MZ) args s 0 0 (AS g s.heap.size)) 0 0 2 [(0, .ref (g.2.1 b)), (1, .ref (g.2.1 o1)), (2, .int x2)] [] M) (body := F_Row_takeFrom_b2 ba bn o1a o1n) ?_ FUEL _ _ (wpO_bind h)
    intro P2 E2 X2
    intro z h
    unfold F_Row_takeFrom_b2 at h
    refine G_iload_n rfl 2 rfl K dX7_takeFrom_2 ?_
    refine G_aload_n rfl 0 rfl K dX7_takeFrom_3 ?_
    refine G_get (ci := 7) (k := 0) K rfl in_X7 wd_51 rfl dX7_takeFrom_4 hb.1 (hb.2.2.1 _ _) (Nat.le_of_ble_eq_true rfl) rfl ?_
    refine G_alen (v := nI bn) 1 rfl rfl K dX7_takeFrom_7 hb.2.1 (hb.2.2.2 _ _) ?_
    refine G_icmp_ge (tgt := 28) K dX7_takeFrom_8 (by decide) (fun hc => ?_) (fun hc => ?_)
    · have h := wpO_t h hc
      have h := X2 _ (wpO_some h)
      try dsimp only at h
      cases hPHI _ (wpO_some h)
      exact G_vret K hr dX7_takeFrom_28 (Nat.le_of_ble_eq_true rfl) (Nat.le_of_ble_eq_true rfl) ⟨rfl, rfl⟩
    · have h := wpO_f h hc
      refine G_aload_n rfl 0 rfl K dX7_takeFrom_11 ?_
      refine G_get (ci := 7) (k := 0) K rfl in_X7 wd_51 rfl dX7_takeFrom_12 hb.1 (hb.2.2.1 _ _) (Nat.le_of_ble_eq_true rfl) rfl ?_
      refine G_iload_n rfl 2 rfl K dX7_takeFrom_15 ?_
      refine G_aload_n rfl 1 rfl K dX7_takeFrom_16 ?_
      refine G_iload_n rfl 2 rfl K dX7_takeFrom_17 ?_
      obtain ⟨r1, e1, h⟩ := wpO_bind h
      refine G_callVl (ci := 7) [.int z.1] [.int z.1, .ref (g.2.1 ba)] K dX7_takeFrom_18 wv_628 yd_X7_at ho1.1 (ho1.2.2.1 _ _) rfl (by decide) (by decide) rfl rfl (Nat.le_of_ble_eq_true rfl) (K_Row_at l g htr o1 o1a o1n ho1 z.1 z.2 _ e1) ?_
      obtain ⟨hin, h⟩ := wpO_g h
      refine G_last K dX7_takeFrom_21 hb.2.1 (hb.2.2.2 _) hin ?_
      refine G_iinc (v := z.1 + 1) 2 rfl K dX7_takeFrom_22 rfl (Nat.le_of_ble_eq_true rfl) rfl ?_
      refine G_goto (tgt := 2) K dX7_takeFrom_25 (by decide) ?_
      exact G_lv (lv' := [(0, .ref (g.2.1 b)), (1, .ref (g.2.1 o1)), (2, .int (z.1 + 1))]) [1, 2, 0] rfl (E2 (z.1 + 1) (mSL z.2 ba z.1.toNatClampNeg r1) (wpO_some h))
  unfold F_Row_takeFrom at h
  refine G_iconst (v := 0) rfl K dX7_takeFrom_0 ?_
  refine G_istore_n rfl K dX7_takeFrom_1 (Nat.le_of_ble_eq_true rfl) rfl ?_
  exact G_lv (lv' := [(0, .ref (g.2.1 b)), (1, .ref (g.2.1 o1)), (2, .int 0)]) [1, 2, 0] rfl (J2 0 M h)
