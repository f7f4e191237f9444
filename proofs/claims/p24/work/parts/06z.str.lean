/-! ===== texts: String.length, charAt over the three literals of either class ===== -/
def isStr (sb w : Nat) : Prop := (sb = 0 ∨ sb = 6) ∧ w < 3
def strC (w j : Nat) : Int32 := ((((strB.getD w []).getD j 0) &&& 255).toUInt32 % 65536).toInt32
theorem strC_nar : ∀ w, w < 3 → ∀ j, j < 5 → narrow .char (.int (strC w j)) = .int (strC w j) := by decide +kernel
theorem strL_lt : ∀ w, w < 3 → strL.getD w 0 < 5 := by decide
def F_String_length (w : Nat) (M : Mem) : Option Int32 := some (nI (strL.getD w 0))
def F_String_charAt (w : Nat) (x1 : Int32) (M : Mem) : Option Int32 := if inb x1 (strL.getD w 0) then some (strC w x1.toNatClampNeg) else none
theorem isStr_0_0 : isStr 0 0 := ⟨Or.inl rfl, by decide⟩
theorem isStr_0_1 : isStr 0 1 := ⟨Or.inl rfl, by decide⟩
theorem isStr_0_2 : isStr 0 2 := ⟨Or.inl rfl, by decide⟩
theorem isStr_6_0 : isStr 6 0 := ⟨Or.inr rfl, by decide⟩
theorem isStr_6_1 : isStr 6 1 := ⟨Or.inr rfl, by decide⟩
theorem isStr_6_2 : isStr 6 2 := ⟨Or.inr rfl, by decide⟩
section GS
variable {p : Program} {l : Launch} {e : Env} {R : Room} {s : State} {m : MethodId} {args : Array Value} {below : List Frame} {meth : Method} {c : Code} {g : GB} {nL : Nat} {Q : State → Prop} {cells slots : Nat}
variable {cc : ByteArray} {own : String} {pc pc' : Nat} {lv lv' : List (Nat × Value)} {rest : List Value} {M : Mem}
theorem G_gets {C n d : String} {v : Value} {index : Nat} (K : KF p l s m args meth c g cc nL own) (hZ : va_Z C n d v (AS g s.heap.size) s s.heap) (hl : Cond.fieldLink own index C n d ∈ wAll) (d0 : dc cc pc pc' (.getstatic index) 3) (k : GG p l e R s m args below meth c g nL Q cells slots pc' lv (v :: rest) M) : GG p l e R s m args below meth c g nL Q cells slots pc lv rest M := by
  obtain ⟨d0, rfl⟩ := d0
  exact fun H locs ls hP hS hl2 => va_gets K.1.1 K.1.2.1 hZ hS K.1.2.2.2.1 (K.1.2.2.2.2 _ hl) (fun x hx => hx) d0 (k H locs ls hP hS hl2)
theorem G_getO {n d o : String} {v : Value} {index q : Nat} (K : KF p l s m args meth c g cc nL own) (hE : va_OF o n d v q (AS g s.heap.size) s s.heap) (hl : Cond.fieldLink own index o n d ∈ wAll) (d0 : dc cc pc pc' (.getfield index) 3) (k : GG p l e R s m args below meth c g nL Q cells slots pc' lv (v :: rest) M) : GG p l e R s m args below meth c g nL Q cells slots pc lv (.ref q :: rest) M := by
  obtain ⟨d0, rfl⟩ := d0
  exact fun H locs ls hP hS hl2 => vk_getf K.1.1 K.1.2.1 hE hS K.1.2.2.2.1 (K.1.2.2.2.2 _ hl) (fun x hx => hx) d0 (k H locs ls hP hS hl2)
theorem G_tlen {ty : FieldType} {t N : Nat} {f : Nat → Value} (K : KF p l s m args meth c g cc nL own) (hT : va_T ty t N f (AS g s.heap.size) s s.heap) (d0 : dc cc pc pc' .arraylength 1) (k : GG p l e R s m args below meth c g nL Q cells slots pc' lv (.int (nI N) :: rest) M) : GG p l e R s m args below meth c g nL Q cells slots pc lv (.ref t :: rest) M := by
  obtain ⟨d0, rfl⟩ := d0
  exact fun H locs ls hP hS hl2 => va_tlen K.1.1 K.1.2.1 hT hS rfl d0 (k H locs ls hP hS hl2)
theorem G_tb {t N : Nat} {f : Nat → Value} {i : Int32} (K : KF p l s m args meth c g cc nL own) (hT : va_T .byte t N f (AS g s.heap.size) s s.heap) (hin : vp_in i N) (d0 : dc cc pc pc' .baload 1) (k : GG p l e R s m args below meth c g nL Q cells slots pc' lv (f i.toNatClampNeg :: rest) M) : GG p l e R s m args below meth c g nL Q cells slots pc lv (.int i :: .ref t :: rest) M := by
  obtain ⟨d0, rfl⟩ := d0
  exact fun H locs ls hP hS hl2 => va_tb K.1.1 K.1.2.1 hT hS hin rfl d0 (k H locs ls hP hS hl2)
theorem G_i2c {x v : Int32} (K : KF p l s m args meth c g cc nL own) (d : dc cc pc pc' .i2c 1) (hv : (x.toUInt32 % 65536).toInt32 = v) (k : GG p l e R s m args below meth c g nL Q cells slots pc' lv (.int v :: rest) M) : GG p l e R s m args below meth c g nL Q cells slots pc lv (.int x :: rest) M := by
  obtain ⟨d, rfl⟩ := d
  exact fun H locs ls hP hS hl => lv_i2c K.1.1 K.1.2.1 d hv (k H locs ls hP hS hl)
theorem G_ldcS {tx : String} {index q : Nat} (K : KF p l s m args meth c g cc nL own) (hZ : vk_R own index tx q s) (d : dc cc pc pc' (.ldc index) 2) (k : GG p l e R s m args below meth c g nL Q cells slots pc' lv (.ref q :: rest) M) : GG p l e R s m args below meth c g nL Q cells slots pc lv rest M := by
  obtain ⟨d, rfl⟩ := d
  exact fun H locs ls hP hS hl => va_ldcS K.1.1 K.1.2.1 K.1.2.2.2.1 hZ d (k H locs ls hP hS hl)
theorem str_O {sb w : Nat} (hs : isStr sb w) (h : Sta g s.heap.size s s.heap) : va_O "java/lang/String" (g.2.1 (NC + sb + w)) (AS g s.heap.size) s s.heap ∧ va_OF "java/lang/String" "coder" "B" (.int 0) (g.2.1 (NC + sb + w)) (AS g s.heap.size) s s.heap ∧ va_OF "java/lang/String" "value" "[B" (.ref (g.2.1 (NC + sb + 3 + w))) (g.2.1 (NC + sb + w)) (AS g s.heap.size) s s.heap ∧ va_T .byte (g.2.1 (NC + sb + 3 + w)) (strL.getD w 0) (fun j => .int ((strB.getD w []).getD j 0)) (AS g s.heap.size) s s.heap := by
  obtain ⟨hs, hw⟩ := hs
  rcases hs with rfl | rfl
  · exact h.2.1.1.1 w hw
  · exact h.2.1.2.1 w hw
theorem str_recv {sb w : Nat} {H : Heap} {locs : List Loc} (hs : isStr sb w) (h : Sta g s.heap.size s s.heap) (hS : va_S (AS g s.heap.size) s.heap H locs) : ∃ cell : Cell, H[g.2.1 (NC + sb + w)]? = some cell ∧ cell.vm.isStatics = false ∧ s.vm.findClass "java/lang/String" = some cell.cls := by
  obtain ⟨hs, hw⟩ := hs
  rcases hs with rfl | rfl
  · exact vk_recv (i := w) h.2.1.1 hw hS
  · exact vk_recv (i := w) h.2.1.2 hw hS
theorem G_callO {q idx nl n : Nat} {y : MethodName} {b : ByteArray} {ret : Option FieldType} {fr lo : Nat} (As rest : List Value) {st : List Value} {x : Int32} {M' : Mem} (K : KF p l s m args meth c g cc nL own) (d : dc cc pc pc' (.invokevirtual idx) 3) (hw : wdV own idx y b nl ret) (hd : ydN y n)
    (hrec : ∀ (H : Heap) (locs : List Loc), va_S (AS g s.heap.size) s.heap H locs → ∃ cell : Cell, H[q]? = some cell ∧ cell.vm.isStatics = false ∧ s.vm.findClass y.cls = some cell.cls) (hR : fr + 1 ≤ R.frames ∧ 8 + (nl + 11) + lo ≤ R.locals) (hcs : cells ≤ R.cells ∧ slots ≤ R.slots) (hn : As.length = n) (hst : st = As.reverse ++ .ref q :: rest) (hW : (rest.map fun v => v.category).sum ≤ 8)
    (hC : CT l g y (.code y b nl ret :: wAll) { frames := fr, cells := 0, slots := 0, locals := lo } (.ref q :: As) M (.inl (some (.int x))) M') (kk : GG p l e R s m args below meth c g nL Q cells slots pc' lv (.int x :: rest) M') : GG p l e R s m args below meth c g nL Q cells slots pc lv st M := by
  obtain ⟨d, rfl⟩ := d
  intro H locs ls hP hS hl
  exact run_G (y := y) (ws := .code y b nl ret :: wAll) (As := As) (a := (Value.ref q :: As).toArray) (rm := { frames := fr, cells := 0, slots := 0, locals := lo }) K hS hl (vx_runV K.1 (hC H.size) ⟨cwB (n := n) K hw.1 hw.2.2.2.1 hw.2.2.2.2 hd hR, K.1.2.2.2.2 _ hw.2.1, K.1.2.2.2.2 _ hw.2.2.1⟩ ⟨Pic.blind, hrec H locs hS, fun U hU hW => ⟨rfl, Pic.of K hP hS hU hW⟩⟩ rfl hn hl.1 hst (lv_room hW) d hcs) (fun E h => nomatch h) (fun v' h => by cases h; exact kk)
end GS
theorem dJ0_coder_7d493_0 : dc cJ0_coder_7d493 0 3 (.getstatic 38) 3 := ⟨by decide +kernel, rfl⟩
theorem dJ0_coder_7d493_3 : dc cJ0_coder_7d493 3 6 (.ifCond .eq 10) 3 := ⟨by decide +kernel, rfl⟩
theorem dJ0_coder_7d493_6 : dc cJ0_coder_7d493 6 7 (.aload_n 0) 1 := ⟨by decide +kernel, rfl⟩
theorem dJ0_coder_7d493_7 : dc cJ0_coder_7d493 7 10 (.getfield 15) 3 := ⟨by decide +kernel, rfl⟩
theorem dJ0_coder_7d493_10 : dc cJ0_coder_7d493 10 13 (.goto 4) 3 := ⟨by decide +kernel, rfl⟩
theorem dJ0_coder_7d493_13 : dc cJ0_coder_7d493 13 14 (.iconst 1) 1 := ⟨by decide +kernel, rfl⟩
theorem dJ0_coder_7d493_14 : dc cJ0_coder_7d493 14 15 .ireturn 1 := ⟨by decide +kernel, rfl⟩
theorem dJ0_length_8abf5_0 : dc cJ0_length_8abf5 0 1 (.aload_n 0) 1 := ⟨by decide +kernel, rfl⟩
theorem dJ0_length_8abf5_1 : dc cJ0_length_8abf5 1 4 (.getfield 9) 3 := ⟨by decide +kernel, rfl⟩
theorem dJ0_length_8abf5_4 : dc cJ0_length_8abf5 4 5 .arraylength 1 := ⟨by decide +kernel, rfl⟩
theorem dJ0_length_8abf5_5 : dc cJ0_length_8abf5 5 6 (.aload_n 0) 1 := ⟨by decide +kernel, rfl⟩
theorem dJ0_length_8abf5_6 : dc cJ0_length_8abf5 6 9 (.invokevirtual 335) 3 := ⟨by decide +kernel, rfl⟩
theorem dJ0_length_8abf5_9 : dc cJ0_length_8abf5 9 10 .ishr 1 := ⟨by decide +kernel, rfl⟩
theorem dJ0_length_8abf5_10 : dc cJ0_length_8abf5 10 11 .ireturn 1 := ⟨by decide +kernel, rfl⟩
theorem dJ0_charAt_5068e_0 : dc cJ0_charAt_5068e 0 1 (.aload_n 0) 1 := ⟨by decide +kernel, rfl⟩
theorem dJ0_charAt_5068e_1 : dc cJ0_charAt_5068e 1 4 (.invokevirtual 492) 3 := ⟨by decide +kernel, rfl⟩
theorem dJ0_charAt_5068e_4 : dc cJ0_charAt_5068e 4 7 (.ifCond .eq 12) 3 := ⟨by decide +kernel, rfl⟩
theorem dJ0_charAt_5068e_7 : dc cJ0_charAt_5068e 7 8 (.aload_n 0) 1 := ⟨by decide +kernel, rfl⟩
theorem dJ0_charAt_5068e_8 : dc cJ0_charAt_5068e 8 11 (.getfield 9) 3 := ⟨by decide +kernel, rfl⟩
theorem dJ0_charAt_5068e_11 : dc cJ0_charAt_5068e 11 12 (.iload_n 1) 1 := ⟨by decide +kernel, rfl⟩
theorem dJ0_charAt_5068e_12 : dc cJ0_charAt_5068e 12 15 (.invokestatic 495) 3 := ⟨by decide +kernel, rfl⟩
theorem dJ0_charAt_5068e_15 : dc cJ0_charAt_5068e 15 16 .ireturn 1 := ⟨by decide +kernel, rfl⟩
theorem dJ0_charAt_5068e_16 : dc cJ0_charAt_5068e 16 17 (.aload_n 0) 1 := ⟨by decide +kernel, rfl⟩
theorem dJ0_charAt_5068e_17 : dc cJ0_charAt_5068e 17 20 (.getfield 9) 3 := ⟨by decide +kernel, rfl⟩
theorem dJ0_charAt_5068e_20 : dc cJ0_charAt_5068e 20 21 (.iload_n 1) 1 := ⟨by decide +kernel, rfl⟩
theorem dJ0_charAt_5068e_21 : dc cJ0_charAt_5068e 21 24 (.invokestatic 498) 3 := ⟨by decide +kernel, rfl⟩
theorem dJ0_charAt_5068e_24 : dc cJ0_charAt_5068e 24 25 .ireturn 1 := ⟨by decide +kernel, rfl⟩
theorem dJ0_isLatin1_aae02_0 : dc cJ0_isLatin1_aae02 0 3 (.getstatic 38) 3 := ⟨by decide +kernel, rfl⟩
theorem dJ0_isLatin1_aae02_3 : dc cJ0_isLatin1_aae02 3 6 (.ifCond .eq 14) 3 := ⟨by decide +kernel, rfl⟩
theorem dJ0_isLatin1_aae02_6 : dc cJ0_isLatin1_aae02 6 7 (.aload_n 0) 1 := ⟨by decide +kernel, rfl⟩
theorem dJ0_isLatin1_aae02_7 : dc cJ0_isLatin1_aae02 7 10 (.getfield 15) 3 := ⟨by decide +kernel, rfl⟩
theorem dJ0_isLatin1_aae02_10 : dc cJ0_isLatin1_aae02 10 13 (.ifCond .ne 7) 3 := ⟨by decide +kernel, rfl⟩
theorem dJ0_isLatin1_aae02_13 : dc cJ0_isLatin1_aae02 13 14 (.iconst 1) 1 := ⟨by decide +kernel, rfl⟩
theorem dJ0_isLatin1_aae02_14 : dc cJ0_isLatin1_aae02 14 17 (.goto 4) 3 := ⟨by decide +kernel, rfl⟩
theorem dJ0_isLatin1_aae02_17 : dc cJ0_isLatin1_aae02 17 18 (.iconst 0) 1 := ⟨by decide +kernel, rfl⟩
theorem dJ0_isLatin1_aae02_18 : dc cJ0_isLatin1_aae02 18 19 .ireturn 1 := ⟨by decide +kernel, rfl⟩
theorem dJ0_checkIndex_df160_0 : dc cJ0_checkIndex_df160 0 1 (.iload_n 0) 1 := ⟨by decide +kernel, rfl⟩
theorem dJ0_checkIndex_df160_1 : dc cJ0_checkIndex_df160 1 2 (.iload_n 1) 1 := ⟨by decide +kernel, rfl⟩
theorem dJ0_checkIndex_df160_2 : dc cJ0_checkIndex_df160 2 5 (.getstatic 1053) 3 := ⟨by decide +kernel, rfl⟩
theorem dJ0_checkIndex_df160_5 : dc cJ0_checkIndex_df160 5 8 (.invokestatic 1059) 3 := ⟨by decide +kernel, rfl⟩
theorem dJ0_checkIndex_df160_8 : dc cJ0_checkIndex_df160 8 9 .pop 1 := ⟨by decide +kernel, rfl⟩
theorem dJ0_checkIndex_df160_9 : dc cJ0_checkIndex_df160 9 10 .return_ 1 := ⟨by decide +kernel, rfl⟩
theorem dJ1_charAt_3b067_0 : dc cJ1_charAt_3b067 0 1 (.iload_n 1) 1 := ⟨by decide +kernel, rfl⟩
theorem dJ1_charAt_3b067_1 : dc cJ1_charAt_3b067 1 2 (.aload_n 0) 1 := ⟨by decide +kernel, rfl⟩
theorem dJ1_charAt_3b067_2 : dc cJ1_charAt_3b067 2 3 .arraylength 1 := ⟨by decide +kernel, rfl⟩
theorem dJ1_charAt_3b067_3 : dc cJ1_charAt_3b067 3 6 (.invokestatic 9) 3 := ⟨by decide +kernel, rfl⟩
theorem dJ1_charAt_3b067_6 : dc cJ1_charAt_3b067 6 7 (.aload_n 0) 1 := ⟨by decide +kernel, rfl⟩
theorem dJ1_charAt_3b067_7 : dc cJ1_charAt_3b067 7 8 (.iload_n 1) 1 := ⟨by decide +kernel, rfl⟩
theorem dJ1_charAt_3b067_8 : dc cJ1_charAt_3b067 8 9 .baload 1 := ⟨by decide +kernel, rfl⟩
theorem dJ1_charAt_3b067_9 : dc cJ1_charAt_3b067 9 12 (.sipush 255) 3 := ⟨by decide +kernel, rfl⟩
theorem dJ1_charAt_3b067_12 : dc cJ1_charAt_3b067 12 13 .iand 1 := ⟨by decide +kernel, rfl⟩
theorem dJ1_charAt_3b067_13 : dc cJ1_charAt_3b067 13 14 .i2c 1 := ⟨by decide +kernel, rfl⟩
theorem dJ1_charAt_3b067_14 : dc cJ1_charAt_3b067 14 15 .ireturn 1 := ⟨by decide +kernel, rfl⟩
theorem dJ3_checkIndex_8e157_0 : dc cJ3_checkIndex_8e157 0 1 (.iload_n 0) 1 := ⟨by decide +kernel, rfl⟩
theorem dJ3_checkIndex_8e157_1 : dc cJ3_checkIndex_8e157 1 4 (.ifCond .lt 8) 3 := ⟨by decide +kernel, rfl⟩
theorem dJ3_checkIndex_8e157_4 : dc cJ3_checkIndex_8e157 4 5 (.iload_n 0) 1 := ⟨by decide +kernel, rfl⟩
theorem dJ3_checkIndex_8e157_5 : dc cJ3_checkIndex_8e157 5 6 (.iload_n 1) 1 := ⟨by decide +kernel, rfl⟩
theorem dJ3_checkIndex_8e157_6 : dc cJ3_checkIndex_8e157 6 9 (.if_icmp .lt 10) 3 := ⟨by decide +kernel, rfl⟩
theorem dJ3_checkIndex_8e157_9 : dc cJ3_checkIndex_8e157 9 10 (.aload_n 2) 1 := ⟨by decide +kernel, rfl⟩
theorem dJ3_checkIndex_8e157_10 : dc cJ3_checkIndex_8e157 10 11 (.iload_n 0) 1 := ⟨by decide +kernel, rfl⟩
theorem dJ3_checkIndex_8e157_11 : dc cJ3_checkIndex_8e157 11 12 (.iload_n 1) 1 := ⟨by decide +kernel, rfl⟩
theorem dJ3_checkIndex_8e157_12 : dc cJ3_checkIndex_8e157 12 15 (.invokestatic 95) 3 := ⟨by decide +kernel, rfl⟩
theorem dJ3_checkIndex_8e157_15 : dc cJ3_checkIndex_8e157 15 16 .athrow 1 := ⟨by decide +kernel, rfl⟩
theorem dJ3_checkIndex_8e157_16 : dc cJ3_checkIndex_8e157 16 17 (.iload_n 0) 1 := ⟨by decide +kernel, rfl⟩
theorem dJ3_checkIndex_8e157_17 : dc cJ3_checkIndex_8e157 17 18 .ireturn 1 := ⟨by decide +kernel, rfl⟩
theorem yd_J0_coder_7d493 : ydN yJ0_coder_7d493 0 := ⟨by decide, by decide, by decide +kernel⟩
theorem yd_J0_length_8abf5 : ydN yJ0_length_8abf5 0 := ⟨by decide, by decide, by decide +kernel⟩
theorem yd_J0_charAt_5068e : ydN yJ0_charAt_5068e 1 := ⟨by decide, by decide, by decide +kernel⟩
theorem yd_J0_isLatin1_aae02 : ydN yJ0_isLatin1_aae02 0 := ⟨by decide, by decide, by decide +kernel⟩
theorem yd_J0_checkIndex_df160 : ydN yJ0_checkIndex_df160 2 := ⟨by decide, by decide, by decide +kernel⟩
theorem yd_J1_charAt_3b067 : ydN yJ1_charAt_3b067 2 := ⟨by decide, by decide, by decide +kernel⟩
theorem yd_J3_checkIndex_8e157 : ydN yJ3_checkIndex_8e157 3 := ⟨by decide, by decide, by decide +kernel⟩
theorem wv_806 : wdV "java/lang/String" 335 yJ0_coder_7d493 cJ0_coder_7d493 1 (some .byte) := ⟨wd_806, wd_807, wd_808, wd_20, wd_809⟩
theorem wv_816 : wdV "java/lang/String" 492 yJ0_isLatin1_aae02 cJ0_isLatin1_aae02 1 (some .boolean) := ⟨wd_816, wd_817, wd_818, wd_20, wd_819⟩
theorem wv_820 : wdS "java/lang/String" 495 yJ1_charAt_3b067 cJ1_charAt_3b067 2 (some .char) := ⟨wd_820, wd_821, wd_21, wd_822⟩
theorem wv_823 : wdS "java/lang/StringLatin1" 9 yJ0_checkIndex_df160 cJ0_checkIndex_df160 2 none := ⟨wd_823, wd_824, wd_20, wd_825⟩
theorem wv_828 : wdS "java/lang/String" 1059 yJ3_checkIndex_8e157 cJ3_checkIndex_8e157 3 (some .int) := ⟨wd_828, wd_829, wd_22, wd_830⟩
set_option maxRecDepth 100000 in
set_option maxHeartbeats 4000000 in
theorem K_String_coder (l : Launch) (g : GB) (htr : l.stackTraces = false) (sb w : Nat) (hs : isStr sb w) (M : Mem)  : CT l g yJ0_coder_7d493 (.code yJ0_coder_7d493 cJ0_coder_7d493 1 (some .byte) :: wAll) { frames := 0, cells := 0, slots := 0, locals := 0 } [.ref (g.2.1 (NC + sb + w))] M (.inl (some (.int 0))) M := by
  refine CT.of [(0, .ref (g.2.1 (NC + sb + w)))] (by decide +kernel) (Nat.le_of_ble_eq_true rfl) rfl htr ?_
  intro p e s m args below meth c K hr ht
  obtain ⟨-, hc, hv, hT⟩ := str_O hs K.2.1.2.2
  refine G_gets K K.2.1.2.2.2.2.2.2.2.1 wd_810 dJ0_coder_7d493_0 ?_
  refine G_if_eq (tgt := 13) K dJ0_coder_7d493_3 (by decide) (fun h => absurd h (by decide)) (fun _ => ?_)
  refine G_aload_n rfl 0 rfl K dJ0_coder_7d493_6 ?_
  refine G_getO K hc wd_2045 dJ0_coder_7d493_7 ?_
  refine G_goto (tgt := 14) K dJ0_coder_7d493_10 (by decide) ?_
  exact G_iret K hr rfl dJ0_coder_7d493_14 (Nat.le_of_ble_eq_true rfl) (Nat.le_of_ble_eq_true rfl) ⟨rfl, rfl⟩
set_option maxRecDepth 100000 in
set_option maxHeartbeats 4000000 in
theorem K_String_length (l : Launch) (g : GB) (htr : l.stackTraces = false) (sb w : Nat) (hs : isStr sb w) (M : Mem) (rr : Int32) (h : F_String_length w M = some rr) : CT l g yJ0_length_8abf5 (.code yJ0_length_8abf5 cJ0_length_8abf5 1 (some .int) :: wAll) { frames := 1, cells := 0, slots := 0, locals := 20 } [.ref (g.2.1 (NC + sb + w))] M (.inl (some (.int rr))) M := by
  refine CT.of [(0, .ref (g.2.1 (NC + sb + w)))] (by decide +kernel) (Nat.le_of_ble_eq_true rfl) rfl htr ?_
  intro p e s m args below meth c K hr ht
  obtain ⟨-, hc, hv, hT⟩ := str_O hs K.2.1.2.2
  cases h
  have hw : nI (strL.getD w 0) >>> ((0 : Int32) &&& 31) = nI (strL.getD w 0) := by
    have : ∀ w, w < 3 → nI (strL.getD w 0) >>> ((0 : Int32) &&& 31) = nI (strL.getD w 0) := by decide +kernel
    exact this w hs.2
  refine G_aload_n rfl 0 rfl K dJ0_length_8abf5_0 ?_
  refine G_getO K hv wd_2044 dJ0_length_8abf5_1 ?_
  refine G_tlen K hT dJ0_length_8abf5_4 ?_
  refine G_aload_n rfl 0 rfl K dJ0_length_8abf5_5 ?_
  refine G_callO [] [.int (nI (strL.getD w 0))] K dJ0_length_8abf5_6 wv_806 yd_J0_coder_7d493 (fun H locs hS => str_recv hs K.2.1.2.2 hS) (by decide) (by decide) rfl rfl (Nat.le_of_ble_eq_true rfl) (K_String_coder l g htr sb w hs M) ?_
  refine G_ishr K dJ0_length_8abf5_9 ?_
  rw [hw]
  exact G_iret K hr rfl dJ0_length_8abf5_10 (Nat.le_of_ble_eq_true rfl) (Nat.le_of_ble_eq_true rfl) ⟨rfl, rfl⟩
set_option maxRecDepth 100000 in
set_option maxHeartbeats 4000000 in
theorem K_String_isLatin1 (l : Launch) (g : GB) (htr : l.stackTraces = false) (sb w : Nat) (hs : isStr sb w) (M : Mem)  : CT l g yJ0_isLatin1_aae02 (.code yJ0_isLatin1_aae02 cJ0_isLatin1_aae02 1 (some .boolean) :: wAll) { frames := 0, cells := 0, slots := 0, locals := 0 } [.ref (g.2.1 (NC + sb + w))] M (.inl (some (.int 1))) M := by
  refine CT.of [(0, .ref (g.2.1 (NC + sb + w)))] (by decide +kernel) (Nat.le_of_ble_eq_true rfl) rfl htr ?_
  intro p e s m args below meth c K hr ht
  obtain ⟨-, hc, hv, hT⟩ := str_O hs K.2.1.2.2
  refine G_gets K K.2.1.2.2.2.2.2.2.2.1 wd_810 dJ0_isLatin1_aae02_0 ?_
  refine G_if_eq (tgt := 17) K dJ0_isLatin1_aae02_3 (by decide) (fun h => absurd h (by decide)) (fun _ => ?_)
  refine G_aload_n rfl 0 rfl K dJ0_isLatin1_aae02_6 ?_
  refine G_getO K hc wd_2045 dJ0_isLatin1_aae02_7 ?_
  refine G_if_ne (tgt := 17) K dJ0_isLatin1_aae02_10 (by decide) (fun h => absurd rfl h) (fun _ => ?_)
  refine G_iconst (v := 1) rfl K dJ0_isLatin1_aae02_13 ?_
  refine G_goto (tgt := 18) K dJ0_isLatin1_aae02_14 (by decide) ?_
  exact G_iret K hr rfl dJ0_isLatin1_aae02_18 (Nat.le_of_ble_eq_true rfl) (Nat.le_of_ble_eq_true rfl) ⟨rfl, rfl⟩
set_option maxRecDepth 100000 in
set_option maxHeartbeats 4000000 in
theorem K_Pre_checkIndex (l : Launch) (g : GB) (htr : l.stackTraces = false) (i : Int32) (n : Nat) (hn : n < 5) (hi : inb i n) (v : Value) (hv : v = .null ∨ ∃ t : Nat, v = .ref t) (M : Mem)  : CT l g yJ3_checkIndex_8e157 (.code yJ3_checkIndex_8e157 cJ3_checkIndex_8e157 3 (some .int) :: wAll) { frames := 0, cells := 0, slots := 0, locals := 0 } [.int i, .int (nI n), v] M (.inl (some (.int i))) M := by
  have hlen : (lg_sl [.int i, .int (nI n), v]).length ≤ 3 := by rcases hv with rfl | ⟨t, rfl⟩ <;> exact Nat.le_of_ble_eq_true rfl
  refine CT.of [(0, .int i), (1, .int (nI n)), (2, v)] (by decide +kernel) hlen rfl htr ?_
  intro p e s m args below meth c K hr ht
  have h0 : ¬ i < 0 := fun q => hi (Or.inl q)
  obtain ⟨j, hj, rfl⟩ := vp_in_of (x := i) (n := n) hi (by omega)
  refine G_iload_n rfl 0 rfl K dJ3_checkIndex_8e157_0 ?_
  refine G_if_lt (tgt := 9) K dJ3_checkIndex_8e157_1 (by decide) (fun h => absurd h h0) (fun _ => ?_)
  refine G_iload_n rfl 0 rfl K dJ3_checkIndex_8e157_4 ?_
  refine G_iload_n rfl 1 rfl K dJ3_checkIndex_8e157_5 ?_
  refine G_icmp_lt (tgt := 16) K dJ3_checkIndex_8e157_6 (by decide) (fun _ => ?_) (fun h => absurd (nI_lt hj (by omega)) h)
  refine G_iload_n rfl 0 rfl K dJ3_checkIndex_8e157_16 ?_
  exact G_iret K hr rfl dJ3_checkIndex_8e157_17 (Nat.le_of_ble_eq_true rfl) (Nat.le_of_ble_eq_true rfl) ⟨rfl, rfl⟩
set_option maxRecDepth 100000 in
set_option maxHeartbeats 4000000 in
theorem K_String_checkIndex (l : Launch) (g : GB) (htr : l.stackTraces = false) (i : Int32) (n : Nat) (hn : n < 5) (hi : inb i n) (M : Mem)  : CT l g yJ0_checkIndex_df160 (.code yJ0_checkIndex_df160 cJ0_checkIndex_df160 2 none :: wAll) { frames := 1, cells := 0, slots := 0, locals := 22 } [.int i, .int (nI n)] M (.inl none) M := by
  refine CT.of [(0, .int i), (1, .int (nI n))] (by decide +kernel) (Nat.le_of_ble_eq_true rfl) rfl htr ?_
  intro p e s m args below meth c K hr ht
  refine G_iload_n rfl 0 rfl K dJ0_checkIndex_df160_0 ?_
  refine G_iload_n rfl 1 rfl K dJ0_checkIndex_df160_1 ?_
  have go : ∀ v : Value, (v = .null ∨ ∃ t : Nat, v = .ref t) → va_Z "jdk/internal/util/Preconditions" "SIOOBE_FORMATTER" "Ljava/util/function/BiFunction;" v (AS g s.heap.size) s s.heap → GG p l e { frames := 1, cells := 0, slots := 0, locals := 22 } s m args below meth c g 2 (vx_MQ below (Qn g s.heap.size (.inl none) M) (QX g s.heap.size (.inl none) M) args s 0 0 (AS g s.heap.size)) 0 0 2 [(0, .int i), (1, .int (nI n))] [.int (nI n), .int i] M := by
    intro v hv hZ
    refine G_gets K hZ wd_826 dJ0_checkIndex_df160_2 ?_
    refine G_callSi [.int i, .int (nI n), v] [] K dJ0_checkIndex_df160_5 wv_828 yd_J3_checkIndex_8e157 (by decide) (by decide) rfl rfl (Nat.le_of_ble_eq_true rfl) (K_Pre_checkIndex l g htr i n hn hi v hv M) ?_
    refine G_pop rfl K dJ0_checkIndex_df160_8 ?_
    exact G_vret K hr dJ0_checkIndex_df160_9 (Nat.le_of_ble_eq_true rfl) (Nat.le_of_ble_eq_true rfl) ⟨rfl, rfl⟩
  rcases K.2.1.2.2.2.2.2.2.2.2 with hZ | ⟨t, hZ⟩
  · exact go _ (Or.inl rfl) hZ
  · exact go _ (Or.inr ⟨t, rfl⟩) hZ
set_option maxRecDepth 100000 in
set_option maxHeartbeats 4000000 in
theorem K_Latin1_charAt (l : Launch) (g : GB) (htr : l.stackTraces = false) (sb w : Nat) (hs : isStr sb w) (i : Int32) (hi : inb i (strL.getD w 0)) (M : Mem)  : CT l g yJ1_charAt_3b067 (.code yJ1_charAt_3b067 cJ1_charAt_3b067 2 (some .char) :: wAll) { frames := 2, cells := 0, slots := 0, locals := 43 } [.ref (g.2.1 (NC + sb + 3 + w)), .int i] M (.inl (some (.int (strC w i.toNatClampNeg)))) M := by
  refine CT.of [(0, .ref (g.2.1 (NC + sb + 3 + w))), (1, .int i)] (by decide +kernel) (Nat.le_of_ble_eq_true rfl) rfl htr ?_
  intro p e s m args below meth c K hr ht
  obtain ⟨-, hc, hv, hT⟩ := str_O hs K.2.1.2.2
  have hL := strL_lt w hs.2
  obtain ⟨j, hj, e0⟩ := vp_in_of (x := i) (n := strL.getD w 0) hi (by omega)
  refine G_iload_n rfl 1 rfl K dJ1_charAt_3b067_0 ?_
  refine G_aload_n rfl 0 rfl K dJ1_charAt_3b067_1 ?_
  refine G_tlen K hT dJ1_charAt_3b067_2 ?_
  refine G_callSv [.int i, .int (nI (strL.getD w 0))] [] K dJ1_charAt_3b067_3 wv_823 yd_J0_checkIndex_df160 (by decide) (by decide) rfl rfl (Nat.le_of_ble_eq_true rfl) (K_String_checkIndex l g htr i (strL.getD w 0) hL hi M) ?_
  refine G_aload_n rfl 0 rfl K dJ1_charAt_3b067_6 ?_
  refine G_iload_n rfl 1 rfl K dJ1_charAt_3b067_7 ?_
  refine G_tb K hT hi dJ1_charAt_3b067_8 ?_
  refine G_sipush (v := 255) rfl K dJ1_charAt_3b067_9 ?_
  refine G_iand K dJ1_charAt_3b067_12 ?_
  refine G_i2c (v := strC w i.toNatClampNeg) K dJ1_charAt_3b067_13 rfl ?_
  exact G_iret K hr (strC_nar w hs.2 _ (by rw [e0, nI_clamp (by omega)]; omega)) dJ1_charAt_3b067_14 (Nat.le_of_ble_eq_true rfl) (Nat.le_of_ble_eq_true rfl) ⟨rfl, rfl⟩
set_option maxRecDepth 100000 in
set_option maxHeartbeats 4000000 in
theorem K_String_charAt (l : Launch) (g : GB) (htr : l.stackTraces = false) (sb w : Nat) (hs : isStr sb w) (i : Int32) (M : Mem) (rr : Int32) (h : F_String_charAt w i M = some rr) : CT l g yJ0_charAt_5068e (.code yJ0_charAt_5068e cJ0_charAt_5068e 2 (some .char) :: wAll) { frames := 3, cells := 0, slots := 0, locals := 64 } [.ref (g.2.1 (NC + sb + w)), .int i] M (.inl (some (.int rr))) M := by
  refine CT.of [(0, .ref (g.2.1 (NC + sb + w))), (1, .int i)] (by decide +kernel) (Nat.le_of_ble_eq_true rfl) rfl htr ?_
  intro p e s m args below meth c K hr ht
  obtain ⟨-, hc, hv, hT⟩ := str_O hs K.2.1.2.2
  have hL := strL_lt w hs.2
  unfold F_String_charAt at h
  have hi : inb i (strL.getD w 0) := by
    by_cases q : inb i (strL.getD w 0)
    · exact q
    · rw [if_neg q] at h; cases h
  rw [if_pos hi] at h
  cases h
  obtain ⟨j, hj, e0⟩ := vp_in_of (x := i) (n := strL.getD w 0) hi (by omega)
  refine G_aload_n rfl 0 rfl K dJ0_charAt_5068e_0 ?_
  refine G_callO [] [] K dJ0_charAt_5068e_1 wv_816 yd_J0_isLatin1_aae02 (fun H locs hS => str_recv hs K.2.1.2.2 hS) (by decide) (by decide) rfl rfl (Nat.le_of_ble_eq_true rfl) (K_String_isLatin1 l g htr sb w hs M) ?_
  refine G_if_eq (tgt := 16) K dJ0_charAt_5068e_4 (by decide) (fun h => absurd h (by decide)) (fun _ => ?_)
  refine G_aload_n rfl 0 rfl K dJ0_charAt_5068e_7 ?_
  refine G_getO K hv wd_2044 dJ0_charAt_5068e_8 ?_
  refine G_iload_n rfl 1 rfl K dJ0_charAt_5068e_11 ?_
  refine G_callSi [.ref (g.2.1 (NC + sb + 3 + w)), .int i] [] K dJ0_charAt_5068e_12 wv_820 yd_J1_charAt_3b067 (by decide) (by decide) rfl rfl (Nat.le_of_ble_eq_true rfl) (K_Latin1_charAt l g htr sb w hs i hi M) ?_
  exact G_iret K hr (strC_nar w hs.2 _ (by rw [e0, nI_clamp (by omega)]; omega)) dJ0_charAt_5068e_15 (Nat.le_of_ble_eq_true rfl) (Nat.le_of_ble_eq_true rfl) ⟨rfl, rfl⟩
