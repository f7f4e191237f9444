theorem lt3_all {P : Nat → Prop} (h0 : P 0) (h1 : P 1) (h2 : P 2) : ∀ i, i < 3 → P i := fun i hi => match i, hi with
  | 0, _ => h0
  | 1, _ => h1
  | 2, _ => h2
theorem lt4_all {P : Nat → Prop} (h0 : P 0) (h1 : P 1) (h2 : P 2) (h3 : P 3) : ∀ i, i < 4 → P i := fun i hi => match i, hi with
  | 0, _ => h0
  | 1, _ => h1
  | 2, _ => h2
  | 3, _ => h3
theorem lt2_all {P : Nat → Prop} (h0 : P 0) (h1 : P 1) : ∀ i, i < 2 → P i := fun i hi => match i, hi with
  | 0, _ => h0
  | 1, _ => h1
theorem vk_S_congr {N : Nat} {len : List Nat} {byt : List (List Int32)} {aK aV bK bV : Nat → Nat} {A : Nat → Prop} {U : State} {H : Heap} (h : vk_S N len byt aK aV A U H) (e1 : ∀ i, i < N → bK i = aK i) (e2 : ∀ i, i < N → bV i = aV i) : vk_S N len byt bK bV A U H :=
  ⟨fun i hi => by rw [e1 i hi, e2 i hi]; exact h.1 i hi, fun i j hi hj e => h.2 i j hi hj (by rw [e1 i hi, e1 j hj] at e; exact e)⟩
def tmS1 : Nat → Term := fun i => ([(Jvm.Term.string "KeptWell$Tape" (74 : Nat)), (Jvm.Term.string "KeptWell$Tape" (87 : Nat)), (Jvm.Term.string "KeptWell$Tape" (89 : Nat))] : List Term).getD i (Jvm.Term.string "KeptWell$Tape" (74 : Nat))
set_option maxRecDepth 100000 in
theorem strS1 {s : State} {args : Array Value} {A : Nat → Prop} (hs : ∀ c ∈ flatC (Jvm.Cond.and given_1 narrow_1), c.before args s = true) (hA : ∀ a : Nat, a < s.heap.size → ¬ A a) : ∃ adK adV : Nat → Nat, vk_S 3 strL strB adK adV A s s.heap ∧ ∀ i : Nat, i < 3 → (tmS1 i).eval args s none [] s = some (.ref (adK i)) := by
  have hne : ∀ i, i < 3 → ∀ j, j < 3 → i ≠ j → (Cond.not (Cond.eq (tmS1 i) (tmS1 j))).before args s = true ∨ (Cond.not (Cond.eq (tmS1 j) (tmS1 i))).before args s = true := lt3_all (lt3_all (fun h => absurd rfl h) (fun _ => (Or.inl (hs (Jvm.Cond.not (Jvm.Cond.eq (Jvm.Term.string "KeptWell$Tape" (74 : Nat)) (Jvm.Term.string "KeptWell$Tape" (87 : Nat)))) (List.mem_of_getElem? (i := 111) (by decide +kernel))))) (fun _ => (Or.inl (hs (Jvm.Cond.not (Jvm.Cond.eq (Jvm.Term.string "KeptWell$Tape" (74 : Nat)) (Jvm.Term.string "KeptWell$Tape" (89 : Nat)))) (List.mem_of_getElem? (i := 118) (by decide +kernel)))))) (lt3_all (fun _ => (Or.inr (hs (Jvm.Cond.not (Jvm.Cond.eq (Jvm.Term.string "KeptWell$Tape" (74 : Nat)) (Jvm.Term.string "KeptWell$Tape" (87 : Nat)))) (List.mem_of_getElem? (i := 111) (by decide +kernel))))) (fun h => absurd rfl h) (fun _ => (Or.inl (hs (Jvm.Cond.not (Jvm.Cond.eq (Jvm.Term.string "KeptWell$Tape" (87 : Nat)) (Jvm.Term.string "KeptWell$Tape" (89 : Nat)))) (List.mem_of_getElem? (i := 119) (by decide +kernel)))))) (lt3_all (fun _ => (Or.inr (hs (Jvm.Cond.not (Jvm.Cond.eq (Jvm.Term.string "KeptWell$Tape" (74 : Nat)) (Jvm.Term.string "KeptWell$Tape" (89 : Nat)))) (List.mem_of_getElem? (i := 118) (by decide +kernel))))) (fun _ => (Or.inr (hs (Jvm.Cond.not (Jvm.Cond.eq (Jvm.Term.string "KeptWell$Tape" (87 : Nat)) (Jvm.Term.string "KeptWell$Tape" (89 : Nat)))) (List.mem_of_getElem? (i := 119) (by decide +kernel))))) (fun h => absurd rfl h))
  exact vk_Sof (tm := tmS1) (len := strL) (byt := strB) (lt3_all (by decide) (by decide) (by decide)) (lt3_all (hs (Jvm.Cond.exactly (Jvm.Term.string "KeptWell$Tape" (74 : Nat)) "java/lang/String") (List.mem_of_getElem? (i := 96) (by decide +kernel))) (hs (Jvm.Cond.exactly (Jvm.Term.string "KeptWell$Tape" (87 : Nat)) "java/lang/String") (List.mem_of_getElem? (i := 104) (by decide +kernel))) (hs (Jvm.Cond.exactly (Jvm.Term.string "KeptWell$Tape" (89 : Nat)) "java/lang/String") (List.mem_of_getElem? (i := 112) (by decide +kernel)))) (lt3_all (hs (Jvm.Cond.eq (Jvm.Term.field (Jvm.Term.string "KeptWell$Tape" (74 : Nat)) "java/lang/String" "coder" "B") (Jvm.Term.int (0 : Int32))) (List.mem_of_getElem? (i := 97) (by decide +kernel))) (hs (Jvm.Cond.eq (Jvm.Term.field (Jvm.Term.string "KeptWell$Tape" (87 : Nat)) "java/lang/String" "coder" "B") (Jvm.Term.int (0 : Int32))) (List.mem_of_getElem? (i := 105) (by decide +kernel))) (hs (Jvm.Cond.eq (Jvm.Term.field (Jvm.Term.string "KeptWell$Tape" (89 : Nat)) "java/lang/String" "coder" "B") (Jvm.Term.int (0 : Int32))) (List.mem_of_getElem? (i := 113) (by decide +kernel)))) (lt3_all (hs (Jvm.Cond.arrayOf (Jvm.Term.field (Jvm.Term.string "KeptWell$Tape" (74 : Nat)) "java/lang/String" "value" "[B") Jvm.ClassFile.FieldType.byte) (List.mem_of_getElem? (i := 98) (by decide +kernel))) (hs (Jvm.Cond.arrayOf (Jvm.Term.field (Jvm.Term.string "KeptWell$Tape" (87 : Nat)) "java/lang/String" "value" "[B") Jvm.ClassFile.FieldType.byte) (List.mem_of_getElem? (i := 106) (by decide +kernel))) (hs (Jvm.Cond.arrayOf (Jvm.Term.field (Jvm.Term.string "KeptWell$Tape" (89 : Nat)) "java/lang/String" "value" "[B") Jvm.ClassFile.FieldType.byte) (List.mem_of_getElem? (i := 114) (by decide +kernel)))) (lt3_all (hs (Jvm.Cond.eq (Jvm.Term.length (Jvm.Term.field (Jvm.Term.string "KeptWell$Tape" (74 : Nat)) "java/lang/String" "value" "[B")) (Jvm.Term.int (4 : Int32))) (List.mem_of_getElem? (i := 99) (by decide +kernel))) (hs (Jvm.Cond.eq (Jvm.Term.length (Jvm.Term.field (Jvm.Term.string "KeptWell$Tape" (87 : Nat)) "java/lang/String" "value" "[B")) (Jvm.Term.int (3 : Int32))) (List.mem_of_getElem? (i := 107) (by decide +kernel))) (hs (Jvm.Cond.eq (Jvm.Term.length (Jvm.Term.field (Jvm.Term.string "KeptWell$Tape" (89 : Nat)) "java/lang/String" "value" "[B")) (Jvm.Term.int (2 : Int32))) (List.mem_of_getElem? (i := 115) (by decide +kernel)))) (lt3_all (lt4_all (hs (Jvm.Cond.eq (Jvm.Term.elem (Jvm.Term.field (Jvm.Term.string "KeptWell$Tape" (74 : Nat)) "java/lang/String" "value" "[B") (Jvm.Term.int (0 : Int32))) (Jvm.Term.int (100 : Int32))) (List.mem_of_getElem? (i := 100) (by decide +kernel))) (hs (Jvm.Cond.eq (Jvm.Term.elem (Jvm.Term.field (Jvm.Term.string "KeptWell$Tape" (74 : Nat)) "java/lang/String" "value" "[B") (Jvm.Term.int (1 : Int32))) (Jvm.Term.int (111 : Int32))) (List.mem_of_getElem? (i := 101) (by decide +kernel))) (hs (Jvm.Cond.eq (Jvm.Term.elem (Jvm.Term.field (Jvm.Term.string "KeptWell$Tape" (74 : Nat)) "java/lang/String" "value" "[B") (Jvm.Term.int (2 : Int32))) (Jvm.Term.int (101 : Int32))) (List.mem_of_getElem? (i := 102) (by decide +kernel))) (hs (Jvm.Cond.eq (Jvm.Term.elem (Jvm.Term.field (Jvm.Term.string "KeptWell$Tape" (74 : Nat)) "java/lang/String" "value" "[B") (Jvm.Term.int (3 : Int32))) (Jvm.Term.int (115 : Int32))) (List.mem_of_getElem? (i := 103) (by decide +kernel)))) (lt3_all (hs (Jvm.Cond.eq (Jvm.Term.elem (Jvm.Term.field (Jvm.Term.string "KeptWell$Tape" (87 : Nat)) "java/lang/String" "value" "[B") (Jvm.Term.int (0 : Int32))) (Jvm.Term.int (97 : Int32))) (List.mem_of_getElem? (i := 108) (by decide +kernel))) (hs (Jvm.Cond.eq (Jvm.Term.elem (Jvm.Term.field (Jvm.Term.string "KeptWell$Tape" (87 : Nat)) "java/lang/String" "value" "[B") (Jvm.Term.int (1 : Int32))) (Jvm.Term.int (110 : Int32))) (List.mem_of_getElem? (i := 109) (by decide +kernel))) (hs (Jvm.Cond.eq (Jvm.Term.elem (Jvm.Term.field (Jvm.Term.string "KeptWell$Tape" (87 : Nat)) "java/lang/String" "value" "[B") (Jvm.Term.int (2 : Int32))) (Jvm.Term.int (121 : Int32))) (List.mem_of_getElem? (i := 110) (by decide +kernel)))) (lt2_all (hs (Jvm.Cond.eq (Jvm.Term.elem (Jvm.Term.field (Jvm.Term.string "KeptWell$Tape" (89 : Nat)) "java/lang/String" "value" "[B") (Jvm.Term.int (0 : Int32))) (Jvm.Term.int (116 : Int32))) (List.mem_of_getElem? (i := 116) (by decide +kernel))) (hs (Jvm.Cond.eq (Jvm.Term.elem (Jvm.Term.field (Jvm.Term.string "KeptWell$Tape" (89 : Nat)) "java/lang/String" "value" "[B") (Jvm.Term.int (1 : Int32))) (Jvm.Term.int (111 : Int32))) (List.mem_of_getElem? (i := 117) (by decide +kernel))))) (fun i j hi hj hij => hne i hi j hj hij) hA
def tmS2 : Nat → Term := fun i => ([(Jvm.Term.string "KeptWellModel" (165 : Nat)), (Jvm.Term.string "KeptWellModel" (152 : Nat)), (Jvm.Term.string "KeptWellModel" (157 : Nat))] : List Term).getD i (Jvm.Term.string "KeptWellModel" (165 : Nat))
set_option maxRecDepth 100000 in
theorem strS2 {s : State} {args : Array Value} {A : Nat → Prop} (hs : ∀ c ∈ flatC (Jvm.Cond.and given_1 narrow_1), c.before args s = true) (hA : ∀ a : Nat, a < s.heap.size → ¬ A a) : ∃ adK adV : Nat → Nat, vk_S 3 strL strB adK adV A s s.heap ∧ ∀ i : Nat, i < 3 → (tmS2 i).eval args s none [] s = some (.ref (adK i)) := by
  have hne : ∀ i, i < 3 → ∀ j, j < 3 → i ≠ j → (Cond.not (Cond.eq (tmS2 i) (tmS2 j))).before args s = true ∨ (Cond.not (Cond.eq (tmS2 j) (tmS2 i))).before args s = true := lt3_all (lt3_all (fun h => absurd rfl h) (fun _ => (Or.inl (hs (Jvm.Cond.not (Jvm.Cond.eq (Jvm.Term.string "KeptWellModel" (165 : Nat)) (Jvm.Term.string "KeptWellModel" (152 : Nat)))) (List.mem_of_getElem? (i := 141) (by decide +kernel))))) (fun _ => (Or.inl (hs (Jvm.Cond.not (Jvm.Cond.eq (Jvm.Term.string "KeptWellModel" (165 : Nat)) (Jvm.Term.string "KeptWellModel" (157 : Nat)))) (List.mem_of_getElem? (i := 151) (by decide +kernel)))))) (lt3_all (fun _ => (Or.inr (hs (Jvm.Cond.not (Jvm.Cond.eq (Jvm.Term.string "KeptWellModel" (165 : Nat)) (Jvm.Term.string "KeptWellModel" (152 : Nat)))) (List.mem_of_getElem? (i := 141) (by decide +kernel))))) (fun h => absurd rfl h) (fun _ => (Or.inl (hs (Jvm.Cond.not (Jvm.Cond.eq (Jvm.Term.string "KeptWellModel" (152 : Nat)) (Jvm.Term.string "KeptWellModel" (157 : Nat)))) (List.mem_of_getElem? (i := 152) (by decide +kernel)))))) (lt3_all (fun _ => (Or.inr (hs (Jvm.Cond.not (Jvm.Cond.eq (Jvm.Term.string "KeptWellModel" (165 : Nat)) (Jvm.Term.string "KeptWellModel" (157 : Nat)))) (List.mem_of_getElem? (i := 151) (by decide +kernel))))) (fun _ => (Or.inr (hs (Jvm.Cond.not (Jvm.Cond.eq (Jvm.Term.string "KeptWellModel" (152 : Nat)) (Jvm.Term.string "KeptWellModel" (157 : Nat)))) (List.mem_of_getElem? (i := 152) (by decide +kernel))))) (fun h => absurd rfl h))
  exact vk_Sof (tm := tmS2) (len := strL) (byt := strB) (lt3_all (by decide) (by decide) (by decide)) (lt3_all (hs (Jvm.Cond.exactly (Jvm.Term.string "KeptWellModel" (165 : Nat)) "java/lang/String") (List.mem_of_getElem? (i := 120) (by decide +kernel))) (hs (Jvm.Cond.exactly (Jvm.Term.string "KeptWellModel" (152 : Nat)) "java/lang/String") (List.mem_of_getElem? (i := 131) (by decide +kernel))) (hs (Jvm.Cond.exactly (Jvm.Term.string "KeptWellModel" (157 : Nat)) "java/lang/String") (List.mem_of_getElem? (i := 142) (by decide +kernel)))) (lt3_all (hs (Jvm.Cond.eq (Jvm.Term.field (Jvm.Term.string "KeptWellModel" (165 : Nat)) "java/lang/String" "coder" "B") (Jvm.Term.int (0 : Int32))) (List.mem_of_getElem? (i := 121) (by decide +kernel))) (hs (Jvm.Cond.eq (Jvm.Term.field (Jvm.Term.string "KeptWellModel" (152 : Nat)) "java/lang/String" "coder" "B") (Jvm.Term.int (0 : Int32))) (List.mem_of_getElem? (i := 132) (by decide +kernel))) (hs (Jvm.Cond.eq (Jvm.Term.field (Jvm.Term.string "KeptWellModel" (157 : Nat)) "java/lang/String" "coder" "B") (Jvm.Term.int (0 : Int32))) (List.mem_of_getElem? (i := 143) (by decide +kernel)))) (lt3_all (hs (Jvm.Cond.arrayOf (Jvm.Term.field (Jvm.Term.string "KeptWellModel" (165 : Nat)) "java/lang/String" "value" "[B") Jvm.ClassFile.FieldType.byte) (List.mem_of_getElem? (i := 122) (by decide +kernel))) (hs (Jvm.Cond.arrayOf (Jvm.Term.field (Jvm.Term.string "KeptWellModel" (152 : Nat)) "java/lang/String" "value" "[B") Jvm.ClassFile.FieldType.byte) (List.mem_of_getElem? (i := 133) (by decide +kernel))) (hs (Jvm.Cond.arrayOf (Jvm.Term.field (Jvm.Term.string "KeptWellModel" (157 : Nat)) "java/lang/String" "value" "[B") Jvm.ClassFile.FieldType.byte) (List.mem_of_getElem? (i := 144) (by decide +kernel)))) (lt3_all (hs (Jvm.Cond.eq (Jvm.Term.length (Jvm.Term.field (Jvm.Term.string "KeptWellModel" (165 : Nat)) "java/lang/String" "value" "[B")) (Jvm.Term.int (4 : Int32))) (List.mem_of_getElem? (i := 123) (by decide +kernel))) (hs (Jvm.Cond.eq (Jvm.Term.length (Jvm.Term.field (Jvm.Term.string "KeptWellModel" (152 : Nat)) "java/lang/String" "value" "[B")) (Jvm.Term.int (3 : Int32))) (List.mem_of_getElem? (i := 134) (by decide +kernel))) (hs (Jvm.Cond.eq (Jvm.Term.length (Jvm.Term.field (Jvm.Term.string "KeptWellModel" (157 : Nat)) "java/lang/String" "value" "[B")) (Jvm.Term.int (2 : Int32))) (List.mem_of_getElem? (i := 145) (by decide +kernel)))) (lt3_all (lt4_all (hs (Jvm.Cond.eq (Jvm.Term.elem (Jvm.Term.field (Jvm.Term.string "KeptWellModel" (165 : Nat)) "java/lang/String" "value" "[B") (Jvm.Term.int (0 : Int32))) (Jvm.Term.int (100 : Int32))) (List.mem_of_getElem? (i := 124) (by decide +kernel))) (hs (Jvm.Cond.eq (Jvm.Term.elem (Jvm.Term.field (Jvm.Term.string "KeptWellModel" (165 : Nat)) "java/lang/String" "value" "[B") (Jvm.Term.int (1 : Int32))) (Jvm.Term.int (111 : Int32))) (List.mem_of_getElem? (i := 125) (by decide +kernel))) (hs (Jvm.Cond.eq (Jvm.Term.elem (Jvm.Term.field (Jvm.Term.string "KeptWellModel" (165 : Nat)) "java/lang/String" "value" "[B") (Jvm.Term.int (2 : Int32))) (Jvm.Term.int (101 : Int32))) (List.mem_of_getElem? (i := 126) (by decide +kernel))) (hs (Jvm.Cond.eq (Jvm.Term.elem (Jvm.Term.field (Jvm.Term.string "KeptWellModel" (165 : Nat)) "java/lang/String" "value" "[B") (Jvm.Term.int (3 : Int32))) (Jvm.Term.int (115 : Int32))) (List.mem_of_getElem? (i := 127) (by decide +kernel)))) (lt3_all (hs (Jvm.Cond.eq (Jvm.Term.elem (Jvm.Term.field (Jvm.Term.string "KeptWellModel" (152 : Nat)) "java/lang/String" "value" "[B") (Jvm.Term.int (0 : Int32))) (Jvm.Term.int (97 : Int32))) (List.mem_of_getElem? (i := 135) (by decide +kernel))) (hs (Jvm.Cond.eq (Jvm.Term.elem (Jvm.Term.field (Jvm.Term.string "KeptWellModel" (152 : Nat)) "java/lang/String" "value" "[B") (Jvm.Term.int (1 : Int32))) (Jvm.Term.int (110 : Int32))) (List.mem_of_getElem? (i := 136) (by decide +kernel))) (hs (Jvm.Cond.eq (Jvm.Term.elem (Jvm.Term.field (Jvm.Term.string "KeptWellModel" (152 : Nat)) "java/lang/String" "value" "[B") (Jvm.Term.int (2 : Int32))) (Jvm.Term.int (121 : Int32))) (List.mem_of_getElem? (i := 137) (by decide +kernel)))) (lt2_all (hs (Jvm.Cond.eq (Jvm.Term.elem (Jvm.Term.field (Jvm.Term.string "KeptWellModel" (157 : Nat)) "java/lang/String" "value" "[B") (Jvm.Term.int (0 : Int32))) (Jvm.Term.int (116 : Int32))) (List.mem_of_getElem? (i := 146) (by decide +kernel))) (hs (Jvm.Cond.eq (Jvm.Term.elem (Jvm.Term.field (Jvm.Term.string "KeptWellModel" (157 : Nat)) "java/lang/String" "value" "[B") (Jvm.Term.int (1 : Int32))) (Jvm.Term.int (111 : Int32))) (List.mem_of_getElem? (i := 147) (by decide +kernel))))) (fun i j hi hj hij => hne i hi j hj hij) hA
theorem wt_660 : (Jvm.Cond.castable "java/lang/IllegalArgumentException" "java/lang/IllegalArgumentException") ∈ lw_tbl := List.mem_append_right _ (show _ ∈ tables_1 from (List.mem_append_right _ (List.mem_append_right _ (List.mem_append_left _ (List.mem_of_getElem? (i := 180) rfl)))))
theorem wt_737 : (Jvm.Cond.castable "java/lang/IndexOutOfBoundsException" "java/lang/IndexOutOfBoundsException") ∈ lw_tbl := List.mem_append_right _ (show _ ∈ tables_1 from (List.mem_append_right _ (List.mem_append_right _ (List.mem_append_right _ (List.mem_append_left _ (List.mem_of_getElem? (i := 17) rfl))))))
theorem wt_871 : (Jvm.Cond.castable "java/lang/UnsupportedOperationException" "java/lang/UnsupportedOperationException") ∈ lw_tbl := List.mem_append_right _ (show _ ∈ tables_1 from (List.mem_append_right _ (List.mem_append_right _ (List.mem_append_right _ (List.mem_append_left _ (List.mem_of_getElem? (i := 151) rfl))))))
theorem wt_910 : (Jvm.Cond.castable "java/util/NoSuchElementException" "java/util/NoSuchElementException") ∈ lw_tbl := List.mem_append_right _ (show _ ∈ tables_1 from (List.mem_append_right _ (List.mem_append_right _ (List.mem_append_right _ (List.mem_append_left _ (List.mem_of_getElem? (i := 190) rfl))))))
theorem wt_947 : (Jvm.Cond.castable "java/lang/IllegalStateException" "java/lang/IllegalStateException") ∈ lw_tbl := List.mem_append_right _ (show _ ∈ tables_1 from (List.mem_append_right _ (List.mem_append_right _ (List.mem_append_right _ (List.mem_append_left _ (List.mem_of_getElem? (i := 227) rfl))))))
theorem wt_661 : (Jvm.Cond.declares ({ cls := "java/lang/RuntimeException", name := "<init>", desc := "()V" } : Jvm.MethodName)) ∈ lw_tbl := List.mem_append_right _ (show _ ∈ tables_1 from (List.mem_append_right _ (List.mem_append_right _ (List.mem_append_left _ (List.mem_of_getElem? (i := 181) rfl)))))
theorem wt_663 : (Jvm.Cond.declares ({ cls := "java/lang/Exception", name := "<init>", desc := "()V" } : Jvm.MethodName)) ∈ lw_tbl := List.mem_append_right _ (show _ ∈ tables_1 from (List.mem_append_right _ (List.mem_append_right _ (List.mem_append_left _ (List.mem_of_getElem? (i := 183) rfl)))))
theorem wt_665 : (Jvm.Cond.declares ({ cls := "java/lang/Throwable", name := "<init>", desc := "()V" } : Jvm.MethodName)) ∈ lw_tbl := List.mem_append_right _ (show _ ∈ tables_1 from (List.mem_append_right _ (List.mem_append_right _ (List.mem_append_left _ (List.mem_of_getElem? (i := 185) rfl)))))
theorem BwL_t : ∀ w ∈ BwL, w ∈ lw_tbl := List.forall_mem_cons.mpr ⟨wt_660, List.forall_mem_cons.mpr ⟨wt_737, List.forall_mem_cons.mpr ⟨wt_871, List.forall_mem_cons.mpr ⟨wt_910, List.forall_mem_cons.mpr ⟨wt_947, List.forall_mem_cons.mpr ⟨wt_661, List.forall_mem_cons.mpr ⟨wt_663, List.forall_mem_cons.mpr ⟨wt_665, fun _ h => absurd h List.not_mem_nil⟩⟩⟩⟩⟩⟩⟩⟩
theorem wt_38 : (Jvm.Cond.methodLinkNest "KeptWell" (9 : Nat) ({ cls := "KeptWell$Well", name := "<init>", desc := "()V" } : Jvm.MethodName) "KeptWell") ∈ lw_tbl := List.mem_append_right _ (show _ ∈ tables_1 from (List.mem_append_left _ (List.mem_of_getElem? (i := 38) rfl)))
theorem wt_141 : (Jvm.Cond.methodLinkNest "KeptWell" (25 : Nat) ({ cls := "KeptWell$Tape", name := "<init>", desc := "()V" } : Jvm.MethodName) "KeptWell") ∈ lw_tbl := List.mem_append_right _ (show _ ∈ tables_1 from (List.mem_append_left _ (List.mem_of_getElem? (i := 141) rfl)))
theorem wt_183 : (Jvm.Cond.methodLinkNest "KeptWell$Pair" (11 : Nat) ({ cls := "KeptWell$Chain", name := "<init>", desc := "()V" } : Jvm.MethodName) "KeptWell") ∈ lw_tbl := List.mem_append_right _ (show _ ∈ tables_1 from (List.mem_append_left _ (List.mem_of_getElem? (i := 183) rfl)))
theorem wt_252 : (Jvm.Cond.methodLinkNest "KeptWell$Answer" (9 : Nat) ({ cls := "KeptWell$Chain", name := "<init>", desc := "()V" } : Jvm.MethodName) "KeptWell") ∈ lw_tbl := List.mem_append_right _ (show _ ∈ tables_1 from (List.mem_append_right _ (List.mem_append_left _ (List.mem_of_getElem? (i := 12) rfl))))
theorem wt_376 : (Jvm.Cond.methodLinkNest "KeptWell$Bridge" (11 : Nat) ({ cls := "KeptWell$Fraction", name := "<init>", desc := "()V" } : Jvm.MethodName) "KeptWell") ∈ lw_tbl := List.mem_append_right _ (show _ ∈ tables_1 from (List.mem_append_right _ (List.mem_append_left _ (List.mem_of_getElem? (i := 136) rfl))))
theorem wt_401 : (Jvm.Cond.methodLinkNest "KeptWell" (82 : Nat) ({ cls := "KeptWell$Fraction", name := "<init>", desc := "()V" } : Jvm.MethodName) "KeptWell") ∈ lw_tbl := List.mem_append_right _ (show _ ∈ tables_1 from (List.mem_append_right _ (List.mem_append_left _ (List.mem_of_getElem? (i := 161) rfl))))
theorem NestL_t : ∀ q ∈ NestL, nestW q ∈ lw_tbl := List.forall_mem_cons.mpr ⟨wt_38, List.forall_mem_cons.mpr ⟨wt_141, List.forall_mem_cons.mpr ⟨wt_183, List.forall_mem_cons.mpr ⟨wt_252, List.forall_mem_cons.mpr ⟨wt_376, List.forall_mem_cons.mpr ⟨wt_401, fun _ h => absurd h List.not_mem_nil⟩⟩⟩⟩⟩⟩
theorem NestL_o : ∀ q ∈ NestL, (nestW q).onTables = true := fun _ _ => rfl
theorem wt_685 : (Jvm.Cond.laysStatic "java/lang/Throwable" "UNASSIGNED_STACK" "[Ljava/lang/StackTraceElement;") ∈ lw_tbl := List.mem_append_right _ (show _ ∈ tables_1 from (List.mem_append_right _ (List.mem_append_right _ (List.mem_append_left _ (List.mem_of_getElem? (i := 205) rfl)))))
theorem wt_687 : (Jvm.Cond.laysStatic "java/lang/Throwable" "SUPPRESSED_SENTINEL" "Ljava/util/List;") ∈ lw_tbl := List.mem_append_right _ (show _ ∈ tables_1 from (List.mem_append_right _ (List.mem_append_right _ (List.mem_append_left _ (List.mem_of_getElem? (i := 207) rfl)))))
theorem wt_811 : (Jvm.Cond.laysStatic "java/lang/String" "COMPACT_STRINGS" "Z") ∈ lw_tbl := List.mem_append_right _ (show _ ∈ tables_1 from (List.mem_append_right _ (List.mem_append_right _ (List.mem_append_right _ (List.mem_append_left _ (List.mem_of_getElem? (i := 91) rfl))))))
theorem wt_827 : (Jvm.Cond.laysStatic "jdk/internal/util/Preconditions" "SIOOBE_FORMATTER" "Ljava/util/function/BiFunction;") ∈ lw_tbl := List.mem_append_right _ (show _ ∈ tables_1 from (List.mem_append_right _ (List.mem_append_right _ (List.mem_append_right _ (List.mem_append_left _ (List.mem_of_getElem? (i := 107) rfl))))))
theorem wt_15 : (Jvm.Cond.initialized "java/lang/Throwable") ∈ lw_tbl := List.mem_append_right _ (show _ ∈ tables_1 from (List.mem_append_left _ (List.mem_of_getElem? (i := 15) rfl)))
theorem wt_20 : (Jvm.Cond.initialized "java/lang/String") ∈ lw_tbl := List.mem_append_right _ (show _ ∈ tables_1 from (List.mem_append_left _ (List.mem_of_getElem? (i := 20) rfl)))
theorem wt_22 : (Jvm.Cond.initialized "jdk/internal/util/Preconditions") ∈ lw_tbl := List.mem_append_right _ (show _ ∈ tables_1 from (List.mem_append_left _ (List.mem_of_getElem? (i := 22) rfl)))
theorem wt_797 : (Jvm.Cond.stringRef "KeptWell$Tape" (74 : Nat) "does") ∈ lw_tbl := List.mem_append_right _ (show _ ∈ tables_1 from (List.mem_append_right _ (List.mem_append_right _ (List.mem_append_right _ (List.mem_append_left _ (List.mem_of_getElem? (i := 77) rfl))))))
theorem wt_862 : (Jvm.Cond.stringRef "KeptWell$Tape" (87 : Nat) "any") ∈ lw_tbl := List.mem_append_right _ (show _ ∈ tables_1 from (List.mem_append_right _ (List.mem_append_right _ (List.mem_append_right _ (List.mem_append_left _ (List.mem_of_getElem? (i := 142) rfl))))))
theorem wt_863 : (Jvm.Cond.stringRef "KeptWell$Tape" (89 : Nat) "to") ∈ lw_tbl := List.mem_append_right _ (show _ ∈ tables_1 from (List.mem_append_right _ (List.mem_append_right _ (List.mem_append_right _ (List.mem_append_left _ (List.mem_of_getElem? (i := 143) rfl))))))
theorem wt_1680 : (Jvm.Cond.stringRef "KeptWellModel" (165 : Nat) "does") ∈ lw_tbl := List.mem_append_right _ (show _ ∈ tables_1 from (List.mem_append_right _ (List.mem_append_right _ (List.mem_append_right _ (List.mem_append_right _ (List.mem_append_right _ (List.mem_append_right _ (List.mem_append_right _ (List.mem_append_left _ (List.mem_of_getElem? (i := 0) rfl))))))))))
theorem wt_1699 : (Jvm.Cond.stringRef "KeptWellModel" (152 : Nat) "any") ∈ lw_tbl := List.mem_append_right _ (show _ ∈ tables_1 from (List.mem_append_right _ (List.mem_append_right _ (List.mem_append_right _ (List.mem_append_right _ (List.mem_append_right _ (List.mem_append_right _ (List.mem_append_right _ (List.mem_append_left _ (List.mem_of_getElem? (i := 19) rfl))))))))))
theorem wt_1700 : (Jvm.Cond.stringRef "KeptWellModel" (157 : Nat) "to") ∈ lw_tbl := List.mem_append_right _ (show _ ∈ tables_1 from (List.mem_append_right _ (List.mem_append_right _ (List.mem_append_right _ (List.mem_append_right _ (List.mem_append_right _ (List.mem_append_right _ (List.mem_append_right _ (List.mem_append_left _ (List.mem_of_getElem? (i := 20) rfl))))))))))
theorem NcL_of {s : State} {args : Array Value} (hs : ∀ c ∈ flatC (Jvm.Cond.and given_1 narrow_1), c.before args s = true) : ∀ q ∈ NcL, va_Nc q.1 q.2 s := List.forall_mem_cons.mpr ⟨(va_Nc.of (hs (Jvm.Cond.not (Jvm.Cond.castable "java/lang/IllegalArgumentException" "java/lang/IndexOutOfBoundsException")) (List.mem_of_getElem? (i := 41) (by decide +kernel)))), List.forall_mem_cons.mpr ⟨(va_Nc.of (hs (Jvm.Cond.not (Jvm.Cond.castable "java/lang/UnsupportedOperationException" "java/lang/IllegalArgumentException")) (List.mem_of_getElem? (i := 25) (by decide +kernel)))), List.forall_mem_cons.mpr ⟨(va_Nc.of (hs (Jvm.Cond.not (Jvm.Cond.castable "java/util/NoSuchElementException" "java/lang/IndexOutOfBoundsException")) (List.mem_of_getElem? (i := 43) (by decide +kernel)))), List.forall_mem_cons.mpr ⟨(va_Nc.of (hs (Jvm.Cond.not (Jvm.Cond.castable "java/lang/IllegalStateException" "java/lang/IndexOutOfBoundsException")) (List.mem_of_getElem? (i := 44) (by decide +kernel)))), List.forall_mem_cons.mpr ⟨(va_Nc.of (hs (Jvm.Cond.not (Jvm.Cond.castable "java/lang/IllegalStateException" "java/lang/IllegalArgumentException")) (List.mem_of_getElem? (i := 27) (by decide +kernel)))), List.forall_mem_cons.mpr ⟨(va_Nc.of (hs (Jvm.Cond.not (Jvm.Cond.castable "java/util/NoSuchElementException" "java/lang/IllegalArgumentException")) (List.mem_of_getElem? (i := 26) (by decide +kernel)))), List.forall_mem_cons.mpr ⟨(va_Nc.of (hs (Jvm.Cond.not (Jvm.Cond.castable "java/util/NoSuchElementException" "java/lang/IllegalStateException")) (List.mem_of_getElem? (i := 95) (by decide +kernel)))), fun _ h => absurd h List.not_mem_nil⟩⟩⟩⟩⟩⟩⟩
set_option maxRecDepth 100000 in
set_option maxHeartbeats 4000000 in
theorem glue_g {s : State} {args : Array Value} (hts : ∀ w ∈ lw_tbl, w.before args s = true) (hs : ∀ c ∈ flatC (Jvm.Cond.and given_1 narrow_1), c.before args s = true) : ∃ g : GB, (∀ k, k < NC → g.2.1 k = s.heap.size + k) ∧ va_K g.1 vwCl (tys g) s ∧ Sta g s.heap.size s s.heap := by
  have htw : ∀ w ∈ wAll, w.before args s = true := fun w hw => hts w (List.mem_filter.mp hw).1
  obtain ⟨c0, i0, h0⟩ := u_known (T := TX0) htw in_X0 (htw _ wd_246)
  obtain ⟨c1, i1, h1⟩ := u_known (T := TX1) htw in_X1 (htw _ wd_369)
  obtain ⟨c2, i2, h2⟩ := u_known (T := TX2) htw in_X2 (htw _ wd_182)
  obtain ⟨c3, i3, h3⟩ := u_known (T := TX3) htw in_X3 (htw _ wd_339)
  obtain ⟨c4, i4, h4⟩ := u_known (T := TX4) htw in_X4 (htw _ wd_275)
  obtain ⟨c5, i5, h5⟩ := u_known (T := TX5) htw in_X5 (htw _ wd_375)
  obtain ⟨c6, i6, h6⟩ := u_known (T := TX6) htw in_X6 (htw _ wd_176)
  obtain ⟨c7, i7, h7⟩ := u_known (T := TX7) htw in_X7 (htw _ wd_43)
  obtain ⟨c8, i8, h8⟩ := u_known (T := TX8) htw in_X8 (htw _ wd_140)
  obtain ⟨c9, i9, h9⟩ := u_known (T := TX9) htw in_X9 (htw _ wd_314)
  obtain ⟨c10, i10, h10⟩ := u_known (T := TX10) htw in_X10 (htw _ wd_37)
  obtain ⟨c11, i11, h11⟩ := u_known (T := TX11) htw in_X11 (htw _ wd_29)
  obtain ⟨c12, i12, h12⟩ := u_known (T := TX12) htw in_X12 (htw _ wd_1475)
  obtain ⟨cint, kint, pint, aint, bint, dint⟩ := Cond.arrayClass_spec (htw _ wd_1604)
  obtain ⟨clong, klong, plong, along, blong, dlong⟩ := Cond.arrayClass_spec (htw _ wd_55)
  obtain ⟨cbyte, kbyte, pbyte, abyte, bbyte, dbyte⟩ := Cond.arrayClass_spec (htw _ wd_884)
  have hA0 : ∀ a : Nat, a < s.heap.size → ¬ (fun q => s.heap.size ≤ q) a := fun a h1 h2 => absurd h1 (Nat.not_lt.mpr h2)
  obtain ⟨k1, v1, hS1, e1⟩ := strS1 (A := fun q => s.heap.size ≤ q) hs hA0
  obtain ⟨k2, v2, hS2, e2⟩ := strS2 (A := fun q => s.heap.size ≤ q) hs hA0
  obtain ⟨ad, had⟩ : ∃ ad : Nat → Nat, ad = fun k => if k < NC then s.heap.size + k else if k < NC + 3 then k1 (k - NC) else if k < NC + 6 then v1 (k - (NC + 3)) else if k < NC + 9 then k2 (k - (NC + 6)) else v2 (k - (NC + 9)) := ⟨_, rfl⟩
  have hlow : ∀ k, k < NC → ad k = s.heap.size + k := fun k hk => by rw [had]; exact if_pos hk
  refine ⟨((fun k => [c0, c1, c2, c3, c4, c5, c6, c7, c8, c9, c10, c11, c12].getD k c0, fun k => [i0, i1, i2, i3, i4, i5, i6, i7, i8, i9, i10, i11, i12].getD k i0), ad, cint, clong, cbyte), hlow, ⟨fun c q hq => ?_, fun k q hk => ?_⟩, ?_⟩
  · match c, hq with
    | 0, hq => obtain rfl := Option.some.inj hq; exact h0
    | 1, hq => obtain rfl := Option.some.inj hq; exact h1
    | 2, hq => obtain rfl := Option.some.inj hq; exact h2
    | 3, hq => obtain rfl := Option.some.inj hq; exact h3
    | 4, hq => obtain rfl := Option.some.inj hq; exact h4
    | 5, hq => obtain rfl := Option.some.inj hq; exact h5
    | 6, hq => obtain rfl := Option.some.inj hq; exact h6
    | 7, hq => obtain rfl := Option.some.inj hq; exact h7
    | 8, hq => obtain rfl := Option.some.inj hq; exact h8
    | 9, hq => obtain rfl := Option.some.inj hq; exact h9
    | 10, hq => obtain rfl := Option.some.inj hq; exact h10
    | 11, hq => obtain rfl := Option.some.inj hq; exact h11
    | 12, hq => obtain rfl := Option.some.inj hq; exact h12
    | n + 13, hq => exact nomatch (show (none : Option vw_C) = some q from hq)
  · match k, hk with
    | 0, hk => obtain rfl := Option.some.inj hk; exact ⟨fun n z => ⟨fun k h => (by cases h), kint, bint, pint, dint⟩, aint⟩
    | 1, hk => obtain rfl := Option.some.inj hk; exact ⟨fun n z => ⟨fun k h => (by cases h), klong, blong, plong, dlong⟩, along⟩
    | 2, hk => obtain rfl := Option.some.inj hk; exact ⟨fun n z => ⟨fun k h => (by cases h), kbyte, bbyte, pbyte, dbyte⟩, abyte⟩
    | n + 3, hk => exact nomatch (show (none : Option (ClassId × FieldType)) = some q from hk)
  · have hAS : ∀ q, AS (((fun k => [c0, c1, c2, c3, c4, c5, c6, c7, c8, c9, c10, c11, c12].getD k c0, fun k => [i0, i1, i2, i3, i4, i5, i6, i7, i8, i9, i10, i11, i12].getD k i0), ad, cint, clong, cbyte) : GB) s.heap.size q → s.heap.size ≤ q := by
      rintro q (⟨k, hk, rfl⟩ | h)
      · show s.heap.size ≤ ad k
        rw [hlow k hk]
        omega
      · exact h
    have hA : ∀ a : Nat, a < s.heap.size → ¬ AS (((fun k => [c0, c1, c2, c3, c4, c5, c6, c7, c8, c9, c10, c11, c12].getD k c0, fun k => [i0, i1, i2, i3, i4, i5, i6, i7, i8, i9, i10, i11, i12].getD k i0), ad, cint, clong, cbyte) : GB) s.heap.size a := fun a h1 h2 => absurd h1 (Nat.not_lt.mpr (hAS a h2))
    have q1 : ∀ i, i < 3 → ad (NC + i) = k1 i := lt3_all (by rw [had]; rfl) (by rw [had]; rfl) (by rw [had]; rfl)
    have q2 : ∀ i, i < 3 → ad (NC + 3 + i) = v1 i := lt3_all (by rw [had]; rfl) (by rw [had]; rfl) (by rw [had]; rfl)
    have q3 : ∀ i, i < 3 → ad (NC + 6 + i) = k2 i := lt3_all (by rw [had]; rfl) (by rw [had]; rfl) (by rw [had]; rfl)
    have q4 : ∀ i, i < 3 → ad (NC + 9 + i) = v2 i := lt3_all (by rw [had]; rfl) (by rw [had]; rfl) (by rw [had]; rfl)
    refine ⟨⟨vx_Zqof (hts _ wt_685) (hts _ wt_15) (hs (Jvm.Cond.isRef (Jvm.Term.static "java/lang/Throwable" "UNASSIGNED_STACK" "[Ljava/lang/StackTraceElement;")) (List.mem_of_getElem? (i := 4) (by decide +kernel))) hA, vx_Zqof (hts _ wt_687) (hts _ wt_15) (hs (Jvm.Cond.isRef (Jvm.Term.static "java/lang/Throwable" "SUPPRESSED_SENTINEL" "Ljava/util/List;")) (List.mem_of_getElem? (i := 5) (by decide +kernel))) hA⟩, ⟨(vk_S_congr hS1 q1 q2).narrow hAS, (vk_S_congr hS2 q3 q4).narrow hAS⟩, ⟨⟨?_, ?_, ?_⟩, ?_, ?_, ?_⟩, fun w hw => va_Nw.of (BwL_ok w hw).2 (hts w (BwL_t w hw)), NcL_of hs, va_Zof (hts _ wt_811) (hts _ wt_20) (va_eqt (hs (Jvm.Cond.eq (Jvm.Term.static "java/lang/String" "COMPACT_STRINGS" "Z") (Jvm.Term.int (1 : Int32))) (List.mem_of_getElem? (i := 6) (by decide +kernel)))) hA, va_Zqof (hts _ wt_827) (hts _ wt_22) (hs (Jvm.Cond.isRef (Jvm.Term.static "jdk/internal/util/Preconditions" "SIOOBE_FORMATTER" "Ljava/util/function/BiFunction;")) (List.mem_of_getElem? (i := 7) (by decide +kernel))) hA⟩
    · show vk_R "KeptWell$Tape" 74 "does" (ad (NC + 0)) s
      rw [q1 0 (by decide)]
      exact vk_R.of (hts _ wt_797) (e1 0 (by decide))
    · show vk_R "KeptWell$Tape" 87 "any" (ad (NC + 1)) s
      rw [q1 1 (by decide)]
      exact vk_R.of (hts _ wt_862) (e1 1 (by decide))
    · show vk_R "KeptWell$Tape" 89 "to" (ad (NC + 2)) s
      rw [q1 2 (by decide)]
      exact vk_R.of (hts _ wt_863) (e1 2 (by decide))
    · show vk_R "KeptWellModel" 165 "does" (ad (NC + 6 + 0)) s
      rw [q3 0 (by decide)]
      exact vk_R.of (hts _ wt_1680) (e2 0 (by decide))
    · show vk_R "KeptWellModel" 152 "any" (ad (NC + 6 + 1)) s
      rw [q3 1 (by decide)]
      exact vk_R.of (hts _ wt_1699) (e2 1 (by decide))
    · show vk_R "KeptWellModel" 157 "to" (ad (NC + 6 + 2)) s
      rw [q3 2 (by decide)]
      exact vk_R.of (hts _ wt_1700) (e2 2 (by decide))
theorem toW_0 (g : GB) (M : Mem) (h0 : M.1 0 0 ≠ 0) (h1 : M.1 0 1 ≠ 0) (h3 : M.1 0 3 ≠ 0) (h5 : M.1 0 5 ≠ 0) (h6 : M.1 0 6 ≠ 0) (h7 : M.1 0 7 ≠ 0) (h8 : M.1 0 8 ≠ 0) (h9 : M.1 0 9 ≠ 0) (h10 : M.1 0 10 ≠ 0) (h11 : M.1 0 11 ≠ 0) : cellC g 0 M = cell g 0 M := by rw [shC_0, sh_0]; simp only [if_neg h0, if_neg h1, if_neg h3, if_neg h5, if_neg h6, if_neg h7, if_neg h8, if_neg h9, if_neg h10, if_neg h11]
theorem toW_1 (g : GB) (M : Mem) (h9 : M.1 1 9 ≠ 0) (h10 : M.1 1 10 ≠ 0) (h11 : M.1 1 11 ≠ 0) (h12 : M.1 1 12 ≠ 0) (h13 : M.1 1 13 ≠ 0) (h14 : M.1 1 14 ≠ 0) : cellC g 1 M = cell g 1 M := by rw [shC_1, sh_1]; simp only [if_neg h9, if_neg h10, if_neg h11, if_neg h12, if_neg h13, if_neg h14]
theorem toW_2 (g : GB) (M : Mem) (h0 : M.1 2 0 ≠ 0) : cellC g 2 M = cell g 2 M := by rw [shC_2, sh_2]; simp only [if_neg h0]
theorem toW_3 (g : GB) (M : Mem) : cellC g 3 M = cell g 3 M := by rw [shC_3, sh_3]
theorem toW_4 (g : GB) (M : Mem) (h0 : M.1 4 0 ≠ 0) : cellC g 4 M = cell g 4 M := by rw [shC_4, sh_4]; simp only [if_neg h0]
theorem toW_5 (g : GB) (M : Mem) : cellC g 5 M = cell g 5 M := by rw [shC_5, sh_5]
theorem toW_6 (g : GB) (M : Mem) (h0 : M.1 6 0 ≠ 0) : cellC g 6 M = cell g 6 M := by rw [shC_6, sh_6]; simp only [if_neg h0]
theorem toW_7 (g : GB) (M : Mem) : cellC g 7 M = cell g 7 M := by rw [shC_7, sh_7]
theorem toW_8 (g : GB) (M : Mem) (h0 : M.1 8 0 ≠ 0) : cellC g 8 M = cell g 8 M := by rw [shC_8, sh_8]; simp only [if_neg h0]
theorem toW_9 (g : GB) (M : Mem) : cellC g 9 M = cell g 9 M := by rw [shC_9, sh_9]
theorem toW_10 (g : GB) (M : Mem) (h0 : M.1 10 0 ≠ 0) : cellC g 10 M = cell g 10 M := by rw [shC_10, sh_10]; simp only [if_neg h0]
theorem toW_11 (g : GB) (M : Mem) : cellC g 11 M = cell g 11 M := by rw [shC_11, sh_11]
theorem toW_12 (g : GB) (M : Mem) (h0 : M.1 12 0 ≠ 0) : cellC g 12 M = cell g 12 M := by rw [shC_12, sh_12]; simp only [if_neg h0]
theorem toW_13 (g : GB) (M : Mem) : cellC g 13 M = cell g 13 M := by rw [shC_13, sh_13]
theorem toW_14 (g : GB) (M : Mem) (h9 : M.1 14 9 ≠ 0) (h10 : M.1 14 10 ≠ 0) (h11 : M.1 14 11 ≠ 0) (h12 : M.1 14 12 ≠ 0) (h13 : M.1 14 13 ≠ 0) (h14 : M.1 14 14 ≠ 0) : cellC g 14 M = cell g 14 M := by rw [shC_14, sh_14]; simp only [if_neg h9, if_neg h10, if_neg h11, if_neg h12, if_neg h13, if_neg h14]
theorem toW_15 (g : GB) (M : Mem) (h0 : M.1 15 0 ≠ 0) : cellC g 15 M = cell g 15 M := by rw [shC_15, sh_15]; simp only [if_neg h0]
theorem toW_16 (g : GB) (M : Mem) : cellC g 16 M = cell g 16 M := by rw [shC_16, sh_16]
theorem toW_17 (g : GB) (M : Mem) (h0 : M.1 17 0 ≠ 0) : cellC g 17 M = cell g 17 M := by rw [shC_17, sh_17]; simp only [if_neg h0]
theorem toW_18 (g : GB) (M : Mem) : cellC g 18 M = cell g 18 M := by rw [shC_18, sh_18]
theorem toW_19 (g : GB) (M : Mem) (h0 : M.1 19 0 ≠ 0) : cellC g 19 M = cell g 19 M := by rw [shC_19, sh_19]; simp only [if_neg h0]
theorem toW_20 (g : GB) (M : Mem) : cellC g 20 M = cell g 20 M := by rw [shC_20, sh_20]
theorem toW_21 (g : GB) (M : Mem) (h0 : M.1 21 0 ≠ 0) : cellC g 21 M = cell g 21 M := by rw [shC_21, sh_21]; simp only [if_neg h0]
theorem toW_22 (g : GB) (M : Mem) : cellC g 22 M = cell g 22 M := by rw [shC_22, sh_22]
theorem toW_23 (g : GB) (M : Mem) (h0 : M.1 23 0 ≠ 0) : cellC g 23 M = cell g 23 M := by rw [shC_23, sh_23]; simp only [if_neg h0]
theorem toW_24 (g : GB) (M : Mem) : cellC g 24 M = cell g 24 M := by rw [shC_24, sh_24]
theorem toW_25 (g : GB) (M : Mem) (h0 : M.1 25 0 ≠ 0) : cellC g 25 M = cell g 25 M := by rw [shC_25, sh_25]; simp only [if_neg h0]
theorem toW_26 (g : GB) (M : Mem) : cellC g 26 M = cell g 26 M := by rw [shC_26, sh_26]
theorem toW_27 (g : GB) (M : Mem) (h0 : M.1 27 0 ≠ 0) (h2 : M.1 27 2 ≠ 0) (h3 : M.1 27 3 ≠ 0) : cellC g 27 M = cell g 27 M := by rw [shC_27, sh_27]; simp only [if_neg h0, if_neg h2, if_neg h3]
theorem toW_28 (g : GB) (M : Mem) (h0 : M.1 28 0 ≠ 0) : cellC g 28 M = cell g 28 M := by rw [shC_28, sh_28]; simp only [if_neg h0]
theorem toW_29 (g : GB) (M : Mem) : cellC g 29 M = cell g 29 M := by rw [shC_29, sh_29]
theorem toW_30 (g : GB) (M : Mem) (h0 : M.1 30 0 ≠ 0) : cellC g 30 M = cell g 30 M := by rw [shC_30, sh_30]; simp only [if_neg h0]
theorem toW_31 (g : GB) (M : Mem) : cellC g 31 M = cell g 31 M := by rw [shC_31, sh_31]
theorem toW_32 (g : GB) (M : Mem) (h0 : M.1 32 0 ≠ 0) : cellC g 32 M = cell g 32 M := by rw [shC_32, sh_32]; simp only [if_neg h0]
theorem toW_33 (g : GB) (M : Mem) : cellC g 33 M = cell g 33 M := by rw [shC_33, sh_33]
theorem toW_34 (g : GB) (M : Mem) (h0 : M.1 34 0 ≠ 0) (h1 : M.1 34 1 ≠ 0) (h6 : M.1 34 6 ≠ 0) (h7 : M.1 34 7 ≠ 0) : cellC g 34 M = cell g 34 M := by rw [shC_34, sh_34]; simp only [if_neg h0, if_neg h1, if_neg h6, if_neg h7]
theorem toW_35 (g : GB) (M : Mem) (h0 : M.1 35 0 ≠ 0) (h1 : M.1 35 1 ≠ 0) (h2 : M.1 35 2 ≠ 0) (h3 : M.1 35 3 ≠ 0) (h4 : M.1 35 4 ≠ 0) (h5 : M.1 35 5 ≠ 0) : cellC g 35 M = cell g 35 M := by rw [shC_35, sh_35]; simp only [if_neg h0, if_neg h1, if_neg h2, if_neg h3, if_neg h4, if_neg h5]
theorem toW_36 (g : GB) (M : Mem) (h0 : M.1 36 0 ≠ 0) : cellC g 36 M = cell g 36 M := by rw [shC_36, sh_36]; simp only [if_neg h0]
theorem toW_37 (g : GB) (M : Mem) : cellC g 37 M = cell g 37 M := by rw [shC_37, sh_37]
theorem toW_38 (g : GB) (M : Mem) (h0 : M.1 38 0 ≠ 0) : cellC g 38 M = cell g 38 M := by rw [shC_38, sh_38]; simp only [if_neg h0]
theorem toW_39 (g : GB) (M : Mem) : cellC g 39 M = cell g 39 M := by rw [shC_39, sh_39]
theorem toW_40 (g : GB) (M : Mem) (h0 : M.1 40 0 ≠ 0) : cellC g 40 M = cell g 40 M := by rw [shC_40, sh_40]; simp only [if_neg h0]
theorem toW_41 (g : GB) (M : Mem) : cellC g 41 M = cell g 41 M := by rw [shC_41, sh_41]
theorem toW_42 (g : GB) (M : Mem) (h0 : M.1 42 0 ≠ 0) : cellC g 42 M = cell g 42 M := by rw [shC_42, sh_42]; simp only [if_neg h0]
theorem toW_43 (g : GB) (M : Mem) : cellC g 43 M = cell g 43 M := by rw [shC_43, sh_43]
theorem toW_44 (g : GB) (M : Mem) (h0 : M.1 44 0 ≠ 0) : cellC g 44 M = cell g 44 M := by rw [shC_44, sh_44]; simp only [if_neg h0]
theorem toW_45 (g : GB) (M : Mem) : cellC g 45 M = cell g 45 M := by rw [shC_45, sh_45]
theorem toW_46 (g : GB) (M : Mem) (h0 : M.1 46 0 ≠ 0) : cellC g 46 M = cell g 46 M := by rw [shC_46, sh_46]; simp only [if_neg h0]
theorem toW_47 (g : GB) (M : Mem) : cellC g 47 M = cell g 47 M := by rw [shC_47, sh_47]
theorem toW_48 (g : GB) (M : Mem) (h0 : M.1 48 0 ≠ 0) : cellC g 48 M = cell g 48 M := by rw [shC_48, sh_48]; simp only [if_neg h0]
theorem toW_49 (g : GB) (M : Mem) : cellC g 49 M = cell g 49 M := by rw [shC_49, sh_49]
theorem toW_50 (g : GB) (M : Mem) (h0 : M.1 50 0 ≠ 0) : cellC g 50 M = cell g 50 M := by rw [shC_50, sh_50]; simp only [if_neg h0]
theorem toW_51 (g : GB) (M : Mem) : cellC g 51 M = cell g 51 M := by rw [shC_51, sh_51]
theorem toW_52 (g : GB) (M : Mem) (h0 : M.1 52 0 ≠ 0) (h1 : M.1 52 1 ≠ 0) (h2 : M.1 52 2 ≠ 0) : cellC g 52 M = cell g 52 M := by rw [shC_52, sh_52]; simp only [if_neg h0, if_neg h1, if_neg h2]
theorem toW_53 (g : GB) (M : Mem) (h0 : M.1 53 0 ≠ 0) (h1 : M.1 53 1 ≠ 0) (h2 : M.1 53 2 ≠ 0) (h3 : M.1 53 3 ≠ 0) (h4 : M.1 53 4 ≠ 0) (h5 : M.1 53 5 ≠ 0) : cellC g 53 M = cell g 53 M := by rw [shC_53, sh_53]; simp only [if_neg h0, if_neg h1, if_neg h2, if_neg h3, if_neg h4, if_neg h5]
theorem toW_54 (g : GB) (M : Mem) (h0 : M.1 54 0 ≠ 0) : cellC g 54 M = cell g 54 M := by rw [shC_54, sh_54]; simp only [if_neg h0]
theorem toW_55 (g : GB) (M : Mem) : cellC g 55 M = cell g 55 M := by rw [shC_55, sh_55]
theorem toW_56 (g : GB) (M : Mem) (h0 : M.1 56 0 ≠ 0) : cellC g 56 M = cell g 56 M := by rw [shC_56, sh_56]; simp only [if_neg h0]
theorem toW_57 (g : GB) (M : Mem) : cellC g 57 M = cell g 57 M := by rw [shC_57, sh_57]
theorem toW_58 (g : GB) (M : Mem) (h0 : M.1 58 0 ≠ 0) : cellC g 58 M = cell g 58 M := by rw [shC_58, sh_58]; simp only [if_neg h0]
theorem toW_59 (g : GB) (M : Mem) : cellC g 59 M = cell g 59 M := by rw [shC_59, sh_59]
theorem toW_60 (g : GB) (M : Mem) (h0 : M.1 60 0 ≠ 0) : cellC g 60 M = cell g 60 M := by rw [shC_60, sh_60]; simp only [if_neg h0]
theorem toW_61 (g : GB) (M : Mem) : cellC g 61 M = cell g 61 M := by rw [shC_61, sh_61]
theorem toW_62 (g : GB) (M : Mem) (h0 : M.1 62 0 ≠ 0) : cellC g 62 M = cell g 62 M := by rw [shC_62, sh_62]; simp only [if_neg h0]
theorem toW_63 (g : GB) (M : Mem) : cellC g 63 M = cell g 63 M := by rw [shC_63, sh_63]
theorem toW_64 (g : GB) (M : Mem) (h0 : M.1 64 0 ≠ 0) : cellC g 64 M = cell g 64 M := by rw [shC_64, sh_64]; simp only [if_neg h0]
theorem toW_65 (g : GB) (M : Mem) : cellC g 65 M = cell g 65 M := by rw [shC_65, sh_65]
theorem toW_66 (g : GB) (M : Mem) (h0 : M.1 66 0 ≠ 0) : cellC g 66 M = cell g 66 M := by rw [shC_66, sh_66]; simp only [if_neg h0]
theorem toW_67 (g : GB) (M : Mem) : cellC g 67 M = cell g 67 M := by rw [shC_67, sh_67]
theorem toW_68 (g : GB) (M : Mem) (h0 : M.1 68 0 ≠ 0) (h1 : M.1 68 1 ≠ 0) (h2 : M.1 68 2 ≠ 0) (h6 : M.1 68 6 ≠ 0) (h7 : M.1 68 7 ≠ 0) (h8 : M.1 68 8 ≠ 0) : cellC g 68 M = cell g 68 M := by rw [shC_68, sh_68]; simp only [if_neg h0, if_neg h1, if_neg h2, if_neg h6, if_neg h7, if_neg h8]
theorem toW_69 (g : GB) (M : Mem) (h0 : M.1 69 0 ≠ 0) : cellC g 69 M = cell g 69 M := by rw [shC_69, sh_69]; simp only [if_neg h0]
theorem toW_70 (g : GB) (M : Mem) : cellC g 70 M = cell g 70 M := by rw [shC_70, sh_70]
theorem toW_71 (g : GB) (M : Mem) (h0 : M.1 71 0 ≠ 0) : cellC g 71 M = cell g 71 M := by rw [shC_71, sh_71]; simp only [if_neg h0]
theorem toW_72 (g : GB) (M : Mem) : cellC g 72 M = cell g 72 M := by rw [shC_72, sh_72]
theorem toW_73 (g : GB) (M : Mem) (h0 : M.1 73 0 ≠ 0) : cellC g 73 M = cell g 73 M := by rw [shC_73, sh_73]; simp only [if_neg h0]
theorem toW_74 (g : GB) (M : Mem) : cellC g 74 M = cell g 74 M := by rw [shC_74, sh_74]
theorem toW_75 (g : GB) (M : Mem) (h0 : M.1 75 0 ≠ 0) : cellC g 75 M = cell g 75 M := by rw [shC_75, sh_75]; simp only [if_neg h0]
theorem toW_76 (g : GB) (M : Mem) : cellC g 76 M = cell g 76 M := by rw [shC_76, sh_76]
theorem toW_77 (g : GB) (M : Mem) (h0 : M.1 77 0 ≠ 0) : cellC g 77 M = cell g 77 M := by rw [shC_77, sh_77]; simp only [if_neg h0]
theorem toW_78 (g : GB) (M : Mem) : cellC g 78 M = cell g 78 M := by rw [shC_78, sh_78]
theorem toW_79 (g : GB) (M : Mem) (h0 : M.1 79 0 ≠ 0) : cellC g 79 M = cell g 79 M := by rw [shC_79, sh_79]; simp only [if_neg h0]
theorem toW_80 (g : GB) (M : Mem) (h0 : M.1 80 0 ≠ 0) (h1 : M.1 80 1 ≠ 0) (h2 : M.1 80 2 ≠ 0) (h3 : M.1 80 3 ≠ 0) (h4 : M.1 80 4 ≠ 0) (h5 : M.1 80 5 ≠ 0) (h6 : M.1 80 6 ≠ 0) : cellC g 80 M = cell g 80 M := by rw [shC_80, sh_80]; simp only [if_neg h0, if_neg h1, if_neg h2, if_neg h3, if_neg h4, if_neg h5, if_neg h6]
theorem toW_81 (g : GB) (M : Mem) (h0 : M.1 81 0 ≠ 0) : cellC g 81 M = cell g 81 M := by rw [shC_81, sh_81]; simp only [if_neg h0]
theorem toW_82 (g : GB) (M : Mem) : cellC g 82 M = cell g 82 M := by rw [shC_82, sh_82]
theorem toW_83 (g : GB) (M : Mem) (h0 : M.1 83 0 ≠ 0) : cellC g 83 M = cell g 83 M := by rw [shC_83, sh_83]; simp only [if_neg h0]
theorem toW_84 (g : GB) (M : Mem) : cellC g 84 M = cell g 84 M := by rw [shC_84, sh_84]
theorem toW_85 (g : GB) (M : Mem) (h0 : M.1 85 0 ≠ 0) : cellC g 85 M = cell g 85 M := by rw [shC_85, sh_85]; simp only [if_neg h0]
theorem toW_86 (g : GB) (M : Mem) : cellC g 86 M = cell g 86 M := by rw [shC_86, sh_86]
theorem toW_87 (g : GB) (M : Mem) (h0 : M.1 87 0 ≠ 0) : cellC g 87 M = cell g 87 M := by rw [shC_87, sh_87]; simp only [if_neg h0]
theorem toW_88 (g : GB) (M : Mem) : cellC g 88 M = cell g 88 M := by rw [shC_88, sh_88]
theorem toW_89 (g : GB) (M : Mem) (h0 : M.1 89 0 ≠ 0) : cellC g 89 M = cell g 89 M := by rw [shC_89, sh_89]; simp only [if_neg h0]
theorem toW_90 (g : GB) (M : Mem) : cellC g 90 M = cell g 90 M := by rw [shC_90, sh_90]
theorem toW_91 (g : GB) (M : Mem) (h0 : M.1 91 0 ≠ 0) (h1 : M.1 91 1 ≠ 0) : cellC g 91 M = cell g 91 M := by rw [shC_91, sh_91]; simp only [if_neg h0, if_neg h1]
theorem toW_92 (g : GB) (M : Mem)  : cellC g 92 M = cell g 92 M := by rw [shC_92, sh_92]
theorem toW_93 (g : GB) (M : Mem)  : cellC g 93 M = cell g 93 M := by rw [shC_93, sh_93]
theorem toW_94 (g : GB) (M : Mem) (h1 : M.1 94 1 ≠ 0) (h2 : M.1 94 2 ≠ 0) (h4 : M.1 94 4 ≠ 0) (h10 : M.1 94 10 ≠ 0) (h11 : M.1 94 11 ≠ 0) (h12 : M.1 94 12 ≠ 0) (h13 : M.1 94 13 ≠ 0) (h17 : M.1 94 17 ≠ 0) (h18 : M.1 94 18 ≠ 0) (h21 : M.1 94 21 ≠ 0) (h22 : M.1 94 22 ≠ 0) (h23 : M.1 94 23 ≠ 0) (h24 : M.1 94 24 ≠ 0) (h25 : M.1 94 25 ≠ 0) (h26 : M.1 94 26 ≠ 0) (h27 : M.1 94 27 ≠ 0) (h28 : M.1 94 28 ≠ 0) (h29 : M.1 94 29 ≠ 0) (h30 : M.1 94 30 ≠ 0) (h31 : M.1 94 31 ≠ 0) (h32 : M.1 94 32 ≠ 0) (h33 : M.1 94 33 ≠ 0) (h34 : M.1 94 34 ≠ 0) (h38 : M.1 94 38 ≠ 0) (h39 : M.1 94 39 ≠ 0) (h40 : M.1 94 40 ≠ 0) : cellC g 94 M = cell g 94 M := by rw [shC_94, sh_94]; simp only [if_neg h1, if_neg h2, if_neg h4, if_neg h10, if_neg h11, if_neg h12, if_neg h13, if_neg h17, if_neg h18, if_neg h21, if_neg h22, if_neg h23, if_neg h24, if_neg h25, if_neg h26, if_neg h27, if_neg h28, if_neg h29, if_neg h30, if_neg h31, if_neg h32, if_neg h33, if_neg h34, if_neg h38, if_neg h39, if_neg h40]
theorem toW_95 (g : GB) (M : Mem) : cellC g 95 M = cell g 95 M := by rw [shC_95, sh_95]
theorem toW_96 (g : GB) (M : Mem) : cellC g 96 M = cell g 96 M := by rw [shC_96, sh_96]
theorem toW_97 (g : GB) (M : Mem) : cellC g 97 M = cell g 97 M := by rw [shC_97, sh_97]
theorem toW_98 (g : GB) (M : Mem) : cellC g 98 M = cell g 98 M := by rw [shC_98, sh_98]
theorem toW_99 (g : GB) (M : Mem) : cellC g 99 M = cell g 99 M := by rw [shC_99, sh_99]
theorem toW_100 (g : GB) (M : Mem) : cellC g 100 M = cell g 100 M := by rw [shC_100, sh_100]
theorem toW_101 (g : GB) (M : Mem) : cellC g 101 M = cell g 101 M := by rw [shC_101, sh_101]
theorem toW_102 (g : GB) (M : Mem) : cellC g 102 M = cell g 102 M := by rw [shC_102, sh_102]
theorem toW_103 (g : GB) (M : Mem) : cellC g 103 M = cell g 103 M := by rw [shC_103, sh_103]
theorem toW_104 (g : GB) (M : Mem) : cellC g 104 M = cell g 104 M := by rw [shC_104, sh_104]
theorem toW_105 (g : GB) (M : Mem) : cellC g 105 M = cell g 105 M := by rw [shC_105, sh_105]
theorem toW_106 (g : GB) (M : Mem) : cellC g 106 M = cell g 106 M := by rw [shC_106, sh_106]
theorem toW_107 (g : GB) (M : Mem) : cellC g 107 M = cell g 107 M := by rw [shC_107, sh_107]
theorem toW_108 (g : GB) (M : Mem) : cellC g 108 M = cell g 108 M := by rw [shC_108, sh_108]
theorem toW_109 (g : GB) (M : Mem) : cellC g 109 M = cell g 109 M := by rw [shC_109, sh_109]
theorem toW_110 (g : GB) (M : Mem) : cellC g 110 M = cell g 110 M := by rw [shC_110, sh_110]
theorem toW_111 (g : GB) (M : Mem) : cellC g 111 M = cell g 111 M := by rw [shC_111, sh_111]
theorem toW_112 (g : GB) (M : Mem) : cellC g 112 M = cell g 112 M := by rw [shC_112, sh_112]
theorem toW_113 (g : GB) (M : Mem) : cellC g 113 M = cell g 113 M := by rw [shC_113, sh_113]
theorem toW_114 (g : GB) (M : Mem) : cellC g 114 M = cell g 114 M := by rw [shC_114, sh_114]
theorem toW_115 (g : GB) (M : Mem) : cellC g 115 M = cell g 115 M := by rw [shC_115, sh_115]
theorem toW_116 (g : GB) (M : Mem) : cellC g 116 M = cell g 116 M := by rw [shC_116, sh_116]
theorem toW_117 (g : GB) (M : Mem) : cellC g 117 M = cell g 117 M := by rw [shC_117, sh_117]
theorem toW_118 (g : GB) (M : Mem) : cellC g 118 M = cell g 118 M := by rw [shC_118, sh_118]
theorem toW_119 (g : GB) (M : Mem) : cellC g 119 M = cell g 119 M := by rw [shC_119, sh_119]
theorem toW_120 (g : GB) (M : Mem) : cellC g 120 M = cell g 120 M := by rw [shC_120, sh_120]
theorem toW_121 (g : GB) (M : Mem) : cellC g 121 M = cell g 121 M := by rw [shC_121, sh_121]
def flagL : List (Nat × Nat) := [(0, 0), (0, 1), (0, 3), (0, 5), (0, 6), (0, 7), (0, 8), (0, 9), (0, 10), (0, 11), (1, 9), (1, 10), (1, 11), (1, 12), (1, 13), (1, 14), (2, 0), (4, 0), (6, 0), (8, 0), (10, 0), (12, 0), (14, 9), (14, 10), (14, 11), (14, 12), (14, 13), (14, 14), (15, 0), (17, 0), (19, 0), (21, 0), (23, 0), (25, 0), (27, 0), (27, 2), (27, 3), (28, 0), (30, 0), (32, 0), (34, 0), (34, 1), (34, 6), (34, 7), (35, 0), (35, 1), (35, 2), (35, 3), (35, 4), (35, 5), (36, 0), (38, 0), (40, 0), (42, 0), (44, 0), (46, 0), (48, 0), (50, 0), (52, 0), (52, 1), (52, 2), (53, 0), (53, 1), (53, 2), (53, 3), (53, 4), (53, 5), (54, 0), (56, 0), (58, 0), (60, 0), (62, 0), (64, 0), (66, 0), (68, 0), (68, 1), (68, 2), (68, 6), (68, 7), (68, 8), (69, 0), (71, 0), (73, 0), (75, 0), (77, 0), (79, 0), (80, 0), (80, 1), (80, 2), (80, 3), (80, 4), (80, 5), (80, 6), (81, 0), (83, 0), (85, 0), (87, 0), (89, 0), (91, 0), (91, 1), (94, 1), (94, 2), (94, 4), (94, 10), (94, 11), (94, 12), (94, 13), (94, 17), (94, 18), (94, 21), (94, 22), (94, 23), (94, 24), (94, 25), (94, 26), (94, 27), (94, 28), (94, 29), (94, 30), (94, 31), (94, 32), (94, 33), (94, 34), (94, 38), (94, 39), (94, 40)]
def M_zero : Mem := (fun _ _ => 0, fun _ _ => 0)
def M_start : Mem := FI_MO_94 (FI_KW_0 M_zero)
set_option maxRecDepth 1000000 in
theorem flags_start : ∀ q ∈ flagL, M_start.1 q.1 q.2 ≠ 0 := by decide +kernel
set_option maxRecDepth 100000 in
theorem toW (g : GB) (M : Mem) (h : ∀ q ∈ flagL, M.1 q.1 q.2 ≠ 0) : ∀ k, k < NC → cellC g k M = cell g k M := by
  intro k hk
  match k, hk with
  | 0, _ => exact toW_0 g M (h (0, 0) (List.mem_of_getElem? (i := 0) rfl)) (h (0, 1) (List.mem_of_getElem? (i := 1) rfl)) (h (0, 3) (List.mem_of_getElem? (i := 2) rfl)) (h (0, 5) (List.mem_of_getElem? (i := 3) rfl)) (h (0, 6) (List.mem_of_getElem? (i := 4) rfl)) (h (0, 7) (List.mem_of_getElem? (i := 5) rfl)) (h (0, 8) (List.mem_of_getElem? (i := 6) rfl)) (h (0, 9) (List.mem_of_getElem? (i := 7) rfl)) (h (0, 10) (List.mem_of_getElem? (i := 8) rfl)) (h (0, 11) (List.mem_of_getElem? (i := 9) rfl))
  | 1, _ => exact toW_1 g M (h (1, 9) (List.mem_of_getElem? (i := 10) rfl)) (h (1, 10) (List.mem_of_getElem? (i := 11) rfl)) (h (1, 11) (List.mem_of_getElem? (i := 12) rfl)) (h (1, 12) (List.mem_of_getElem? (i := 13) rfl)) (h (1, 13) (List.mem_of_getElem? (i := 14) rfl)) (h (1, 14) (List.mem_of_getElem? (i := 15) rfl))
  | 2, _ => exact toW_2 g M (h (2, 0) (List.mem_of_getElem? (i := 16) rfl))
  | 3, _ => exact toW_3 g M
  | 4, _ => exact toW_4 g M (h (4, 0) (List.mem_of_getElem? (i := 17) rfl))
  | 5, _ => exact toW_5 g M
  | 6, _ => exact toW_6 g M (h (6, 0) (List.mem_of_getElem? (i := 18) rfl))
  | 7, _ => exact toW_7 g M
  | 8, _ => exact toW_8 g M (h (8, 0) (List.mem_of_getElem? (i := 19) rfl))
  | 9, _ => exact toW_9 g M
  | 10, _ => exact toW_10 g M (h (10, 0) (List.mem_of_getElem? (i := 20) rfl))
  | 11, _ => exact toW_11 g M
  | 12, _ => exact toW_12 g M (h (12, 0) (List.mem_of_getElem? (i := 21) rfl))
  | 13, _ => exact toW_13 g M
  | 14, _ => exact toW_14 g M (h (14, 9) (List.mem_of_getElem? (i := 22) rfl)) (h (14, 10) (List.mem_of_getElem? (i := 23) rfl)) (h (14, 11) (List.mem_of_getElem? (i := 24) rfl)) (h (14, 12) (List.mem_of_getElem? (i := 25) rfl)) (h (14, 13) (List.mem_of_getElem? (i := 26) rfl)) (h (14, 14) (List.mem_of_getElem? (i := 27) rfl))
  | 15, _ => exact toW_15 g M (h (15, 0) (List.mem_of_getElem? (i := 28) rfl))
  | 16, _ => exact toW_16 g M
  | 17, _ => exact toW_17 g M (h (17, 0) (List.mem_of_getElem? (i := 29) rfl))
  | 18, _ => exact toW_18 g M
  | 19, _ => exact toW_19 g M (h (19, 0) (List.mem_of_getElem? (i := 30) rfl))
  | 20, _ => exact toW_20 g M
  | 21, _ => exact toW_21 g M (h (21, 0) (List.mem_of_getElem? (i := 31) rfl))
  | 22, _ => exact toW_22 g M
  | 23, _ => exact toW_23 g M (h (23, 0) (List.mem_of_getElem? (i := 32) rfl))
  | 24, _ => exact toW_24 g M
  | 25, _ => exact toW_25 g M (h (25, 0) (List.mem_of_getElem? (i := 33) rfl))
  | 26, _ => exact toW_26 g M
  | 27, _ => exact toW_27 g M (h (27, 0) (List.mem_of_getElem? (i := 34) rfl)) (h (27, 2) (List.mem_of_getElem? (i := 35) rfl)) (h (27, 3) (List.mem_of_getElem? (i := 36) rfl))
  | 28, _ => exact toW_28 g M (h (28, 0) (List.mem_of_getElem? (i := 37) rfl))
  | 29, _ => exact toW_29 g M
  | 30, _ => exact toW_30 g M (h (30, 0) (List.mem_of_getElem? (i := 38) rfl))
  | 31, _ => exact toW_31 g M
  | 32, _ => exact toW_32 g M (h (32, 0) (List.mem_of_getElem? (i := 39) rfl))
  | 33, _ => exact toW_33 g M
  | 34, _ => exact toW_34 g M (h (34, 0) (List.mem_of_getElem? (i := 40) rfl)) (h (34, 1) (List.mem_of_getElem? (i := 41) rfl)) (h (34, 6) (List.mem_of_getElem? (i := 42) rfl)) (h (34, 7) (List.mem_of_getElem? (i := 43) rfl))
  | 35, _ => exact toW_35 g M (h (35, 0) (List.mem_of_getElem? (i := 44) rfl)) (h (35, 1) (List.mem_of_getElem? (i := 45) rfl)) (h (35, 2) (List.mem_of_getElem? (i := 46) rfl)) (h (35, 3) (List.mem_of_getElem? (i := 47) rfl)) (h (35, 4) (List.mem_of_getElem? (i := 48) rfl)) (h (35, 5) (List.mem_of_getElem? (i := 49) rfl))
  | 36, _ => exact toW_36 g M (h (36, 0) (List.mem_of_getElem? (i := 50) rfl))
  | 37, _ => exact toW_37 g M
  | 38, _ => exact toW_38 g M (h (38, 0) (List.mem_of_getElem? (i := 51) rfl))
  | 39, _ => exact toW_39 g M
  | 40, _ => exact toW_40 g M (h (40, 0) (List.mem_of_getElem? (i := 52) rfl))
  | 41, _ => exact toW_41 g M
  | 42, _ => exact toW_42 g M (h (42, 0) (List.mem_of_getElem? (i := 53) rfl))
  | 43, _ => exact toW_43 g M
  | 44, _ => exact toW_44 g M (h (44, 0) (List.mem_of_getElem? (i := 54) rfl))
  | 45, _ => exact toW_45 g M
  | 46, _ => exact toW_46 g M (h (46, 0) (List.mem_of_getElem? (i := 55) rfl))
  | 47, _ => exact toW_47 g M
  | 48, _ => exact toW_48 g M (h (48, 0) (List.mem_of_getElem? (i := 56) rfl))
  | 49, _ => exact toW_49 g M
  | 50, _ => exact toW_50 g M (h (50, 0) (List.mem_of_getElem? (i := 57) rfl))
  | 51, _ => exact toW_51 g M
  | 52, _ => exact toW_52 g M (h (52, 0) (List.mem_of_getElem? (i := 58) rfl)) (h (52, 1) (List.mem_of_getElem? (i := 59) rfl)) (h (52, 2) (List.mem_of_getElem? (i := 60) rfl))
  | 53, _ => exact toW_53 g M (h (53, 0) (List.mem_of_getElem? (i := 61) rfl)) (h (53, 1) (List.mem_of_getElem? (i := 62) rfl)) (h (53, 2) (List.mem_of_getElem? (i := 63) rfl)) (h (53, 3) (List.mem_of_getElem? (i := 64) rfl)) (h (53, 4) (List.mem_of_getElem? (i := 65) rfl)) (h (53, 5) (List.mem_of_getElem? (i := 66) rfl))
  | 54, _ => exact toW_54 g M (h (54, 0) (List.mem_of_getElem? (i := 67) rfl))
  | 55, _ => exact toW_55 g M
  | 56, _ => exact toW_56 g M (h (56, 0) (List.mem_of_getElem? (i := 68) rfl))
  | 57, _ => exact toW_57 g M
  | 58, _ => exact toW_58 g M (h (58, 0) (List.mem_of_getElem? (i := 69) rfl))
  | 59, _ => exact toW_59 g M
  | 60, _ => exact toW_60 g M (h (60, 0) (List.mem_of_getElem? (i := 70) rfl))
  | 61, _ => exact toW_61 g M
  | 62, _ => exact toW_62 g M (h (62, 0) (List.mem_of_getElem? (i := 71) rfl))
  | 63, _ => exact toW_63 g M
  | 64, _ => exact toW_64 g M (h (64, 0) (List.mem_of_getElem? (i := 72) rfl))
  | 65, _ => exact toW_65 g M
  | 66, _ => exact toW_66 g M (h (66, 0) (List.mem_of_getElem? (i := 73) rfl))
  | 67, _ => exact toW_67 g M
  | 68, _ => exact toW_68 g M (h (68, 0) (List.mem_of_getElem? (i := 74) rfl)) (h (68, 1) (List.mem_of_getElem? (i := 75) rfl)) (h (68, 2) (List.mem_of_getElem? (i := 76) rfl)) (h (68, 6) (List.mem_of_getElem? (i := 77) rfl)) (h (68, 7) (List.mem_of_getElem? (i := 78) rfl)) (h (68, 8) (List.mem_of_getElem? (i := 79) rfl))
  | 69, _ => exact toW_69 g M (h (69, 0) (List.mem_of_getElem? (i := 80) rfl))
  | 70, _ => exact toW_70 g M
  | 71, _ => exact toW_71 g M (h (71, 0) (List.mem_of_getElem? (i := 81) rfl))
  | 72, _ => exact toW_72 g M
  | 73, _ => exact toW_73 g M (h (73, 0) (List.mem_of_getElem? (i := 82) rfl))
  | 74, _ => exact toW_74 g M
  | 75, _ => exact toW_75 g M (h (75, 0) (List.mem_of_getElem? (i := 83) rfl))
  | 76, _ => exact toW_76 g M
  | 77, _ => exact toW_77 g M (h (77, 0) (List.mem_of_getElem? (i := 84) rfl))
  | 78, _ => exact toW_78 g M
  | 79, _ => exact toW_79 g M (h (79, 0) (List.mem_of_getElem? (i := 85) rfl))
  | 80, _ => exact toW_80 g M (h (80, 0) (List.mem_of_getElem? (i := 86) rfl)) (h (80, 1) (List.mem_of_getElem? (i := 87) rfl)) (h (80, 2) (List.mem_of_getElem? (i := 88) rfl)) (h (80, 3) (List.mem_of_getElem? (i := 89) rfl)) (h (80, 4) (List.mem_of_getElem? (i := 90) rfl)) (h (80, 5) (List.mem_of_getElem? (i := 91) rfl)) (h (80, 6) (List.mem_of_getElem? (i := 92) rfl))
  | 81, _ => exact toW_81 g M (h (81, 0) (List.mem_of_getElem? (i := 93) rfl))
  | 82, _ => exact toW_82 g M
  | 83, _ => exact toW_83 g M (h (83, 0) (List.mem_of_getElem? (i := 94) rfl))
  | 84, _ => exact toW_84 g M
  | 85, _ => exact toW_85 g M (h (85, 0) (List.mem_of_getElem? (i := 95) rfl))
  | 86, _ => exact toW_86 g M
  | 87, _ => exact toW_87 g M (h (87, 0) (List.mem_of_getElem? (i := 96) rfl))
  | 88, _ => exact toW_88 g M
  | 89, _ => exact toW_89 g M (h (89, 0) (List.mem_of_getElem? (i := 97) rfl))
  | 90, _ => exact toW_90 g M
  | 91, _ => exact toW_91 g M (h (91, 0) (List.mem_of_getElem? (i := 98) rfl)) (h (91, 1) (List.mem_of_getElem? (i := 99) rfl))
  | 92, _ => exact toW_92 g M
  | 93, _ => exact toW_93 g M
  | 94, _ => exact toW_94 g M (h (94, 1) (List.mem_of_getElem? (i := 100) rfl)) (h (94, 2) (List.mem_of_getElem? (i := 101) rfl)) (h (94, 4) (List.mem_of_getElem? (i := 102) rfl)) (h (94, 10) (List.mem_of_getElem? (i := 103) rfl)) (h (94, 11) (List.mem_of_getElem? (i := 104) rfl)) (h (94, 12) (List.mem_of_getElem? (i := 105) rfl)) (h (94, 13) (List.mem_of_getElem? (i := 106) rfl)) (h (94, 17) (List.mem_of_getElem? (i := 107) rfl)) (h (94, 18) (List.mem_of_getElem? (i := 108) rfl)) (h (94, 21) (List.mem_of_getElem? (i := 109) rfl)) (h (94, 22) (List.mem_of_getElem? (i := 110) rfl)) (h (94, 23) (List.mem_of_getElem? (i := 111) rfl)) (h (94, 24) (List.mem_of_getElem? (i := 112) rfl)) (h (94, 25) (List.mem_of_getElem? (i := 113) rfl)) (h (94, 26) (List.mem_of_getElem? (i := 114) rfl)) (h (94, 27) (List.mem_of_getElem? (i := 115) rfl)) (h (94, 28) (List.mem_of_getElem? (i := 116) rfl)) (h (94, 29) (List.mem_of_getElem? (i := 117) rfl)) (h (94, 30) (List.mem_of_getElem? (i := 118) rfl)) (h (94, 31) (List.mem_of_getElem? (i := 119) rfl)) (h (94, 32) (List.mem_of_getElem? (i := 120) rfl)) (h (94, 33) (List.mem_of_getElem? (i := 121) rfl)) (h (94, 34) (List.mem_of_getElem? (i := 122) rfl)) (h (94, 38) (List.mem_of_getElem? (i := 123) rfl)) (h (94, 39) (List.mem_of_getElem? (i := 124) rfl)) (h (94, 40) (List.mem_of_getElem? (i := 125) rfl))
  | 95, _ => exact toW_95 g M
  | 96, _ => exact toW_96 g M
  | 97, _ => exact toW_97 g M
  | 98, _ => exact toW_98 g M
  | 99, _ => exact toW_99 g M
  | 100, _ => exact toW_100 g M
  | 101, _ => exact toW_101 g M
  | 102, _ => exact toW_102 g M
  | 103, _ => exact toW_103 g M
  | 104, _ => exact toW_104 g M
  | 105, _ => exact toW_105 g M
  | 106, _ => exact toW_106 g M
  | 107, _ => exact toW_107 g M
  | 108, _ => exact toW_108 g M
  | 109, _ => exact toW_109 g M
  | 110, _ => exact toW_110 g M
  | 111, _ => exact toW_111 g M
  | 112, _ => exact toW_112 g M
  | 113, _ => exact toW_113 g M
  | 114, _ => exact toW_114 g M
  | 115, _ => exact toW_115 g M
  | 116, _ => exact toW_116 g M
  | 117, _ => exact toW_117 g M
  | 118, _ => exact toW_118 g M
  | 119, _ => exact toW_119 g M
  | 120, _ => exact toW_120 g M
  | 121, _ => exact toW_121 g M
  | n + 122, hk => exact absurd hk (Nat.not_lt.mpr (Nat.le_add_left 122 n))
theorem worldC_full (g : GB) (M : Mem) (h : ∀ q ∈ flagL, M.1 q.1 q.2 ≠ 0) : worldC g NC M = world g M := by
  unfold worldC world
  exact List.map_congr_left (fun k hk => by rw [toW g M h k (List.mem_range.mp hk)])
section GL
variable {p : Program} {l : Launch} {e : Env} {R : Room} {s : State} {m : MethodId} {args : Array Value} {below : List Frame} {meth : Method} {c : Code} {g : GB} {nL : Nat} {Q : State → Prop} {cells slots n n0 : Nat}
variable {cc : ByteArray} {own : String} {pc pc' : Nat} {lv lv' : List (Nat × Value)} {rest : List Value} {M : Mem}
theorem GC_of_GG (h0 : g.2.1 0 = s.heap.size) (h : ∀ q ∈ flagL, M.1 q.1 q.2 ≠ 0) (k : GG p l e R s m args below meth c g nL Q cells slots pc lv rest M) : GC p l e R s m args below meth c g nL Q cells slots pc lv rest NC M := by
  intro H locs ls hP hS hl
  rw [worldC_full g M h] at hP
  have hAB : ∀ q, AC g q → AS g s.heap.size q := fun q hq => Or.inr (by rw [← h0]; exact hq)
  exact k H locs ls hP ⟨hS.1, fun q h1 h2 => hS.2.1 q h1 (fun h3 => h2 (hAB q h3)), fun l hl => hAB _ (hS.2.2 l hl)⟩ hl
theorem GC_astore_n {k9 : Fin 4} {i : Nat} {x : Nat} (hi : (k9 : Nat) = i) (K : KC p s m args meth c g cc nL own n0) (d : dc cc pc pc' (.astore_n k9) 1) (hn : i < nL) (hl' : (i, Value.ref x) :: lv.filter (fun q => !(q.1 == i) && !(q.1 + 1 == i && q.2.category == 2)) = lv') (k : GC p l e R s m args below meth c g nL Q cells slots pc' lv' rest n M) : GC p l e R s m args below meth c g nL Q cells slots pc lv (.ref x :: rest) n M := by
  obtain ⟨d, rfl⟩ := d
  exact fun H locs ls hP hS hl => lv_astore_n K.1.1 K.1.2.1 d hi hl hn hl' (fun ls' hl2 => k H locs ls' hP hS hl2)
theorem GC_istore {i : Nat} {x : Int32} (K : KC p s m args meth c g cc nL own n0) (d : dc cc pc pc' (.istore i) 2) (hn : i < nL) (hl' : (i, Value.int x) :: lv.filter (fun q => !(q.1 == i) && !(q.1 + 1 == i && q.2.category == 2)) = lv') (k : GC p l e R s m args below meth c g nL Q cells slots pc' lv' rest n M) : GC p l e R s m args below meth c g nL Q cells slots pc lv (.int x :: rest) n M := by
  obtain ⟨d, rfl⟩ := d
  exact fun H locs ls hP hS hl => lv_istore K.1.1 K.1.2.1 d hl hn hl' (fun ls' hl2 => k H locs ls' hP hS hl2)
theorem GC_lv (ks : List Nat) (h : lv_pick lv ks = lv') (k : GC p l e R s m args below meth c g nL Q cells slots pc lv' rest n M) : GC p l e R s m args below meth c g nL Q cells slots pc lv rest n M :=
  fun H locs ls hP hS hl => k H locs ls hP hS (lv_sub hl ks h)
end GL
theorem ydc_X12_init : ydN yX12_init 0 := ⟨by decide, by decide, by decide +kernel⟩
theorem ydc_X11_init : ydN yX11_init 0 := ⟨by decide, by decide, by decide +kernel⟩
set_option maxRecDepth 100000 in
set_option maxHeartbeats 8000000 in
theorem whole_start_open (hmath : ∀ (xs : Nat → Int32) (L : Nat), L ≤ 3584 → wpO (iter (F_law_b xs L) FUEL (nI (7 * 0), M_start)) (fun _ => True)) {p : Program} {e : Env} {s : State} {m : MethodId} {below : List Frame} {meth : Method} {c : Code} (l : Launch) (hflags : l.flags = flags0) {b L : Nat} {xs : Nat → Int32} (hL : L ≤ 3584) (C0 : lw_At p s m meth c b L xs) : W p l e room_1 s m #[Value.ref b] below meth c s.heap [] 0 0 (lw_Z below #[Value.ref b] s) (entryFrame m ([Value.ref b] : List Value).toArray 8) := by
  obtain ⟨hx, hbd, hret, hml, hown, hts, hX, hbl, hlocks, hgv⟩ := C0
  have htr : l.stackTraces = false := by unfold Launch.stackTraces; rw [hflags]; decide +kernel
  obtain ⟨g, had, hK, hSta⟩ := glue_g hts (flat_of_before _ hgv)
  have h0 : g.2.1 0 = s.heap.size := had 0 (by decide)
  have hLin : Lin g := fun k hk => by rw [had k hk, h0]
  have htw : ∀ w ∈ wAll, w.before #[Value.ref b] s = true := fun w hw => hts w (List.mem_filter.mp hw).1
  have KC0 : KC p s m #[Value.ref b] meth c g code 8 "KeptWellLaw" 0 := ⟨⟨hx, hbd, hml, hown, htw⟩, ⟨hK, hLin, by rw [h0]; rfl⟩, fun q hq => va_Nw.of (NestL_o q hq) (hts _ (NestL_t q hq)), hlocks⟩
  have KF0 : KF p l s m #[Value.ref b] meth c g code 8 "KeptWellLaw" := ⟨⟨hx, hbd, hml, hown, htw⟩, ⟨hK, hLin.inj, hSta⟩, htr, hlocks⟩
  have hA : ∀ q, AS g s.heap.size q → s.heap.size ≤ q := by
    rintro q (⟨k, hk, rfl⟩ | h)
    · rw [had k hk]; omega
    · exact h
  have hbA : ¬ AS g s.heap.size b := fun h => absurd hbl (Nat.not_lt.mpr (hA b h))
  have hz : Fr 0 M_zero := fun k _ => ⟨fun _ => rfl, fun _ => rfl⟩
  have kk : GC p l e room_1 s m #[Value.ref b] below meth c g 8 (lw_Z below #[Value.ref b] s) 0 0 0 [(0, .ref b)] [] 0 M_zero := by
    refine GC_new (ci := 11) tyX11 tyX11_ok KC0 rfl in_X11 wd_28 wd_29 wd_1 dL_0 rfl (Nat.le_of_ble_eq_true rfl) (frC_0 g _ hz) (fun j hj => by revert j; decide +kernel) (by decide) ?_
    have hz := hz.mono (Nat.le_succ _)
    refine GC_dup rfl KC0 dL_3 ?_
    refine GC_callI (y := yX11_init) [] [.ref (g.2.1 0)] KC0 dL_4 wd_30 wd_31 wd_1 wd_32 rfl ydc_X11_init (by decide) (by decide) rfl (Nat.le_of_ble_eq_true rfl) rfl rfl (Nat.le_of_ble_eq_true rfl) (KI_KW_0 l g _ hz) ?_
    have hz := FrI_KW_0 hz
    refine GC_astore_n (i := 1) rfl KC0 dL_7 (by decide) rfl ?_
    refine GC_new (ci := 12) tyX12 tyX12_ok KC0 rfl in_X12 wd_1474 wd_1475 wd_14 dL_8 rfl (Nat.le_of_ble_eq_true rfl) (frC_94 g _ hz) (fun j hj => by revert j; decide +kernel) (by decide) ?_
    have hz := hz.mono (Nat.le_succ _)
    refine GC_dup rfl KC0 dL_11 ?_
    refine GC_callI (y := yX12_init) [] [.ref (g.2.1 94)] KC0 dL_12 wd_1476 wd_1477 wd_14 wd_1478 rfl ydc_X12_init (by decide) (by decide) rfl (Nat.le_of_ble_eq_true rfl) rfl rfl (Nat.le_of_ble_eq_true rfl) (KI_MO_94 l g _ hz) ?_
    have hz := FrI_MO_94 hz
    refine GC_astore_n (i := 2) rfl KC0 dL_15 (by decide) rfl ?_
    refine GC_iconst (v := 1) rfl KC0 dL_16 ?_
    refine GC_newa_long (N := 1) KC0 dL_17 wd_55 (by decide) (by decide) (by decide) rfl (Nat.le_of_ble_eq_true rfl) (frC_121 g _ hz) (by decide) ?_
    refine GC_astore_n (i := 3) rfl KC0 dL_19 (by decide) rfl ?_
    refine GC_iconst (v := nI (7 * 0)) rfl KC0 dL_20 ?_
    refine GC_istore (i := 4) KC0 dL_21 (by decide) rfl ?_
    refine GC_lv (lv' := [(0, .ref b), (1, .ref (g.2.1 0)), (2, .ref (g.2.1 94)), (3, .ref (g.2.1 121)), (4, .int (nI (7 * 0)))]) [4, 3, 2, 1, 0] rfl ?_
    refine GC_wide (k2 := 10000 + 8 * 0) (n2 := 10000 + 48 * 0) (by decide) (by decide) ?_
    exact GC_of_GG h0 flags_start (law_loop KF0 htr hret hX hbl hbA hA hL FUEL 0 M_start (by omega) (hmath xs L hL))
  rw [lg_entry_eq]
  exact kk s.heap [] _ (fun k q h => by cases k <;> cases h) va_S.rf (lv_entry [.ref b] (n := 8) (Nat.le_of_ble_eq_true rfl))
