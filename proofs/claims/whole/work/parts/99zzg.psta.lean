/-! ===== what the start gives: statics, words, classes ===== -/
theorem tw_1 {w : Cond} (i : Nat) (h : tables_1_1[i]? = some w) : w ∈ lw_tbl := List.mem_append_right _ (List.mem_append_left _ (List.mem_of_getElem? h))
theorem tw_2 {w : Cond} (i : Nat) (h : tables_1_2[i]? = some w) : w ∈ lw_tbl := List.mem_append_right _ (List.mem_append_right _ (List.mem_append_left _ (List.mem_of_getElem? h)))
theorem tw_3 {w : Cond} (i : Nat) (h : tables_1_3[i]? = some w) : w ∈ lw_tbl := List.mem_append_right _ (List.mem_append_right _ (List.mem_append_right _ (List.mem_append_left _ (List.mem_of_getElem? h))))
theorem tw_4 {w : Cond} (i : Nat) (h : tables_1_4[i]? = some w) : w ∈ lw_tbl := List.mem_append_right _ (List.mem_append_right _ (List.mem_append_right _ (List.mem_append_right _ (List.mem_append_left _ (List.mem_of_getElem? h)))))
theorem tw_5 {w : Cond} (i : Nat) (h : tables_1_5[i]? = some w) : w ∈ lw_tbl := List.mem_append_right _ (List.mem_append_right _ (List.mem_append_right _ (List.mem_append_right _ (List.mem_append_right _ (List.mem_append_left _ (List.mem_of_getElem? h))))))
theorem tw_6 {w : Cond} (i : Nat) (h : tables_1_6[i]? = some w) : w ∈ lw_tbl := List.mem_append_right _ (List.mem_append_right _ (List.mem_append_right _ (List.mem_append_right _ (List.mem_append_right _ (List.mem_append_right _ (List.mem_append_left _ (List.mem_of_getElem? h)))))))
theorem tw_7 {w : Cond} (i : Nat) (h : tables_1_7[i]? = some w) : w ∈ lw_tbl := List.mem_append_right _ (List.mem_append_right _ (List.mem_append_right _ (List.mem_append_right _ (List.mem_append_right _ (List.mem_append_right _ (List.mem_append_right _ (List.mem_append_left _ (List.mem_of_getElem? h))))))))
theorem tw_8 {w : Cond} (i : Nat) (h : tables_1_8[i]? = some w) : w ∈ lw_tbl := List.mem_append_right _ (List.mem_append_right _ (List.mem_append_right _ (List.mem_append_right _ (List.mem_append_right _ (List.mem_append_right _ (List.mem_append_right _ (List.mem_append_right _ (List.mem_of_getElem? h))))))))
theorem na_4 : (Jvm.Cond.isRef (Jvm.Term.static "java/lang/Throwable" "UNASSIGNED_STACK" "[Ljava/lang/StackTraceElement;")) ∈ flatC (Jvm.Cond.and given_1 narrow_1) := List.mem_of_getElem? (i := 4) (by decide +kernel)
theorem na_5 : (Jvm.Cond.isRef (Jvm.Term.static "java/lang/Throwable" "SUPPRESSED_SENTINEL" "Ljava/util/List;")) ∈ flatC (Jvm.Cond.and given_1 narrow_1) := List.mem_of_getElem? (i := 5) (by decide +kernel)
theorem na_7 : (Jvm.Cond.arrayOf (Jvm.Term.static "ZoneFiles" "MAGIC" "[I") Jvm.ClassFile.FieldType.int) ∈ flatC (Jvm.Cond.and given_1 narrow_1) := List.mem_of_getElem? (i := 7) (by decide +kernel)
theorem na_8 : (Jvm.Cond.eq (Jvm.Term.length (Jvm.Term.static "ZoneFiles" "MAGIC" "[I")) (Jvm.Term.int (4 : Int32))) ∈ flatC (Jvm.Cond.and given_1 narrow_1) := List.mem_of_getElem? (i := 8) (by decide +kernel)
theorem na_9 : (Jvm.Cond.eq (Jvm.Term.elem (Jvm.Term.static "ZoneFiles" "MAGIC" "[I") (Jvm.Term.int (0 : Int32))) (Jvm.Term.int (84 : Int32))) ∈ flatC (Jvm.Cond.and given_1 narrow_1) := List.mem_of_getElem? (i := 9) (by decide +kernel)
theorem na_10 : (Jvm.Cond.eq (Jvm.Term.elem (Jvm.Term.static "ZoneFiles" "MAGIC" "[I") (Jvm.Term.int (1 : Int32))) (Jvm.Term.int (90 : Int32))) ∈ flatC (Jvm.Cond.and given_1 narrow_1) := List.mem_of_getElem? (i := 10) (by decide +kernel)
theorem na_11 : (Jvm.Cond.eq (Jvm.Term.elem (Jvm.Term.static "ZoneFiles" "MAGIC" "[I") (Jvm.Term.int (2 : Int32))) (Jvm.Term.int (105 : Int32))) ∈ flatC (Jvm.Cond.and given_1 narrow_1) := List.mem_of_getElem? (i := 11) (by decide +kernel)
theorem na_12 : (Jvm.Cond.eq (Jvm.Term.elem (Jvm.Term.static "ZoneFiles" "MAGIC" "[I") (Jvm.Term.int (3 : Int32))) (Jvm.Term.int (102 : Int32))) ∈ flatC (Jvm.Cond.and given_1 narrow_1) := List.mem_of_getElem? (i := 12) (by decide +kernel)
theorem na_14 : (Jvm.Cond.arrayOf (Jvm.Term.static "ZoneFiles$Calendar" "MONTH_STARTS" "[I") Jvm.ClassFile.FieldType.int) ∈ flatC (Jvm.Cond.and given_1 narrow_1) := List.mem_of_getElem? (i := 14) (by decide +kernel)
theorem na_15 : (Jvm.Cond.eq (Jvm.Term.length (Jvm.Term.static "ZoneFiles$Calendar" "MONTH_STARTS" "[I")) (Jvm.Term.int (13 : Int32))) ∈ flatC (Jvm.Cond.and given_1 narrow_1) := List.mem_of_getElem? (i := 15) (by decide +kernel)
theorem na_16 : (Jvm.Cond.eq (Jvm.Term.elem (Jvm.Term.static "ZoneFiles$Calendar" "MONTH_STARTS" "[I") (Jvm.Term.int (0 : Int32))) (Jvm.Term.int (0 : Int32))) ∈ flatC (Jvm.Cond.and given_1 narrow_1) := List.mem_of_getElem? (i := 16) (by decide +kernel)
theorem na_17 : (Jvm.Cond.eq (Jvm.Term.elem (Jvm.Term.static "ZoneFiles$Calendar" "MONTH_STARTS" "[I") (Jvm.Term.int (1 : Int32))) (Jvm.Term.int (31 : Int32))) ∈ flatC (Jvm.Cond.and given_1 narrow_1) := List.mem_of_getElem? (i := 17) (by decide +kernel)
theorem na_18 : (Jvm.Cond.eq (Jvm.Term.elem (Jvm.Term.static "ZoneFiles$Calendar" "MONTH_STARTS" "[I") (Jvm.Term.int (2 : Int32))) (Jvm.Term.int (59 : Int32))) ∈ flatC (Jvm.Cond.and given_1 narrow_1) := List.mem_of_getElem? (i := 18) (by decide +kernel)
theorem na_19 : (Jvm.Cond.eq (Jvm.Term.elem (Jvm.Term.static "ZoneFiles$Calendar" "MONTH_STARTS" "[I") (Jvm.Term.int (3 : Int32))) (Jvm.Term.int (90 : Int32))) ∈ flatC (Jvm.Cond.and given_1 narrow_1) := List.mem_of_getElem? (i := 19) (by decide +kernel)
theorem na_20 : (Jvm.Cond.eq (Jvm.Term.elem (Jvm.Term.static "ZoneFiles$Calendar" "MONTH_STARTS" "[I") (Jvm.Term.int (4 : Int32))) (Jvm.Term.int (120 : Int32))) ∈ flatC (Jvm.Cond.and given_1 narrow_1) := List.mem_of_getElem? (i := 20) (by decide +kernel)
theorem na_21 : (Jvm.Cond.eq (Jvm.Term.elem (Jvm.Term.static "ZoneFiles$Calendar" "MONTH_STARTS" "[I") (Jvm.Term.int (5 : Int32))) (Jvm.Term.int (151 : Int32))) ∈ flatC (Jvm.Cond.and given_1 narrow_1) := List.mem_of_getElem? (i := 21) (by decide +kernel)
theorem na_22 : (Jvm.Cond.eq (Jvm.Term.elem (Jvm.Term.static "ZoneFiles$Calendar" "MONTH_STARTS" "[I") (Jvm.Term.int (6 : Int32))) (Jvm.Term.int (181 : Int32))) ∈ flatC (Jvm.Cond.and given_1 narrow_1) := List.mem_of_getElem? (i := 22) (by decide +kernel)
theorem na_23 : (Jvm.Cond.eq (Jvm.Term.elem (Jvm.Term.static "ZoneFiles$Calendar" "MONTH_STARTS" "[I") (Jvm.Term.int (7 : Int32))) (Jvm.Term.int (212 : Int32))) ∈ flatC (Jvm.Cond.and given_1 narrow_1) := List.mem_of_getElem? (i := 23) (by decide +kernel)
theorem na_24 : (Jvm.Cond.eq (Jvm.Term.elem (Jvm.Term.static "ZoneFiles$Calendar" "MONTH_STARTS" "[I") (Jvm.Term.int (8 : Int32))) (Jvm.Term.int (243 : Int32))) ∈ flatC (Jvm.Cond.and given_1 narrow_1) := List.mem_of_getElem? (i := 24) (by decide +kernel)
theorem na_25 : (Jvm.Cond.eq (Jvm.Term.elem (Jvm.Term.static "ZoneFiles$Calendar" "MONTH_STARTS" "[I") (Jvm.Term.int (9 : Int32))) (Jvm.Term.int (273 : Int32))) ∈ flatC (Jvm.Cond.and given_1 narrow_1) := List.mem_of_getElem? (i := 25) (by decide +kernel)
theorem na_26 : (Jvm.Cond.eq (Jvm.Term.elem (Jvm.Term.static "ZoneFiles$Calendar" "MONTH_STARTS" "[I") (Jvm.Term.int (10 : Int32))) (Jvm.Term.int (304 : Int32))) ∈ flatC (Jvm.Cond.and given_1 narrow_1) := List.mem_of_getElem? (i := 26) (by decide +kernel)
theorem na_27 : (Jvm.Cond.eq (Jvm.Term.elem (Jvm.Term.static "ZoneFiles$Calendar" "MONTH_STARTS" "[I") (Jvm.Term.int (11 : Int32))) (Jvm.Term.int (334 : Int32))) ∈ flatC (Jvm.Cond.and given_1 narrow_1) := List.mem_of_getElem? (i := 27) (by decide +kernel)
theorem na_28 : (Jvm.Cond.eq (Jvm.Term.elem (Jvm.Term.static "ZoneFiles$Calendar" "MONTH_STARTS" "[I") (Jvm.Term.int (12 : Int32))) (Jvm.Term.int (365 : Int32))) ∈ flatC (Jvm.Cond.and given_1 narrow_1) := List.mem_of_getElem? (i := 28) (by decide +kernel)
theorem na_36 : (Jvm.Cond.not (Jvm.Cond.castable "java/lang/IndexOutOfBoundsException" "java/lang/IllegalArgumentException")) ∈ flatC (Jvm.Cond.and given_1 narrow_1) := List.mem_of_getElem? (i := 36) (by decide +kernel)
theorem na_40 : (Jvm.Cond.not (Jvm.Cond.castable "java/lang/IllegalStateException" "java/lang/IllegalArgumentException")) ∈ flatC (Jvm.Cond.and given_1 narrow_1) := List.mem_of_getElem? (i := 40) (by decide +kernel)
theorem na_49 : (Jvm.Cond.not (Jvm.Cond.castable "java/lang/IllegalArgumentException" "java/lang/IndexOutOfBoundsException")) ∈ flatC (Jvm.Cond.and given_1 narrow_1) := List.mem_of_getElem? (i := 49) (by decide +kernel)
theorem na_53 : (Jvm.Cond.not (Jvm.Cond.castable "java/lang/IllegalStateException" "java/lang/IndexOutOfBoundsException")) ∈ flatC (Jvm.Cond.and given_1 narrow_1) := List.mem_of_getElem? (i := 53) (by decide +kernel)
theorem na_62 : (Jvm.Cond.not (Jvm.Cond.castable "java/lang/IllegalArgumentException" "java/lang/IllegalStateException")) ∈ flatC (Jvm.Cond.and given_1 narrow_1) := List.mem_of_getElem? (i := 62) (by decide +kernel)
theorem na_63 : (Jvm.Cond.not (Jvm.Cond.castable "java/lang/IndexOutOfBoundsException" "java/lang/IllegalStateException")) ∈ flatC (Jvm.Cond.and given_1 narrow_1) := List.mem_of_getElem? (i := 63) (by decide +kernel)
theorem na_68 : (Jvm.Cond.exactly (Jvm.Term.string "ZoneFiles" (58 : Nat)) "java/lang/String") ∈ flatC (Jvm.Cond.and given_1 narrow_1) := List.mem_of_getElem? (i := 68) (by decide +kernel)
theorem na_87 : (Jvm.Cond.exactly (Jvm.Term.string "ZoneFiles" (66 : Nat)) "java/lang/String") ∈ flatC (Jvm.Cond.and given_1 narrow_1) := List.mem_of_getElem? (i := 87) (by decide +kernel)
theorem na_108 : (Jvm.Cond.exactly (Jvm.Term.string "ZoneFiles" (340 : Nat)) "java/lang/String") ∈ flatC (Jvm.Cond.and given_1 narrow_1) := List.mem_of_getElem? (i := 108) (by decide +kernel)
theorem na_135 : (Jvm.Cond.exactly (Jvm.Term.string "ZoneFiles" (163 : Nat)) "java/lang/String") ∈ flatC (Jvm.Cond.and given_1 narrow_1) := List.mem_of_getElem? (i := 135) (by decide +kernel)
theorem na_160 : (Jvm.Cond.exactly (Jvm.Term.string "ZoneFiles" (342 : Nat)) "java/lang/String") ∈ flatC (Jvm.Cond.and given_1 narrow_1) := List.mem_of_getElem? (i := 160) (by decide +kernel)
theorem na_191 : (Jvm.Cond.exactly (Jvm.Term.string "ZoneFiles" (195 : Nat)) "java/lang/String") ∈ flatC (Jvm.Cond.and given_1 narrow_1) := List.mem_of_getElem? (i := 191) (by decide +kernel)
theorem na_218 : (Jvm.Cond.exactly (Jvm.Term.string "ZoneFiles" (348 : Nat)) "java/lang/String") ∈ flatC (Jvm.Cond.and given_1 narrow_1) := List.mem_of_getElem? (i := 218) (by decide +kernel)
theorem na_246 : (Jvm.Cond.exactly (Jvm.Term.string "ZoneFiles" (223 : Nat)) "java/lang/String") ∈ flatC (Jvm.Cond.and given_1 narrow_1) := List.mem_of_getElem? (i := 246) (by decide +kernel)
theorem na_288 : (Jvm.Cond.exactly (Jvm.Term.string "ZoneFiles" (250 : Nat)) "java/lang/String") ∈ flatC (Jvm.Cond.and given_1 narrow_1) := List.mem_of_getElem? (i := 288) (by decide +kernel)
theorem na_321 : (Jvm.Cond.exactly (Jvm.Term.string "ZoneFiles" (252 : Nat)) "java/lang/String") ∈ flatC (Jvm.Cond.and given_1 narrow_1) := List.mem_of_getElem? (i := 321) (by decide +kernel)
theorem na_356 : (Jvm.Cond.exactly (Jvm.Term.string "ZoneFiles" (262 : Nat)) "java/lang/String") ∈ flatC (Jvm.Cond.and given_1 narrow_1) := List.mem_of_getElem? (i := 356) (by decide +kernel)
theorem na_390 : (Jvm.Cond.exactly (Jvm.Term.string "ZoneFiles" (264 : Nat)) "java/lang/String") ∈ flatC (Jvm.Cond.and given_1 narrow_1) := List.mem_of_getElem? (i := 390) (by decide +kernel)
theorem na_428 : (Jvm.Cond.exactly (Jvm.Term.string "ZoneFiles" (285 : Nat)) "java/lang/String") ∈ flatC (Jvm.Cond.and given_1 narrow_1) := List.mem_of_getElem? (i := 428) (by decide +kernel)
theorem na_472 : (Jvm.Cond.exactly (Jvm.Term.string "ZoneFiles" (291 : Nat)) "java/lang/String") ∈ flatC (Jvm.Cond.and given_1 narrow_1) := List.mem_of_getElem? (i := 472) (by decide +kernel)
theorem na_519 : (Jvm.Cond.exactly (Jvm.Term.string "ZoneFiles" (296 : Nat)) "java/lang/String") ∈ flatC (Jvm.Cond.and given_1 narrow_1) := List.mem_of_getElem? (i := 519) (by decide +kernel)
theorem na_561 : (Jvm.Cond.exactly (Jvm.Term.string "ZoneFiles" (301 : Nat)) "java/lang/String") ∈ flatC (Jvm.Cond.and given_1 narrow_1) := List.mem_of_getElem? (i := 561) (by decide +kernel)
theorem na_613 : (Jvm.Cond.exactly (Jvm.Term.string "ZoneFiles" (306 : Nat)) "java/lang/String") ∈ flatC (Jvm.Cond.and given_1 narrow_1) := List.mem_of_getElem? (i := 613) (by decide +kernel)
theorem na_663 : (Jvm.Cond.exactly (Jvm.Term.string "ZoneFiles" (321 : Nat)) "java/lang/String") ∈ flatC (Jvm.Cond.and given_1 narrow_1) := List.mem_of_getElem? (i := 663) (by decide +kernel)
theorem sta_NW {s : State} {args : Array Value} (hts : ∀ w ∈ lw_tbl, w.before args s = true) : NW s := ⟨va_Nw.of rfl (hts (.methodLinkNest "ZoneFiles$Rule" 22 ⟨"ZoneFiles$Edge", "<init>", "()V"⟩ "ZoneFiles") (tw_1 70 rfl)), va_Nw.of rfl (hts (.methodLinkNest "ZoneFiles$TableParser" 72 ⟨"ZoneFiles", "isDigit", "(I)Z"⟩ "ZoneFiles") (tw_2 200 rfl)), va_Nw.of rfl (hts (.fieldLinkNest "ZoneFiles$FileParser" 107 "ZoneFiles" "MAGIC" "[I" "ZoneFiles") (tw_3 188 rfl)), va_Nw.of rfl (hts (.methodLinkNest "ZoneFiles$FileParser" 163 ⟨"ZoneFiles", "isInstant", "(J)Z"⟩ "ZoneFiles") (tw_3 232 rfl)), va_Nw.of rfl (hts (.methodLinkNest "ZoneFiles$FileParser" 196 ⟨"ZoneFiles", "isNameByte", "(I)Z"⟩ "ZoneFiles") (tw_4 19 rfl)), va_Nw.of rfl (hts (.methodLinkNest "ZoneFiles$RuleParser" 148 ⟨"ZoneFiles", "isNameByte", "(I)Z"⟩ "ZoneFiles") (tw_4 106 rfl)), va_Nw.of rfl (hts (.methodLinkNest "ZoneFiles$RuleParser" 151 ⟨"ZoneFiles", "isLetter", "(I)Z"⟩ "ZoneFiles") (tw_4 107 rfl)), va_Nw.of rfl (hts (.methodLinkNest "ZoneFiles$RuleParser" 112 ⟨"ZoneFiles", "isDigit", "(I)Z"⟩ "ZoneFiles") (tw_4 119 rfl)), va_Nw.of rfl (hts (.fieldLinkNest "ZoneFiles$FileWriting" 51 "ZoneFiles" "MAGIC" "[I" "ZoneFiles") (tw_6 30 rfl))⟩
theorem nA_lt {s : State} : ∀ a : Nat, a < s.heap.size → ¬ nA s a := fun _ h z => Nat.not_le.mpr h z
theorem sta_ST {s : State} {b : Nat} (hts : ∀ w ∈ lw_tbl, w.before #[Value.ref b] s = true) (hg : (Jvm.Cond.and given_1 narrow_1).before #[Value.ref b] s = true) : ST (nA s) s s.heap := by
  have hf := flat_of_before _ hg
  have hA : ∀ a : Nat, a < s.heap.size → ¬ nA s a := nA_lt
  obtain ⟨tms, e1, T1⟩ := va_Tof (tm := .static "ZoneFiles$Calendar" "MONTH_STARTS" "[I") (ty := .int) (N := 13) (f := fun j => .int (ms_v j)) (A := nA s) (by decide) (hf _ na_14) (va_eqt (hf _ na_15)) (fun j hj => by
    match j, hj with
    | 0, _ => exact va_eqt (hf _ na_16)
    | 1, _ => exact va_eqt (hf _ na_17)
    | 2, _ => exact va_eqt (hf _ na_18)
    | 3, _ => exact va_eqt (hf _ na_19)
    | 4, _ => exact va_eqt (hf _ na_20)
    | 5, _ => exact va_eqt (hf _ na_21)
    | 6, _ => exact va_eqt (hf _ na_22)
    | 7, _ => exact va_eqt (hf _ na_23)
    | 8, _ => exact va_eqt (hf _ na_24)
    | 9, _ => exact va_eqt (hf _ na_25)
    | 10, _ => exact va_eqt (hf _ na_26)
    | 11, _ => exact va_eqt (hf _ na_27)
    | 12, _ => exact va_eqt (hf _ na_28)
    | n + 13, h => exact absurd h (by omega)) hA
  obtain ⟨tmg, e2, T2⟩ := va_Tof (tm := .static "ZoneFiles" "MAGIC" "[I") (ty := .int) (N := 4) (f := fun j => .int (mg_v j)) (A := nA s) (by decide) (hf _ na_7) (va_eqt (hf _ na_8)) (fun j hj => by
    match j, hj with
    | 0, _ => exact va_eqt (hf _ na_9)
    | 1, _ => exact va_eqt (hf _ na_10)
    | 2, _ => exact va_eqt (hf _ na_11)
    | 3, _ => exact va_eqt (hf _ na_12)
    | n + 4, h => exact absurd h (by omega)) hA
  exact ⟨tms, va_Zref (hts (.laysStatic "ZoneFiles$Calendar" "MONTH_STARTS" "[I") (tw_4 193 rfl)) (hts (.initialized "ZoneFiles$Calendar") (tw_1 18 rfl)) e1 hA, T1, tmg, va_Zref (hts (.laysStatic "ZoneFiles" "MAGIC" "[I") (tw_3 189 rfl)) (hts (.initialized "ZoneFiles") (tw_1 1 rfl)) e2 hA, T2, sta_NW hts⟩
theorem nc_of {X Y : String} {args : Array Value} {s : State} (hX : (Cond.castable X X).before args s = true) (hY : (Cond.castable Y Y).before args s = true) (hn : (Cond.not (Cond.castable X Y)).before args s = true) : th_NC X Y s := by
  obtain ⟨x, x', e1, -, -⟩ := Cond.castable_spec (args := args) (first := s) (o := none) (s := s) (idx := []) hX
  obtain ⟨y, y', e2, -, -⟩ := Cond.castable_spec (args := args) (first := s) (o := none) (s := s) (idx := []) hY
  refine ⟨x, y, e1, e2, ?_⟩
  cases hh : s.vm.assignable x y with
  | false => rfl
  | true => exact absurd hn (by simp [Cond.before, Cond.holds, Cond.value, e1, e2, hh])
theorem sr_of {own tx : String} {k : Nat} {args : Array Value} {s : State} (h1 : (Cond.stringRef own k tx).before args s = true) (h2 : (Cond.exactly (.string own k) "java/lang/String").before args s = true) : ∃ a : Nat, vk_R own k tx a s := by
  obtain ⟨a, c, cell, kk, q1, -⟩ := Cond.exactly_spec (args := args) (first := s) (o := none) (s := s) (idx := []) (t := .string own k) (cls := "java/lang/String") h2
  exact ⟨a, vk_R.of (A := args) h1 q1⟩
theorem sta_FX {s : State} {b : Nat} (hts : ∀ w ∈ lw_tbl, w.before #[Value.ref b] s = true) (hg : (Jvm.Cond.and given_1 narrow_1).before #[Value.ref b] s = true) : FX s := by
  have hf := flat_of_before _ hg
  exact ⟨va_Nw.of rfl (hts (.declares ⟨"java/lang/RuntimeException", "<init>", "(Ljava/lang/String;)V"⟩) (tw_3 58 rfl)), va_Nw.of rfl (hts (.declares ⟨"java/lang/Exception", "<init>", "(Ljava/lang/String;)V"⟩) (tw_3 60 rfl)), va_Nw.of rfl (hts (.declares ⟨"java/lang/Throwable", "<init>", "(Ljava/lang/String;)V"⟩) (tw_3 62 rfl)), va_Nw.of rfl (hts (.castable "java/lang/IndexOutOfBoundsException" "java/lang/IndexOutOfBoundsException") (tw_3 136 rfl)), va_Nw.of rfl (hts (.castable "java/lang/IllegalArgumentException" "java/lang/IllegalArgumentException") (tw_3 56 rfl)), va_Nw.of rfl (hts (.castable "java/lang/IllegalStateException" "java/lang/IllegalStateException") (tw_5 55 rfl)), nc_of (hts (.castable "java/lang/IndexOutOfBoundsException" "java/lang/IndexOutOfBoundsException") (tw_3 136 rfl)) (hts (.castable "java/lang/IllegalArgumentException" "java/lang/IllegalArgumentException") (tw_3 56 rfl)) (hf _ na_36), nc_of (hts (.castable "java/lang/IndexOutOfBoundsException" "java/lang/IndexOutOfBoundsException") (tw_3 136 rfl)) (hts (.castable "java/lang/IllegalStateException" "java/lang/IllegalStateException") (tw_5 55 rfl)) (hf _ na_63), nc_of (hts (.castable "java/lang/IllegalArgumentException" "java/lang/IllegalArgumentException") (tw_3 56 rfl)) (hts (.castable "java/lang/IndexOutOfBoundsException" "java/lang/IndexOutOfBoundsException") (tw_3 136 rfl)) (hf _ na_49), nc_of (hts (.castable "java/lang/IllegalArgumentException" "java/lang/IllegalArgumentException") (tw_3 56 rfl)) (hts (.castable "java/lang/IllegalStateException" "java/lang/IllegalStateException") (tw_5 55 rfl)) (hf _ na_62), nc_of (hts (.castable "java/lang/IllegalStateException" "java/lang/IllegalStateException") (tw_5 55 rfl)) (hts (.castable "java/lang/IndexOutOfBoundsException" "java/lang/IndexOutOfBoundsException") (tw_3 136 rfl)) (hf _ na_53), nc_of (hts (.castable "java/lang/IllegalStateException" "java/lang/IllegalStateException") (tw_5 55 rfl)) (hts (.castable "java/lang/IllegalArgumentException" "java/lang/IllegalArgumentException") (tw_3 56 rfl)) (hf _ na_40)⟩
theorem sta_SR {s : State} {b : Nat} (hts : ∀ w ∈ lw_tbl, w.before #[Value.ref b] s = true) (hg : (Jvm.Cond.and given_1 narrow_1).before #[Value.ref b] s = true) : SR s := by
  have hf := flat_of_before _ hg
  exact ⟨sr_of (hts (.stringRef "ZoneFiles" 58 "n is not 1 .. 8") (tw_3 95 rfl)) (hf _ na_68), sr_of (hts (.stringRef "ZoneFiles" 66 "the tape is full") (tw_3 121 rfl)) (hf _ na_87), sr_of (hts (.stringRef "ZoneFiles" 340 "there is no such zone") (tw_3 143 rfl)) (hf _ na_108), sr_of (hts (.stringRef "ZoneFiles" 163 "what is not 0 .. 7") (tw_4 226 rfl)) (hf _ na_135), sr_of (hts (.stringRef "ZoneFiles" 342 "there is no such number") (tw_4 237 rfl)) (hf _ na_160), sr_of (hts (.stringRef "ZoneFiles" 195 "what is not 0 .. 5") (tw_5 13 rfl)) (hf _ na_191), sr_of (hts (.stringRef "ZoneFiles" 348 "this is no instant") (tw_5 40 rfl)) (hf _ na_218), sr_of (hts (.stringRef "ZoneFiles" 223 "there is no such byte of a name") (tw_5 62 rfl)) (hf _ na_246), sr_of (hts (.stringRef "ZoneFiles" 250 "there is no such year") (tw_5 104 rfl)) (hf _ na_288), sr_of (hts (.stringRef "ZoneFiles" 252 "there is no such month") (tw_5 105 rfl)) (hf _ na_321), sr_of (hts (.stringRef "ZoneFiles" 262 "there is no such day") (tw_5 109 rfl)) (hf _ na_356), sr_of (hts (.stringRef "ZoneFiles" 264 "there is no such second") (tw_5 110 rfl)) (hf _ na_390), sr_of (hts (.stringRef "ZoneFiles" 285 "the year is not 1970 .. 2400") (tw_5 220 rfl)) (hf _ na_428), sr_of (hts (.stringRef "ZoneFiles" 291 "there is no rule with a summer") (tw_5 221 rfl)) (hf _ na_472), sr_of (hts (.stringRef "ZoneFiles" 296 "there is no such version") (tw_6 13 rfl)) (hf _ na_519), sr_of (hts (.stringRef "ZoneFiles" 301 "a time needs more than four bytes") (tw_6 18 rfl)) (hf _ na_561), sr_of (hts (.stringRef "ZoneFiles" 306 "the rule text needs version 51") (tw_6 19 rfl)) (hf _ na_613), sr_of (hts (.stringRef "ZoneFiles" 321 "there is no table") (tw_6 61 rfl)) (hf _ na_663)⟩
theorem sta_XT {s : State} {b : Nat} (hts : ∀ w ∈ lw_tbl, w.before #[Value.ref b] s = true) (hg : (Jvm.Cond.and given_1 narrow_1).before #[Value.ref b] s = true) : XT (nA s) s s.heap := by
  have hf := flat_of_before _ hg
  exact ⟨⟨va_Zqof (hts (.laysStatic "java/lang/Throwable" "UNASSIGNED_STACK" "[Ljava/lang/StackTraceElement;") (tw_3 81 rfl)) (hts (.initialized "java/lang/Throwable") (tw_1 11 rfl)) (hf _ na_4) nA_lt, va_Zqof (hts (.laysStatic "java/lang/Throwable" "SUPPRESSED_SENTINEL" "Ljava/util/List;") (tw_3 83 rfl)) (hts (.initialized "java/lang/Throwable") (tw_1 11 rfl)) (hf _ na_5) nA_lt, th_L.of (hts (.laysStatic "java/lang/Throwable" "UNASSIGNED_STACK" "[Ljava/lang/StackTraceElement;") (tw_3 81 rfl)) nA_lt, th_L.of (hts (.laysStatic "java/lang/Throwable" "SUPPRESSED_SENTINEL" "Ljava/util/List;") (tw_3 83 rfl)) nA_lt⟩, sta_FX hts hg, sta_SR hts hg⟩
theorem sta_K {s : State} {args : Array Value} (hts : ∀ w ∈ T0, w.before args s = true) : ∃ (dC : Nat → ClassId) (dI : Nat → Nat → Nat), va_K (dC, dI) classes [] s := by
  obtain ⟨c0, i0, h0⟩ := u_known (C := RBytes) (T := TBytes) (N := 2) hts in_Bytes (hts (.instantiable "ZoneFiles$Bytes" 2) (tb_1 32 rfl rfl))
  obtain ⟨c1, i1, h1⟩ := u_known (C := REdge) (T := TEdge) (N := 6) hts in_Edge (hts (.instantiable "ZoneFiles$Edge" 6) (tb_1 69 rfl rfl))
  obtain ⟨c2, i2, h2⟩ := u_known (C := REdgeWalk) (T := TEdgeWalk) (N := 5) hts in_EdgeWalk (hts (.instantiable "ZoneFiles$EdgeWalk" 5) (tb_5 156 rfl rfl))
  obtain ⟨c3, i3, h3⟩ := u_known (C := RFileParser) (T := TFileParser) (N := 7) hts in_FileParser (hts (.instantiable "ZoneFiles$FileParser" 7) (tb_3 151 rfl rfl))
  obtain ⟨c4, i4, h4⟩ := u_known (C := RLeapTable) (T := TLeapTable) (N := 4) hts in_LeapTable (hts (.instantiable "ZoneFiles$LeapTable" 4) (tb_2 91 rfl rfl))
  obtain ⟨c5, i5, h5⟩ := u_known (C := RRule) (T := TRule) (N := 12) hts in_Rule (hts (.instantiable "ZoneFiles$Rule" 12) (tb_1 61 rfl rfl))
  obtain ⟨c6, i6, h6⟩ := u_known (C := RRuleParser) (T := TRuleParser) (N := 10) hts in_RuleParser (hts (.instantiable "ZoneFiles$RuleParser" 10) (tb_4 46 rfl rfl))
  obtain ⟨c7, i7, h7⟩ := u_known (C := RTableParser) (T := TTableParser) (N := 6) hts in_TableParser (hts (.instantiable "ZoneFiles$TableParser" 6) (tb_2 150 rfl rfl))
  obtain ⟨c8, i8, h8⟩ := u_known (C := RZone) (T := TZone) (N := 17) hts in_Zone (hts (.instantiable "ZoneFiles$Zone" 17) (tb_1 53 rfl rfl))
  obtain ⟨c9, i9, h9⟩ := u_known (C := RZoneFiles) (T := TZoneFiles) (N := 9) hts in_ZoneFiles (hts (.instantiable "ZoneFiles" 9) (tb_1 24 rfl rfl))
  obtain ⟨c10, i10, h10⟩ := u_known (C := RZoneFilesModel) (T := TZoneFilesModel) (N := 72) hts in_ZoneFilesModel (hts (.instantiable "ZoneFilesModel" 72) (tb_6 70 rfl rfl))
  refine ⟨(fun k => match k with | 0 => c0 | 1 => c1 | 2 => c2 | 3 => c3 | 4 => c4 | 5 => c5 | 6 => c6 | 7 => c7 | 8 => c8 | 9 => c9 | _ => c10), (fun k => match k with | 0 => i0 | 1 => i1 | 2 => i2 | 3 => i3 | 4 => i4 | 5 => i5 | 6 => i6 | 7 => i7 | 8 => i8 | 9 => i9 | _ => i10), fun c q hq => ?_, fun k q hk => absurd hk (by simp)⟩
  match c, hq with
  | 0, hq =>
    have e : (RBytes, TBytes, 2) = q := Option.some.inj hq
    subst e
    exact h0
  | 1, hq =>
    have e : (REdge, TEdge, 6) = q := Option.some.inj hq
    subst e
    exact h1
  | 2, hq =>
    have e : (REdgeWalk, TEdgeWalk, 5) = q := Option.some.inj hq
    subst e
    exact h2
  | 3, hq =>
    have e : (RFileParser, TFileParser, 7) = q := Option.some.inj hq
    subst e
    exact h3
  | 4, hq =>
    have e : (RLeapTable, TLeapTable, 4) = q := Option.some.inj hq
    subst e
    exact h4
  | 5, hq =>
    have e : (RRule, TRule, 12) = q := Option.some.inj hq
    subst e
    exact h5
  | 6, hq =>
    have e : (RRuleParser, TRuleParser, 10) = q := Option.some.inj hq
    subst e
    exact h6
  | 7, hq =>
    have e : (RTableParser, TTableParser, 6) = q := Option.some.inj hq
    subst e
    exact h7
  | 8, hq =>
    have e : (RZone, TZone, 17) = q := Option.some.inj hq
    subst e
    exact h8
  | 9, hq =>
    have e : (RZoneFiles, TZoneFiles, 9) = q := Option.some.inj hq
    subst e
    exact h9
  | 10, hq =>
    have e : (RZoneFilesModel, TZoneFilesModel, 72) = q := Option.some.inj hq
    subst e
    exact h10
  | n + 11, hq =>
    have e : (none : Option vw_C) = some q := hq
    cases e
theorem sta_AO {s : State} {args : Array Value} (hts : ∀ w ∈ lw_tbl, w.before args s = true) : va_AO "ZoneFiles$Zone" s := va_AO.of (hts (.arrayOver (.object "ZoneFiles$Zone")) (tw_1 52 rfl))
