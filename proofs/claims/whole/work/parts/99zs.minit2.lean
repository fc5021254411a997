theorem m_6_74 : Cond.methodLink "ZoneFilesModel" 1 ⟨"java/lang/Object", "<init>", "()V"⟩ ∈ T0 := tb_6 74 rfl rfl
/-! ===== the contract of the reference's constructor ===== -/
def mv0 : Nat → Value := fun k => match k with
  | 0 => .null
  | 1 => .int 0
  | 2 => .int 0
  | 3 => .int 0
  | 4 => .null
  | 5 => .null
  | 6 => .null
  | 7 => .null
  | 8 => .null
  | 9 => .null
  | 10 => .null
  | 11 => .null
  | 12 => .null
  | 13 => .null
  | 14 => .null
  | 15 => .null
  | 16 => .null
  | 17 => .null
  | 18 => .null
  | 19 => .null
  | 20 => .null
  | 21 => .null
  | 22 => .null
  | 23 => .null
  | 24 => .null
  | 25 => .null
  | 26 => .null
  | 27 => .null
  | 28 => .null
  | 29 => .null
  | 30 => .null
  | 31 => .null
  | 32 => .int 0
  | 33 => .int 0
  | 34 => .int 0
  | 35 => .int 0
  | 36 => .int 0
  | 37 => .null
  | 38 => .int 0
  | 39 => .int 0
  | 40 => .long 0
  | 41 => .int 0
  | 42 => .int 0
  | 43 => .int 0
  | 44 => .int 0
  | 45 => .int 0
  | 46 => .int 0
  | 47 => .int 0
  | 48 => .null
  | 49 => .int 0
  | 50 => .int 0
  | 51 => .int 0
  | 52 => .int 0
  | 53 => .null
  | 54 => .null
  | 55 => .int 0
  | 56 => .null
  | 57 => .int 0
  | 58 => .null
  | 59 => .int 0
  | 60 => .null
  | 61 => .int 0
  | 62 => .int 0
  | 63 => .null
  | 64 => .null
  | 65 => .long 0
  | 66 => .int 0
  | 67 => .null
  | 68 => .null
  | 69 => .long 0
  | 70 => .int 0
  | _ => .long 0
abbrev mcO (h0 : Nat) : va_W := [(h0, .inr (10, [.null, .int 0, .int 0, .int 0, .null, .null, .null, .null, .null, .null, .null, .null, .null, .null, .null, .null, .null, .null, .null, .null, .null, .null, .null, .null, .null, .null, .null, .null, .null, .null, .null, .null, .int 0, .int 0, .int 0, .int 0, .int 0, .null, .int 0, .int 0, .long 0, .int 0, .int 0, .int 0, .int 0, .int 0, .int 0, .int 0, .null, .int 0, .int 0, .int 0, .int 0, .null, .null, .int 0, .null, .int 0, .null, .int 0, .null, .int 0, .int 0, .null, .null, .long 0, .int 0, .null, .null, .long 0, .int 0, .long 0]))]
theorem mcp_2 {p : Program} {l : Launch} {e : Env} {R : Room} {s : State} {m : MethodId} {args : Array Value} {below : List Frame} {meth : Method} {c : Code} {H : Heap} {locs : List Loc} {cells slots : Nat} {Q : State → Prop} {cc : ByteArray} {pc : Nat} {ls : Array Slot} {rest : List Value} {dC : Nat → ClassId} {dI : Nat → Nat → Nat} {A : Nat → Prop} {h0 : Nat} {v : Nat → Value} {ws : va_W} {tys : List (ClassId × FieldType)} {x : Int32} (hx : p.tables.exec = Jvm.exec) (hb : c.code = cc) (hts : ∀ w ∈ T0, w.before args s = true) (hown : s.vm.findClass "ZoneFilesModel" = some m.cls) (hK : va_K (dC, dI) classes tys s) (hP : va_P (dC, dI) classes ((h0, .inr (10, mcV v)) :: ws) H) (hD : va_D A ((h0, .inr (10, mcV v)) :: ws)) (hS : va_S A s.heap H locs) (d2 : decode cc pc = .ok (.putfield 13, 3)) (kk : ∀ (H1 : Heap) (locs1 : List Loc), va_P (dC, dI) classes ((h0, .inr (10, mcV (va_up v 2 (.int x)))) :: ws) H1 → va_D A ((h0, .inr (10, mcV (va_up v 2 (.int x)))) :: ws) → va_S A s.heap H1 locs1 → W p l e R s m args below meth c H1 locs1 cells slots Q (F0 m (pc + 3) ls rest)) : W p l e R s m args below meth c H locs cells slots Q (F0 m pc ls (.int x :: .ref h0 :: rest)) := by
  refine va_put (D := (dC, dI)) (ci := 10) (v := .int x) (ty := .int) (C := RZoneFilesModel) (T := TZoneFilesModel) (N := 72) hx hb hts in_ZoneFilesModel tyZoneFilesModel ty_ZoneFilesModel nm_ZoneFilesModel hown hK hP hD hS 0 rfl rfl 2 (by decide) (hts (.fieldLink "ZoneFilesModel" 13 "ZoneFilesModel" "place" "I") m_6_130) (fun _ h9 => h9) rfl (by decide +kernel) rfl rfl (Nat.le_of_ble_eq_true rfl) d2 (fun H locs hP hD hS => ?_)
  exact kk H locs hP hD hS
set_option maxHeartbeats 2000000 in
theorem mi_0 {p : Program} {l : Launch} {e : Env} {R : Room} {s : State} {m : MethodId} {args : Array Value} {below : List Frame} {meth : Method} {c : Code} {H : Heap} {locs : List Loc} {cells slots : Nat} {Q : State → Prop} {ls : Array Slot} {dC : Nat → ClassId} {dI : Nat → Nat → Nat} {A : Nat → Prop} {h0 : Nat} {v : Nat → Value} {ws : va_W} {tys : List (ClassId × FieldType)} (hx : p.tables.exec = Jvm.exec) (hb : c.code = b_Mo_init) (hts : ∀ w ∈ T0, w.before args s = true) (hown : s.vm.findClass "ZoneFilesModel" = some m.cls) (hin : meth.name = "<init>") (hl : lv_has ls 3 [(0, .ref h0)]) (hK : va_K (dC, dI) classes tys s) (hP : va_P (dC, dI) classes ((h0, .inr (10, mcV v)) :: ws) H) (hD : va_D A ((h0, .inr (10, mcV v)) :: ws)) (hS : va_S A s.heap H locs) (hA : ∀ q, s.heap.size ≤ q → A q) (hkc : cells + 6 ≤ R.cells) (hks : slots + 6025 ≤ R.slots) (kk : ∀ (q0 q4 q5 q6 q7 q8 : Nat) (n0 n4 n5 n6 n7 n8 : ClassId) (H1 : Heap) (locs1 : List Loc), va_K (dC, dI) classes (vst (vst (vst (vst (vst (vst tys (n0, .int)) (n4, .int)) (n5, .int)) (n6, .int)) (n7, .int)) (n8, .int)) s → va_P (dC, dI) classes ((h0, .inr (10, mcV (va_up (va_up (va_up (va_up (va_up (va_up (va_up v 0 (.ref q0)) 2 (.int (-1))) 4 (.ref q4)) 5 (.ref q5)) 6 (.ref q6)) 7 (.ref q7)) 8 (.ref q8)))) :: (vsn (vsn (vsn (vsn (vsn (vsn ws (q0, .inl (n0, 6000, .inl (fun _ => 0)))) (q4, .inl (n4, 5, .inl (fun _ => 0)))) (q5, .inl (n5, 5, .inl (fun _ => 0)))) (q6, .inl (n6, 5, .inl (fun _ => 0)))) (q7, .inl (n7, 5, .inl (fun _ => 0)))) (q8, .inl (n8, 5, .inl (fun _ => 0))))) H1 → va_D A ((h0, .inr (10, mcV (va_up (va_up (va_up (va_up (va_up (va_up (va_up v 0 (.ref q0)) 2 (.int (-1))) 4 (.ref q4)) 5 (.ref q5)) 6 (.ref q6)) 7 (.ref q7)) 8 (.ref q8)))) :: (vsn (vsn (vsn (vsn (vsn (vsn ws (q0, .inl (n0, 6000, .inl (fun _ => 0)))) (q4, .inl (n4, 5, .inl (fun _ => 0)))) (q5, .inl (n5, 5, .inl (fun _ => 0)))) (q6, .inl (n6, 5, .inl (fun _ => 0)))) (q7, .inl (n7, 5, .inl (fun _ => 0)))) (q8, .inl (n8, 5, .inl (fun _ => 0))))) → va_S A s.heap H1 locs1 → W p l e R s m args below meth c H1 locs1 (cells + 1 + 1 + 1 + 1 + 1 + 1) (slots + 6000 + 5 + 5 + 5 + 5 + 5) Q (F0 m 53 ls [])) : W p l e R s m args below meth c H locs cells slots Q (F0 m 4 ls []) := by
  refine lv_aload_n hx hb d_Mo_init_4 rfl (lv_at hl 0 rfl) ?_
  refine lv_sipush (v := 6000) hx hb d_Mo_init_5 (by decide) ?_
  refine mc_0 hx hb hts hown hin hK hP hD hS hA (by omega) (by omega) d_Mo_init_8 d_Mo_init_10 (fun q0 n0 H locs hK hP hD hS => ?_)
  refine lv_aload_n hx hb d_Mo_init_13 rfl (lv_at hl 0 rfl) ?_
  refine lv_iconst (v := -1) hx hb d_Mo_init_14 (by decide) ?_
  refine mcp_2 hx hb hts hown hK hP hD hS d_Mo_init_15 (fun H locs hP hD hS => ?_)
  refine lv_aload_n hx hb d_Mo_init_18 rfl (lv_at hl 0 rfl) ?_
  refine lv_iconst (v := 5) hx hb d_Mo_init_19 (by decide) ?_
  refine mc_4 hx hb hts hown hin hK hP hD hS hA (by omega) (by omega) d_Mo_init_20 d_Mo_init_22 (fun q4 n4 H locs hK hP hD hS => ?_)
  refine lv_aload_n hx hb d_Mo_init_25 rfl (lv_at hl 0 rfl) ?_
  refine lv_iconst (v := 5) hx hb d_Mo_init_26 (by decide) ?_
  refine mc_5 hx hb hts hown hin hK hP hD hS hA (by omega) (by omega) d_Mo_init_27 d_Mo_init_29 (fun q5 n5 H locs hK hP hD hS => ?_)
  refine lv_aload_n hx hb d_Mo_init_32 rfl (lv_at hl 0 rfl) ?_
  refine lv_iconst (v := 5) hx hb d_Mo_init_33 (by decide) ?_
  refine mc_6 hx hb hts hown hin hK hP hD hS hA (by omega) (by omega) d_Mo_init_34 d_Mo_init_36 (fun q6 n6 H locs hK hP hD hS => ?_)
  refine lv_aload_n hx hb d_Mo_init_39 rfl (lv_at hl 0 rfl) ?_
  refine lv_iconst (v := 5) hx hb d_Mo_init_40 (by decide) ?_
  refine mc_7 hx hb hts hown hin hK hP hD hS hA (by omega) (by omega) d_Mo_init_41 d_Mo_init_43 (fun q7 n7 H locs hK hP hD hS => ?_)
  refine lv_aload_n hx hb d_Mo_init_46 rfl (lv_at hl 0 rfl) ?_
  refine lv_iconst (v := 5) hx hb d_Mo_init_47 (by decide) ?_
  refine mc_8 hx hb hts hown hin hK hP hD hS hA (by omega) (by omega) d_Mo_init_48 d_Mo_init_50 (fun q8 n8 H locs hK hP hD hS => ?_)
  exact kk q0 q4 q5 q6 q7 q8 n0 n4 n5 n6 n7 n8 H locs hK hP hD hS
set_option maxHeartbeats 2000000 in
theorem mi_1 {p : Program} {l : Launch} {e : Env} {R : Room} {s : State} {m : MethodId} {args : Array Value} {below : List Frame} {meth : Method} {c : Code} {H : Heap} {locs : List Loc} {cells slots : Nat} {Q : State → Prop} {ls : Array Slot} {dC : Nat → ClassId} {dI : Nat → Nat → Nat} {A : Nat → Prop} {h0 : Nat} {v : Nat → Value} {ws : va_W} {tys : List (ClassId × FieldType)} (hx : p.tables.exec = Jvm.exec) (hb : c.code = b_Mo_init) (hts : ∀ w ∈ T0, w.before args s = true) (hown : s.vm.findClass "ZoneFilesModel" = some m.cls) (hin : meth.name = "<init>") (hl : lv_has ls 3 [(0, .ref h0)]) (hK : va_K (dC, dI) classes tys s) (hP : va_P (dC, dI) classes ((h0, .inr (10, mcV v)) :: ws) H) (hD : va_D A ((h0, .inr (10, mcV v)) :: ws)) (hS : va_S A s.heap H locs) (hA : ∀ q, s.heap.size ≤ q → A q) (hkc : cells + 7 ≤ R.cells) (hks : slots + 2415 ≤ R.slots) (kk : ∀ (q9 q10 q11 q12 q13 q14 q15 : Nat) (n9 n10 n11 n12 n13 n14 n15 : ClassId) (H1 : Heap) (locs1 : List Loc), va_K (dC, dI) classes (vst (vst (vst (vst (vst (vst (vst tys (n9, .int)) (n10, .int)) (n11, .int)) (n12, .long)) (n13, .int)) (n14, .int)) (n15, .int)) s → va_P (dC, dI) classes ((h0, .inr (10, mcV (va_up (va_up (va_up (va_up (va_up (va_up (va_up v 9 (.ref q9)) 10 (.ref q10)) 11 (.ref q11)) 12 (.ref q12)) 13 (.ref q13)) 14 (.ref q14)) 15 (.ref q15)))) :: (vsn (vsn (vsn (vsn (vsn (vsn (vsn ws (q9, .inl (n9, 5, .inl (fun _ => 0)))) (q10, .inl (n10, 5, .inl (fun _ => 0)))) (q11, .inl (n11, 5, .inl (fun _ => 0)))) (q12, .inl (n12, 1000, .inr (.inl (fun _ => 0))))) (q13, .inl (n13, 1000, .inl (fun _ => 0)))) (q14, .inl (n14, 200, .inl (fun _ => 0)))) (q15, .inl (n15, 200, .inl (fun _ => 0))))) H1 → va_D A ((h0, .inr (10, mcV (va_up (va_up (va_up (va_up (va_up (va_up (va_up v 9 (.ref q9)) 10 (.ref q10)) 11 (.ref q11)) 12 (.ref q12)) 13 (.ref q13)) 14 (.ref q14)) 15 (.ref q15)))) :: (vsn (vsn (vsn (vsn (vsn (vsn (vsn ws (q9, .inl (n9, 5, .inl (fun _ => 0)))) (q10, .inl (n10, 5, .inl (fun _ => 0)))) (q11, .inl (n11, 5, .inl (fun _ => 0)))) (q12, .inl (n12, 1000, .inr (.inl (fun _ => 0))))) (q13, .inl (n13, 1000, .inl (fun _ => 0)))) (q14, .inl (n14, 200, .inl (fun _ => 0)))) (q15, .inl (n15, 200, .inl (fun _ => 0))))) → va_S A s.heap H1 locs1 → W p l e R s m args below meth c H1 locs1 (cells + 1 + 1 + 1 + 1 + 1 + 1 + 1) (slots + 5 + 5 + 5 + 1000 + 1000 + 200 + 200) Q (F0 m 110 ls [])) : W p l e R s m args below meth c H locs cells slots Q (F0 m 53 ls []) := by
  refine lv_aload_n hx hb d_Mo_init_53 rfl (lv_at hl 0 rfl) ?_
  refine lv_iconst (v := 5) hx hb d_Mo_init_54 (by decide) ?_
  refine mc_9 hx hb hts hown hin hK hP hD hS hA (by omega) (by omega) d_Mo_init_55 d_Mo_init_57 (fun q9 n9 H locs hK hP hD hS => ?_)
  refine lv_aload_n hx hb d_Mo_init_60 rfl (lv_at hl 0 rfl) ?_
  refine lv_iconst (v := 5) hx hb d_Mo_init_61 (by decide) ?_
  refine mc_10 hx hb hts hown hin hK hP hD hS hA (by omega) (by omega) d_Mo_init_62 d_Mo_init_64 (fun q10 n10 H locs hK hP hD hS => ?_)
  refine lv_aload_n hx hb d_Mo_init_67 rfl (lv_at hl 0 rfl) ?_
  refine lv_iconst (v := 5) hx hb d_Mo_init_68 (by decide) ?_
  refine mc_11 hx hb hts hown hin hK hP hD hS hA (by omega) (by omega) d_Mo_init_69 d_Mo_init_71 (fun q11 n11 H locs hK hP hD hS => ?_)
  refine lv_aload_n hx hb d_Mo_init_74 rfl (lv_at hl 0 rfl) ?_
  refine lv_sipush (v := 1000) hx hb d_Mo_init_75 (by decide) ?_
  refine mc_12 hx hb hts hown hin hK hP hD hS hA (by omega) (by omega) d_Mo_init_78 d_Mo_init_80 (fun q12 n12 H locs hK hP hD hS => ?_)
  refine lv_aload_n hx hb d_Mo_init_83 rfl (lv_at hl 0 rfl) ?_
  refine lv_sipush (v := 1000) hx hb d_Mo_init_84 (by decide) ?_
  refine mc_13 hx hb hts hown hin hK hP hD hS hA (by omega) (by omega) d_Mo_init_87 d_Mo_init_89 (fun q13 n13 H locs hK hP hD hS => ?_)
  refine lv_aload_n hx hb d_Mo_init_92 rfl (lv_at hl 0 rfl) ?_
  refine lv_sipush (v := 200) hx hb d_Mo_init_93 (by decide) ?_
  refine mc_14 hx hb hts hown hin hK hP hD hS hA (by omega) (by omega) d_Mo_init_96 d_Mo_init_98 (fun q14 n14 H locs hK hP hD hS => ?_)
  refine lv_aload_n hx hb d_Mo_init_101 rfl (lv_at hl 0 rfl) ?_
  refine lv_sipush (v := 200) hx hb d_Mo_init_102 (by decide) ?_
  refine mc_15 hx hb hts hown hin hK hP hD hS hA (by omega) (by omega) d_Mo_init_105 d_Mo_init_107 (fun q15 n15 H locs hK hP hD hS => ?_)
  exact kk q9 q10 q11 q12 q13 q14 q15 n9 n10 n11 n12 n13 n14 n15 H locs hK hP hD hS
set_option maxHeartbeats 2000000 in
theorem mi_2 {p : Program} {l : Launch} {e : Env} {R : Room} {s : State} {m : MethodId} {args : Array Value} {below : List Frame} {meth : Method} {c : Code} {H : Heap} {locs : List Loc} {cells slots : Nat} {Q : State → Prop} {ls : Array Slot} {dC : Nat → ClassId} {dI : Nat → Nat → Nat} {A : Nat → Prop} {h0 : Nat} {v : Nat → Value} {ws : va_W} {tys : List (ClassId × FieldType)} (hx : p.tables.exec = Jvm.exec) (hb : c.code = b_Mo_init) (hts : ∀ w ∈ T0, w.before args s = true) (hown : s.vm.findClass "ZoneFilesModel" = some m.cls) (hin : meth.name = "<init>") (hl : lv_has ls 3 [(0, .ref h0)]) (hK : va_K (dC, dI) classes tys s) (hP : va_P (dC, dI) classes ((h0, .inr (10, mcV v)) :: ws) H) (hD : va_D A ((h0, .inr (10, mcV v)) :: ws)) (hS : va_S A s.heap H locs) (hA : ∀ q, s.heap.size ≤ q → A q) (hkc : cells + 7 ≤ R.cells) (hks : slots + 2640 ≤ R.slots) (kk : ∀ (q16 q17 q18 q19 q20 q21 q22 : Nat) (n16 n17 n18 n19 n20 n21 n22 : ClassId) (H1 : Heap) (locs1 : List Loc), va_K (dC, dI) classes (vst (vst (vst (vst (vst (vst (vst tys (n16, .int)) (n17, .int)) (n18, .long)) (n19, .long)) (n20, .int)) (n21, .int)) (n22, .int)) s → va_P (dC, dI) classes ((h0, .inr (10, mcV (va_up (va_up (va_up (va_up (va_up (va_up (va_up v 16 (.ref q16)) 17 (.ref q17)) 18 (.ref q18)) 19 (.ref q19)) 20 (.ref q20)) 21 (.ref q21)) 22 (.ref q22)))) :: (vsn (vsn (vsn (vsn (vsn (vsn (vsn ws (q16, .inl (n16, 200, .inl (fun _ => 0)))) (q17, .inl (n17, 1000, .inl (fun _ => 0)))) (q18, .inl (n18, 200, .inr (.inl (fun _ => 0))))) (q19, .inl (n19, 200, .inr (.inl (fun _ => 0))))) (q20, .inl (n20, 200, .inl (fun _ => 0)))) (q21, .inl (n21, 200, .inl (fun _ => 0)))) (q22, .inl (n22, 640, .inl (fun _ => 0))))) H1 → va_D A ((h0, .inr (10, mcV (va_up (va_up (va_up (va_up (va_up (va_up (va_up v 16 (.ref q16)) 17 (.ref q17)) 18 (.ref q18)) 19 (.ref q19)) 20 (.ref q20)) 21 (.ref q21)) 22 (.ref q22)))) :: (vsn (vsn (vsn (vsn (vsn (vsn (vsn ws (q16, .inl (n16, 200, .inl (fun _ => 0)))) (q17, .inl (n17, 1000, .inl (fun _ => 0)))) (q18, .inl (n18, 200, .inr (.inl (fun _ => 0))))) (q19, .inl (n19, 200, .inr (.inl (fun _ => 0))))) (q20, .inl (n20, 200, .inl (fun _ => 0)))) (q21, .inl (n21, 200, .inl (fun _ => 0)))) (q22, .inl (n22, 640, .inl (fun _ => 0))))) → va_S A s.heap H1 locs1 → W p l e R s m args below meth c H1 locs1 (cells + 1 + 1 + 1 + 1 + 1 + 1 + 1) (slots + 200 + 1000 + 200 + 200 + 200 + 200 + 640) Q (F0 m 173 ls [])) : W p l e R s m args below meth c H locs cells slots Q (F0 m 110 ls []) := by
  refine lv_aload_n hx hb d_Mo_init_110 rfl (lv_at hl 0 rfl) ?_
  refine lv_sipush (v := 200) hx hb d_Mo_init_111 (by decide) ?_
  refine mc_16 hx hb hts hown hin hK hP hD hS hA (by omega) (by omega) d_Mo_init_114 d_Mo_init_116 (fun q16 n16 H locs hK hP hD hS => ?_)
  refine lv_aload_n hx hb d_Mo_init_119 rfl (lv_at hl 0 rfl) ?_
  refine lv_sipush (v := 1000) hx hb d_Mo_init_120 (by decide) ?_
  refine mc_17 hx hb hts hown hin hK hP hD hS hA (by omega) (by omega) d_Mo_init_123 d_Mo_init_125 (fun q17 n17 H locs hK hP hD hS => ?_)
  refine lv_aload_n hx hb d_Mo_init_128 rfl (lv_at hl 0 rfl) ?_
  refine lv_sipush (v := 200) hx hb d_Mo_init_129 (by decide) ?_
  refine mc_18 hx hb hts hown hin hK hP hD hS hA (by omega) (by omega) d_Mo_init_132 d_Mo_init_134 (fun q18 n18 H locs hK hP hD hS => ?_)
  refine lv_aload_n hx hb d_Mo_init_137 rfl (lv_at hl 0 rfl) ?_
  refine lv_sipush (v := 200) hx hb d_Mo_init_138 (by decide) ?_
  refine mc_19 hx hb hts hown hin hK hP hD hS hA (by omega) (by omega) d_Mo_init_141 d_Mo_init_143 (fun q19 n19 H locs hK hP hD hS => ?_)
  refine lv_aload_n hx hb d_Mo_init_146 rfl (lv_at hl 0 rfl) ?_
  refine lv_sipush (v := 200) hx hb d_Mo_init_147 (by decide) ?_
  refine mc_20 hx hb hts hown hin hK hP hD hS hA (by omega) (by omega) d_Mo_init_150 d_Mo_init_152 (fun q20 n20 H locs hK hP hD hS => ?_)
  refine lv_aload_n hx hb d_Mo_init_155 rfl (lv_at hl 0 rfl) ?_
  refine lv_sipush (v := 200) hx hb d_Mo_init_156 (by decide) ?_
  refine mc_21 hx hb hts hown hin hK hP hD hS hA (by omega) (by omega) d_Mo_init_159 d_Mo_init_161 (fun q21 n21 H locs hK hP hD hS => ?_)
  refine lv_aload_n hx hb d_Mo_init_164 rfl (lv_at hl 0 rfl) ?_
  refine lv_sipush (v := 640) hx hb d_Mo_init_165 (by decide) ?_
  refine mc_22 hx hb hts hown hin hK hP hD hS hA (by omega) (by omega) d_Mo_init_168 d_Mo_init_170 (fun q22 n22 H locs hK hP hD hS => ?_)
  exact kk q16 q17 q18 q19 q20 q21 q22 n16 n17 n18 n19 n20 n21 n22 H locs hK hP hD hS
set_option maxHeartbeats 2000000 in
theorem mi_3 {p : Program} {l : Launch} {e : Env} {R : Room} {s : State} {m : MethodId} {args : Array Value} {below : List Frame} {meth : Method} {c : Code} {H : Heap} {locs : List Loc} {cells slots : Nat} {Q : State → Prop} {ls : Array Slot} {dC : Nat → ClassId} {dI : Nat → Nat → Nat} {A : Nat → Prop} {h0 : Nat} {v : Nat → Value} {ws : va_W} {tys : List (ClassId × FieldType)} (hx : p.tables.exec = Jvm.exec) (hb : c.code = b_Mo_init) (hts : ∀ w ∈ T0, w.before args s = true) (hown : s.vm.findClass "ZoneFilesModel" = some m.cls) (hin : meth.name = "<init>") (hl : lv_has ls 3 [(0, .ref h0)]) (hK : va_K (dC, dI) classes tys s) (hP : va_P (dC, dI) classes ((h0, .inr (10, mcV v)) :: ws) H) (hD : va_D A ((h0, .inr (10, mcV v)) :: ws)) (hS : va_S A s.heap H locs) (hA : ∀ q, s.heap.size ≤ q → A q) (hkc : cells + 7 ≤ R.cells) (hks : slots + 155 ≤ R.slots) (kk : ∀ (q23 q24 q25 q26 q27 q28 q29 : Nat) (n23 n24 n25 n26 n27 n28 n29 : ClassId) (H1 : Heap) (locs1 : List Loc), va_K (dC, dI) classes (vst (vst (vst (vst (vst (vst (vst tys (n23, .int)) (n24, .int)) (n25, .int)) (n26, .int)) (n27, .int)) (n28, .int)) (n29, .int)) s → va_P (dC, dI) classes ((h0, .inr (10, mcV (va_up (va_up (va_up (va_up (va_up (va_up (va_up v 23 (.ref q23)) 24 (.ref q24)) 25 (.ref q25)) 26 (.ref q26)) 27 (.ref q27)) 28 (.ref q28)) 29 (.ref q29)))) :: (vsn (vsn (vsn (vsn (vsn (vsn (vsn ws (q23, .inl (n23, 5, .inl (fun _ => 0)))) (q24, .inl (n24, 10, .inl (fun _ => 0)))) (q25, .inl (n25, 10, .inl (fun _ => 0)))) (q26, .inl (n26, 100, .inl (fun _ => 0)))) (q27, .inl (n27, 10, .inl (fun _ => 0)))) (q28, .inl (n28, 10, .inl (fun _ => 0)))) (q29, .inl (n29, 10, .inl (fun _ => 0))))) H1 → va_D A ((h0, .inr (10, mcV (va_up (va_up (va_up (va_up (va_up (va_up (va_up v 23 (.ref q23)) 24 (.ref q24)) 25 (.ref q25)) 26 (.ref q26)) 27 (.ref q27)) 28 (.ref q28)) 29 (.ref q29)))) :: (vsn (vsn (vsn (vsn (vsn (vsn (vsn ws (q23, .inl (n23, 5, .inl (fun _ => 0)))) (q24, .inl (n24, 10, .inl (fun _ => 0)))) (q25, .inl (n25, 10, .inl (fun _ => 0)))) (q26, .inl (n26, 100, .inl (fun _ => 0)))) (q27, .inl (n27, 10, .inl (fun _ => 0)))) (q28, .inl (n28, 10, .inl (fun _ => 0)))) (q29, .inl (n29, 10, .inl (fun _ => 0))))) → va_S A s.heap H1 locs1 → W p l e R s m args below meth c H1 locs1 (cells + 1 + 1 + 1 + 1 + 1 + 1 + 1) (slots + 5 + 10 + 10 + 100 + 10 + 10 + 10) Q (F0 m 228 ls [])) : W p l e R s m args below meth c H locs cells slots Q (F0 m 173 ls []) := by
  refine lv_aload_n hx hb d_Mo_init_173 rfl (lv_at hl 0 rfl) ?_
  refine lv_iconst (v := 5) hx hb d_Mo_init_174 (by decide) ?_
  refine mc_23 hx hb hts hown hin hK hP hD hS hA (by omega) (by omega) d_Mo_init_175 d_Mo_init_177 (fun q23 n23 H locs hK hP hD hS => ?_)
  refine lv_aload_n hx hb d_Mo_init_180 rfl (lv_at hl 0 rfl) ?_
  refine lv_bipush (v := 10) hx hb d_Mo_init_181 (by decide) ?_
  refine mc_24 hx hb hts hown hin hK hP hD hS hA (by omega) (by omega) d_Mo_init_183 d_Mo_init_185 (fun q24 n24 H locs hK hP hD hS => ?_)
  refine lv_aload_n hx hb d_Mo_init_188 rfl (lv_at hl 0 rfl) ?_
  refine lv_bipush (v := 10) hx hb d_Mo_init_189 (by decide) ?_
  refine mc_25 hx hb hts hown hin hK hP hD hS hA (by omega) (by omega) d_Mo_init_191 d_Mo_init_193 (fun q25 n25 H locs hK hP hD hS => ?_)
  refine lv_aload_n hx hb d_Mo_init_196 rfl (lv_at hl 0 rfl) ?_
  refine lv_bipush (v := 100) hx hb d_Mo_init_197 (by decide) ?_
  refine mc_26 hx hb hts hown hin hK hP hD hS hA (by omega) (by omega) d_Mo_init_199 d_Mo_init_201 (fun q26 n26 H locs hK hP hD hS => ?_)
  refine lv_aload_n hx hb d_Mo_init_204 rfl (lv_at hl 0 rfl) ?_
  refine lv_bipush (v := 10) hx hb d_Mo_init_205 (by decide) ?_
  refine mc_27 hx hb hts hown hin hK hP hD hS hA (by omega) (by omega) d_Mo_init_207 d_Mo_init_209 (fun q27 n27 H locs hK hP hD hS => ?_)
  refine lv_aload_n hx hb d_Mo_init_212 rfl (lv_at hl 0 rfl) ?_
  refine lv_bipush (v := 10) hx hb d_Mo_init_213 (by decide) ?_
  refine mc_28 hx hb hts hown hin hK hP hD hS hA (by omega) (by omega) d_Mo_init_215 d_Mo_init_217 (fun q28 n28 H locs hK hP hD hS => ?_)
  refine lv_aload_n hx hb d_Mo_init_220 rfl (lv_at hl 0 rfl) ?_
  refine lv_bipush (v := 10) hx hb d_Mo_init_221 (by decide) ?_
  refine mc_29 hx hb hts hown hin hK hP hD hS hA (by omega) (by omega) d_Mo_init_223 d_Mo_init_225 (fun q29 n29 H locs hK hP hD hS => ?_)
  exact kk q23 q24 q25 q26 q27 q28 q29 n23 n24 n25 n26 n27 n28 n29 H locs hK hP hD hS
set_option maxHeartbeats 2000000 in
theorem mi_4 {p : Program} {l : Launch} {e : Env} {R : Room} {s : State} {m : MethodId} {args : Array Value} {below : List Frame} {meth : Method} {c : Code} {H : Heap} {locs : List Loc} {cells slots : Nat} {Q : State → Prop} {ls : Array Slot} {dC : Nat → ClassId} {dI : Nat → Nat → Nat} {A : Nat → Prop} {h0 : Nat} {v : Nat → Value} {ws : va_W} {tys : List (ClassId × FieldType)} (hx : p.tables.exec = Jvm.exec) (hb : c.code = b_Mo_init) (hts : ∀ w ∈ T0, w.before args s = true) (hown : s.vm.findClass "ZoneFilesModel" = some m.cls) (hin : meth.name = "<init>") (hl : lv_has ls 3 [(0, .ref h0)]) (hK : va_K (dC, dI) classes tys s) (hP : va_P (dC, dI) classes ((h0, .inr (10, mcV v)) :: ws) H) (hD : va_D A ((h0, .inr (10, mcV v)) :: ws)) (hS : va_S A s.heap H locs) (hA : ∀ q, s.heap.size ≤ q → A q) (hkc : cells + 7 ≤ R.cells) (hks : slots + 6110 ≤ R.slots) (kk : ∀ (q30 q31 q37 q48 q53 q54 q56 : Nat) (n30 n31 n37 n48 n53 n54 n56 : ClassId) (H1 : Heap) (locs1 : List Loc), va_K (dC, dI) classes (vst (vst (vst (vst (vst (vst (vst tys (n30, .int)) (n31, .int)) (n37, .long)) (n48, .int)) (n53, .int)) (n54, .long)) (n56, .int)) s → va_P (dC, dI) classes ((h0, .inr (10, mcV (va_up (va_up (va_up (va_up (va_up (va_up (va_up v 30 (.ref q30)) 31 (.ref q31)) 37 (.ref q37)) 48 (.ref q48)) 53 (.ref q53)) 54 (.ref q54)) 56 (.ref q56)))) :: (vsn (vsn (vsn (vsn (vsn (vsn (vsn ws (q30, .inl (n30, 10, .inl (fun _ => 0)))) (q31, .inl (n31, 10, .inl (fun _ => 0)))) (q37, .inl (n37, 6, .inr (.inl (fun _ => 0))))) (q48, .inl (n48, 10, .inl (fun _ => 0)))) (q53, .inl (n53, 10, .inl (fun _ => 0)))) (q54, .inl (n54, 64, .inr (.inl (fun _ => 0))))) (q56, .inl (n56, 6000, .inl (fun _ => 0))))) H1 → va_D A ((h0, .inr (10, mcV (va_up (va_up (va_up (va_up (va_up (va_up (va_up v 30 (.ref q30)) 31 (.ref q31)) 37 (.ref q37)) 48 (.ref q48)) 53 (.ref q53)) 54 (.ref q54)) 56 (.ref q56)))) :: (vsn (vsn (vsn (vsn (vsn (vsn (vsn ws (q30, .inl (n30, 10, .inl (fun _ => 0)))) (q31, .inl (n31, 10, .inl (fun _ => 0)))) (q37, .inl (n37, 6, .inr (.inl (fun _ => 0))))) (q48, .inl (n48, 10, .inl (fun _ => 0)))) (q53, .inl (n53, 10, .inl (fun _ => 0)))) (q54, .inl (n54, 64, .inr (.inl (fun _ => 0))))) (q56, .inl (n56, 6000, .inl (fun _ => 0))))) → va_S A s.heap H1 locs1 → W p l e R s m args below meth c H1 locs1 (cells + 1 + 1 + 1 + 1 + 1 + 1 + 1) (slots + 10 + 10 + 6 + 10 + 10 + 64 + 6000) Q (F0 m 285 ls [])) : W p l e R s m args below meth c H locs cells slots Q (F0 m 228 ls []) := by
  refine lv_aload_n hx hb d_Mo_init_228 rfl (lv_at hl 0 rfl) ?_
  refine lv_bipush (v := 10) hx hb d_Mo_init_229 (by decide) ?_
  refine mc_30 hx hb hts hown hin hK hP hD hS hA (by omega) (by omega) d_Mo_init_231 d_Mo_init_233 (fun q30 n30 H locs hK hP hD hS => ?_)
  refine lv_aload_n hx hb d_Mo_init_236 rfl (lv_at hl 0 rfl) ?_
  refine lv_bipush (v := 10) hx hb d_Mo_init_237 (by decide) ?_
  refine mc_31 hx hb hts hown hin hK hP hD hS hA (by omega) (by omega) d_Mo_init_239 d_Mo_init_241 (fun q31 n31 H locs hK hP hD hS => ?_)
  refine lv_aload_n hx hb d_Mo_init_244 rfl (lv_at hl 0 rfl) ?_
  refine lv_bipush (v := 6) hx hb d_Mo_init_245 (by decide) ?_
  refine mc_37 hx hb hts hown hin hK hP hD hS hA (by omega) (by omega) d_Mo_init_247 d_Mo_init_249 (fun q37 n37 H locs hK hP hD hS => ?_)
  refine lv_aload_n hx hb d_Mo_init_252 rfl (lv_at hl 0 rfl) ?_
  refine lv_bipush (v := 10) hx hb d_Mo_init_253 (by decide) ?_
  refine mc_48 hx hb hts hown hin hK hP hD hS hA (by omega) (by omega) d_Mo_init_255 d_Mo_init_257 (fun q48 n48 H locs hK hP hD hS => ?_)
  refine lv_aload_n hx hb d_Mo_init_260 rfl (lv_at hl 0 rfl) ?_
  refine lv_bipush (v := 10) hx hb d_Mo_init_261 (by decide) ?_
  refine mc_53 hx hb hts hown hin hK hP hD hS hA (by omega) (by omega) d_Mo_init_263 d_Mo_init_265 (fun q53 n53 H locs hK hP hD hS => ?_)
  refine lv_aload_n hx hb d_Mo_init_268 rfl (lv_at hl 0 rfl) ?_
  refine lv_bipush (v := 64) hx hb d_Mo_init_269 (by decide) ?_
  refine mc_54 hx hb hts hown hin hK hP hD hS hA (by omega) (by omega) d_Mo_init_271 d_Mo_init_273 (fun q54 n54 H locs hK hP hD hS => ?_)
  refine lv_aload_n hx hb d_Mo_init_276 rfl (lv_at hl 0 rfl) ?_
  refine lv_sipush (v := 6000) hx hb d_Mo_init_277 (by decide) ?_
  refine mc_56 hx hb hts hown hin hK hP hD hS hA (by omega) (by omega) d_Mo_init_280 d_Mo_init_282 (fun q56 n56 H locs hK hP hD hS => ?_)
  exact kk q30 q31 q37 q48 q53 q54 q56 n30 n31 n37 n48 n53 n54 n56 H locs hK hP hD hS
set_option maxHeartbeats 2000000 in
theorem mi_5 {p : Program} {l : Launch} {e : Env} {R : Room} {s : State} {m : MethodId} {args : Array Value} {below : List Frame} {meth : Method} {c : Code} {H : Heap} {locs : List Loc} {cells slots : Nat} {Q : State → Prop} {ls : Array Slot} {dC : Nat → ClassId} {dI : Nat → Nat → Nat} {A : Nat → Prop} {h0 : Nat} {v : Nat → Value} {ws : va_W} {tys : List (ClassId × FieldType)} (hx : p.tables.exec = Jvm.exec) (hb : c.code = b_Mo_init) (hts : ∀ w ∈ T0, w.before args s = true) (hown : s.vm.findClass "ZoneFilesModel" = some m.cls) (hin : meth.name = "<init>") (hl : lv_has ls 3 [(0, .ref h0)]) (hK : va_K (dC, dI) classes tys s) (hP : va_P (dC, dI) classes ((h0, .inr (10, mcV v)) :: ws) H) (hD : va_D A ((h0, .inr (10, mcV v)) :: ws)) (hS : va_S A s.heap H locs) (hA : ∀ q, s.heap.size ≤ q → A q) (hkc : cells + 6 ≤ R.cells) (hks : slots + 6368 ≤ R.slots) (kk : ∀ (q58 q60 q63 q64 q67 q68 : Nat) (n58 n60 n63 n64 n67 n68 : ClassId) (H1 : Heap) (locs1 : List Loc), va_K (dC, dI) classes (vst (vst (vst (vst (vst (vst tys (n58, .int)) (n60, .int)) (n63, .long)) (n64, .long)) (n67, .long)) (n68, .long)) s → va_P (dC, dI) classes ((h0, .inr (10, mcV (va_up (va_up (va_up (va_up (va_up (va_up v 58 (.ref q58)) 60 (.ref q60)) 63 (.ref q63)) 64 (.ref q64)) 67 (.ref q67)) 68 (.ref q68)))) :: (vsn (vsn (vsn (vsn (vsn (vsn ws (q58, .inl (n58, 6000, .inl (fun _ => 0)))) (q60, .inl (n60, 128, .inl (fun _ => 0)))) (q63, .inl (n63, 60, .inr (.inl (fun _ => 0))))) (q64, .inl (n64, 60, .inr (.inl (fun _ => 0))))) (q67, .inl (n67, 60, .inr (.inl (fun _ => 0))))) (q68, .inl (n68, 60, .inr (.inl (fun _ => 0)))))) H1 → va_D A ((h0, .inr (10, mcV (va_up (va_up (va_up (va_up (va_up (va_up v 58 (.ref q58)) 60 (.ref q60)) 63 (.ref q63)) 64 (.ref q64)) 67 (.ref q67)) 68 (.ref q68)))) :: (vsn (vsn (vsn (vsn (vsn (vsn ws (q58, .inl (n58, 6000, .inl (fun _ => 0)))) (q60, .inl (n60, 128, .inl (fun _ => 0)))) (q63, .inl (n63, 60, .inr (.inl (fun _ => 0))))) (q64, .inl (n64, 60, .inr (.inl (fun _ => 0))))) (q67, .inl (n67, 60, .inr (.inl (fun _ => 0))))) (q68, .inl (n68, 60, .inr (.inl (fun _ => 0)))))) → va_S A s.heap H1 locs1 → W p l e R s m args below meth c H1 locs1 (cells + 1 + 1 + 1 + 1 + 1 + 1) (slots + 6000 + 128 + 60 + 60 + 60 + 60) Q (F0 m 335 ls [])) : W p l e R s m args below meth c H locs cells slots Q (F0 m 285 ls []) := by
  refine lv_aload_n hx hb d_Mo_init_285 rfl (lv_at hl 0 rfl) ?_
  refine lv_sipush (v := 6000) hx hb d_Mo_init_286 (by decide) ?_
  refine mc_58 hx hb hts hown hin hK hP hD hS hA (by omega) (by omega) d_Mo_init_289 d_Mo_init_291 (fun q58 n58 H locs hK hP hD hS => ?_)
  refine lv_aload_n hx hb d_Mo_init_294 rfl (lv_at hl 0 rfl) ?_
  refine lv_sipush (v := 128) hx hb d_Mo_init_295 (by decide) ?_
  refine mc_60 hx hb hts hown hin hK hP hD hS hA (by omega) (by omega) d_Mo_init_298 d_Mo_init_300 (fun q60 n60 H locs hK hP hD hS => ?_)
  refine lv_aload_n hx hb d_Mo_init_303 rfl (lv_at hl 0 rfl) ?_
  refine lv_bipush (v := 60) hx hb d_Mo_init_304 (by decide) ?_
  refine mc_63 hx hb hts hown hin hK hP hD hS hA (by omega) (by omega) d_Mo_init_306 d_Mo_init_308 (fun q63 n63 H locs hK hP hD hS => ?_)
  refine lv_aload_n hx hb d_Mo_init_311 rfl (lv_at hl 0 rfl) ?_
  refine lv_bipush (v := 60) hx hb d_Mo_init_312 (by decide) ?_
  refine mc_64 hx hb hts hown hin hK hP hD hS hA (by omega) (by omega) d_Mo_init_314 d_Mo_init_316 (fun q64 n64 H locs hK hP hD hS => ?_)
  refine lv_aload_n hx hb d_Mo_init_319 rfl (lv_at hl 0 rfl) ?_
  refine lv_bipush (v := 60) hx hb d_Mo_init_320 (by decide) ?_
  refine mc_67 hx hb hts hown hin hK hP hD hS hA (by omega) (by omega) d_Mo_init_322 d_Mo_init_324 (fun q67 n67 H locs hK hP hD hS => ?_)
  refine lv_aload_n hx hb d_Mo_init_327 rfl (lv_at hl 0 rfl) ?_
  refine lv_bipush (v := 60) hx hb d_Mo_init_328 (by decide) ?_
  refine mc_68 hx hb hts hown hin hK hP hD hS hA (by omega) (by omega) d_Mo_init_330 d_Mo_init_332 (fun q68 n68 H locs hK hP hD hS => ?_)
  exact kk q58 q60 q63 q64 q67 q68 n58 n60 n63 n64 n67 n68 H locs hK hP hD hS
theorem mi_L {V : Nat → Value} {r : Nat → Nat} (e0 : V 0 = .ref (r 0)) (e1 : V 1 = .int 0) (e2 : V 2 = .int (-1)) (e3 : V 3 = .int 0) (e4 : V 4 = .ref (r 4)) (e5 : V 5 = .ref (r 5)) (e6 : V 6 = .ref (r 6)) (e7 : V 7 = .ref (r 7)) (e8 : V 8 = .ref (r 8)) (e9 : V 9 = .ref (r 9)) (e10 : V 10 = .ref (r 10)) (e11 : V 11 = .ref (r 11)) (e12 : V 12 = .ref (r 12)) (e13 : V 13 = .ref (r 13)) (e14 : V 14 = .ref (r 14)) (e15 : V 15 = .ref (r 15)) (e16 : V 16 = .ref (r 16)) (e17 : V 17 = .ref (r 17)) (e18 : V 18 = .ref (r 18)) (e19 : V 19 = .ref (r 19)) (e20 : V 20 = .ref (r 20)) (e21 : V 21 = .ref (r 21)) (e22 : V 22 = .ref (r 22)) (e23 : V 23 = .ref (r 23)) (e24 : V 24 = .ref (r 24)) (e25 : V 25 = .ref (r 25)) (e26 : V 26 = .ref (r 26)) (e27 : V 27 = .ref (r 27)) (e28 : V 28 = .ref (r 28)) (e29 : V 29 = .ref (r 29)) (e30 : V 30 = .ref (r 30)) (e31 : V 31 = .ref (r 31)) (e32 : V 32 = .int 0) (e33 : V 33 = .int 0) (e34 : V 34 = .int 0) (e35 : V 35 = .int 0) (e36 : V 36 = .int 0) (e37 : V 37 = .ref (r 37)) (e38 : V 38 = .int 0) (e39 : V 39 = .int 0) (e40 : V 40 = .long 0) (e41 : V 41 = .int 0) (e42 : V 42 = .int 0) (e43 : V 43 = .int 0) (e44 : V 44 = .int 0) (e45 : V 45 = .int 0) (e46 : V 46 = .int 0) (e47 : V 47 = .int 0) (e48 : V 48 = .ref (r 48)) (e49 : V 49 = .int 0) (e50 : V 50 = .int 0) (e51 : V 51 = .int 0) (e52 : V 52 = .int 0) (e53 : V 53 = .ref (r 53)) (e54 : V 54 = .ref (r 54)) (e55 : V 55 = .int 0) (e56 : V 56 = .ref (r 56)) (e57 : V 57 = .int 0) (e58 : V 58 = .ref (r 58)) (e59 : V 59 = .int 0) (e60 : V 60 = .ref (r 60)) (e61 : V 61 = .int 0) (e62 : V 62 = .int 0) (e63 : V 63 = .ref (r 63)) (e64 : V 64 = .ref (r 64)) (e65 : V 65 = .long 0) (e66 : V 66 = .int 0) (e67 : V 67 = .ref (r 67)) (e68 : V 68 = .ref (r 68)) (e69 : V 69 = .long 0) (e70 : V 70 = .int 0) (e71 : V 71 = .long 0) : mcV V = moL r (va_up (fun _ => 0) 2 (-1)) (fun _ => 0) := by
  show [V 0, V 1, V 2, V 3, V 4, V 5, V 6, V 7, V 8, V 9, V 10, V 11, V 12, V 13, V 14, V 15, V 16, V 17, V 18, V 19, V 20, V 21, V 22, V 23, V 24, V 25, V 26, V 27, V 28, V 29, V 30, V 31, V 32, V 33, V 34, V 35, V 36, V 37, V 38, V 39, V 40, V 41, V 42, V 43, V 44, V 45, V 46, V 47, V 48, V 49, V 50, V 51, V 52, V 53, V 54, V 55, V 56, V 57, V 58, V 59, V 60, V 61, V 62, V 63, V 64, V 65, V 66, V 67, V 68, V 69, V 70, V 71] = _
  rw [e0, e1, e2, e3, e4, e5, e6, e7, e8, e9, e10, e11, e12, e13, e14, e15, e16, e17, e18, e19, e20, e21, e22, e23, e24, e25, e26, e27, e28, e29, e30, e31, e32, e33, e34, e35, e36, e37, e38, e39, e40, e41, e42, e43, e44, e45, e46, e47, e48, e49, e50, e51, e52, e53, e54, e55, e56, e57, e58, e59, e60, e61, e62, e63, e64, e65, e66, e67, e68, e69, e70, e71]
  rfl
set_option maxHeartbeats 4000000 in
set_option maxRecDepth 100000 in
theorem mi_V (r : Nat → Nat) : mcV (va_up (va_up (va_up (va_up (va_up (va_up (va_up (va_up (va_up (va_up (va_up (va_up (va_up (va_up (va_up (va_up (va_up (va_up (va_up (va_up (va_up (va_up (va_up (va_up (va_up (va_up (va_up (va_up (va_up (va_up (va_up (va_up (va_up (va_up (va_up (va_up (va_up (va_up (va_up (va_up (va_up mv0 0 (.ref (r 0))) 2 (.int (-1))) 4 (.ref (r 4))) 5 (.ref (r 5))) 6 (.ref (r 6))) 7 (.ref (r 7))) 8 (.ref (r 8))) 9 (.ref (r 9))) 10 (.ref (r 10))) 11 (.ref (r 11))) 12 (.ref (r 12))) 13 (.ref (r 13))) 14 (.ref (r 14))) 15 (.ref (r 15))) 16 (.ref (r 16))) 17 (.ref (r 17))) 18 (.ref (r 18))) 19 (.ref (r 19))) 20 (.ref (r 20))) 21 (.ref (r 21))) 22 (.ref (r 22))) 23 (.ref (r 23))) 24 (.ref (r 24))) 25 (.ref (r 25))) 26 (.ref (r 26))) 27 (.ref (r 27))) 28 (.ref (r 28))) 29 (.ref (r 29))) 30 (.ref (r 30))) 31 (.ref (r 31))) 37 (.ref (r 37))) 48 (.ref (r 48))) 53 (.ref (r 53))) 54 (.ref (r 54))) 56 (.ref (r 56))) 58 (.ref (r 58))) 60 (.ref (r 60))) 63 (.ref (r 63))) 64 (.ref (r 64))) 67 (.ref (r 67))) 68 (.ref (r 68))) = moL r (va_up (fun _ => 0) 2 (-1)) (fun _ => 0) := mi_L (V := (va_up (va_up (va_up (va_up (va_up (va_up (va_up (va_up (va_up (va_up (va_up (va_up (va_up (va_up (va_up (va_up (va_up (va_up (va_up (va_up (va_up (va_up (va_up (va_up (va_up (va_up (va_up (va_up (va_up (va_up (va_up (va_up (va_up (va_up (va_up (va_up (va_up (va_up (va_up (va_up (va_up mv0 0 (.ref (r 0))) 2 (.int (-1))) 4 (.ref (r 4))) 5 (.ref (r 5))) 6 (.ref (r 6))) 7 (.ref (r 7))) 8 (.ref (r 8))) 9 (.ref (r 9))) 10 (.ref (r 10))) 11 (.ref (r 11))) 12 (.ref (r 12))) 13 (.ref (r 13))) 14 (.ref (r 14))) 15 (.ref (r 15))) 16 (.ref (r 16))) 17 (.ref (r 17))) 18 (.ref (r 18))) 19 (.ref (r 19))) 20 (.ref (r 20))) 21 (.ref (r 21))) 22 (.ref (r 22))) 23 (.ref (r 23))) 24 (.ref (r 24))) 25 (.ref (r 25))) 26 (.ref (r 26))) 27 (.ref (r 27))) 28 (.ref (r 28))) 29 (.ref (r 29))) 30 (.ref (r 30))) 31 (.ref (r 31))) 37 (.ref (r 37))) 48 (.ref (r 48))) 53 (.ref (r 53))) 54 (.ref (r 54))) 56 (.ref (r 56))) 58 (.ref (r 58))) 60 (.ref (r 60))) 63 (.ref (r 63))) 64 (.ref (r 64))) 67 (.ref (r 67))) 68 (.ref (r 68)))) (r := r) rfl rfl rfl rfl rfl rfl rfl rfl rfl rfl rfl rfl rfl rfl rfl rfl rfl rfl rfl rfl rfl rfl rfl rfl rfl rfl rfl rfl rfl rfl rfl rfl rfl rfl rfl rfl rfl rfl rfl rfl rfl rfl rfl rfl rfl rfl rfl rfl rfl rfl rfl rfl rfl rfl rfl rfl rfl rfl rfl rfl rfl rfl rfl rfl rfl rfl rfl rfl rfl rfl rfl rfl
set_option maxHeartbeats 4000000 in
set_option maxRecDepth 100000 in
theorem mi_eq (h0 : Nat) (r : Nat → Nat) (cA : Nat → ClassId) : (((h0, .inr (10, mcV (va_up (va_up (va_up (va_up (va_up (va_up (va_up (va_up (va_up (va_up (va_up (va_up (va_up (va_up (va_up (va_up (va_up (va_up (va_up (va_up (va_up (va_up (va_up (va_up (va_up (va_up (va_up (va_up (va_up (va_up (va_up (va_up (va_up (va_up (va_up (va_up (va_up (va_up (va_up (va_up (va_up mv0 0 (.ref (r 0))) 2 (.int (-1))) 4 (.ref (r 4))) 5 (.ref (r 5))) 6 (.ref (r 6))) 7 (.ref (r 7))) 8 (.ref (r 8))) 9 (.ref (r 9))) 10 (.ref (r 10))) 11 (.ref (r 11))) 12 (.ref (r 12))) 13 (.ref (r 13))) 14 (.ref (r 14))) 15 (.ref (r 15))) 16 (.ref (r 16))) 17 (.ref (r 17))) 18 (.ref (r 18))) 19 (.ref (r 19))) 20 (.ref (r 20))) 21 (.ref (r 21))) 22 (.ref (r 22))) 23 (.ref (r 23))) 24 (.ref (r 24))) 25 (.ref (r 25))) 26 (.ref (r 26))) 27 (.ref (r 27))) 28 (.ref (r 28))) 29 (.ref (r 29))) 30 (.ref (r 30))) 31 (.ref (r 31))) 37 (.ref (r 37))) 48 (.ref (r 48))) 53 (.ref (r 53))) 54 (.ref (r 54))) 56 (.ref (r 56))) 58 (.ref (r 58))) 60 (.ref (r 60))) 63 (.ref (r 63))) 64 (.ref (r 64))) 67 (.ref (r 67))) 68 (.ref (r 68))))) :: (vsn (vsn (vsn (vsn (vsn (vsn (vsn (vsn (vsn (vsn (vsn (vsn (vsn (vsn (vsn (vsn (vsn (vsn (vsn (vsn (vsn (vsn (vsn (vsn (vsn (vsn (vsn (vsn (vsn (vsn (vsn (vsn (vsn (vsn (vsn (vsn (vsn (vsn (vsn (vsn [] ((r 0), .inl ((cA 0), 6000, .inl (fun _ => 0)))) ((r 4), .inl ((cA 4), 5, .inl (fun _ => 0)))) ((r 5), .inl ((cA 5), 5, .inl (fun _ => 0)))) ((r 6), .inl ((cA 6), 5, .inl (fun _ => 0)))) ((r 7), .inl ((cA 7), 5, .inl (fun _ => 0)))) ((r 8), .inl ((cA 8), 5, .inl (fun _ => 0)))) ((r 9), .inl ((cA 9), 5, .inl (fun _ => 0)))) ((r 10), .inl ((cA 10), 5, .inl (fun _ => 0)))) ((r 11), .inl ((cA 11), 5, .inl (fun _ => 0)))) ((r 12), .inl ((cA 12), 1000, .inr (.inl (fun _ => 0))))) ((r 13), .inl ((cA 13), 1000, .inl (fun _ => 0)))) ((r 14), .inl ((cA 14), 200, .inl (fun _ => 0)))) ((r 15), .inl ((cA 15), 200, .inl (fun _ => 0)))) ((r 16), .inl ((cA 16), 200, .inl (fun _ => 0)))) ((r 17), .inl ((cA 17), 1000, .inl (fun _ => 0)))) ((r 18), .inl ((cA 18), 200, .inr (.inl (fun _ => 0))))) ((r 19), .inl ((cA 19), 200, .inr (.inl (fun _ => 0))))) ((r 20), .inl ((cA 20), 200, .inl (fun _ => 0)))) ((r 21), .inl ((cA 21), 200, .inl (fun _ => 0)))) ((r 22), .inl ((cA 22), 640, .inl (fun _ => 0)))) ((r 23), .inl ((cA 23), 5, .inl (fun _ => 0)))) ((r 24), .inl ((cA 24), 10, .inl (fun _ => 0)))) ((r 25), .inl ((cA 25), 10, .inl (fun _ => 0)))) ((r 26), .inl ((cA 26), 100, .inl (fun _ => 0)))) ((r 27), .inl ((cA 27), 10, .inl (fun _ => 0)))) ((r 28), .inl ((cA 28), 10, .inl (fun _ => 0)))) ((r 29), .inl ((cA 29), 10, .inl (fun _ => 0)))) ((r 30), .inl ((cA 30), 10, .inl (fun _ => 0)))) ((r 31), .inl ((cA 31), 10, .inl (fun _ => 0)))) ((r 37), .inl ((cA 37), 6, .inr (.inl (fun _ => 0))))) ((r 48), .inl ((cA 48), 10, .inl (fun _ => 0)))) ((r 53), .inl ((cA 53), 10, .inl (fun _ => 0)))) ((r 54), .inl ((cA 54), 64, .inr (.inl (fun _ => 0))))) ((r 56), .inl ((cA 56), 6000, .inl (fun _ => 0)))) ((r 58), .inl ((cA 58), 6000, .inl (fun _ => 0)))) ((r 60), .inl ((cA 60), 128, .inl (fun _ => 0)))) ((r 63), .inl ((cA 63), 60, .inr (.inl (fun _ => 0))))) ((r 64), .inl ((cA 64), 60, .inr (.inl (fun _ => 0))))) ((r 67), .inl ((cA 67), 60, .inr (.inl (fun _ => 0))))) ((r 68), .inl ((cA 68), 60, .inr (.inl (fun _ => 0)))))) : va_W) = moW h0 r cA (va_up (fun _ => 0) 2 (-1)) (fun _ => 0) (fun _ _ => 0) (fun _ _ => 0) := by
  rw [mi_V]
  simp only [vsn, vst, List.nil_append, List.append_assoc, List.cons_append]
theorem mi_ty (cA : Nat → ClassId) : ((vst (vst (vst (vst (vst (vst (vst (vst (vst (vst (vst (vst (vst (vst (vst (vst (vst (vst (vst (vst (vst (vst (vst (vst (vst (vst (vst (vst (vst (vst (vst (vst (vst (vst (vst (vst (vst (vst (vst (vst [] ((cA 0), .int)) ((cA 4), .int)) ((cA 5), .int)) ((cA 6), .int)) ((cA 7), .int)) ((cA 8), .int)) ((cA 9), .int)) ((cA 10), .int)) ((cA 11), .int)) ((cA 12), .long)) ((cA 13), .int)) ((cA 14), .int)) ((cA 15), .int)) ((cA 16), .int)) ((cA 17), .int)) ((cA 18), .long)) ((cA 19), .long)) ((cA 20), .int)) ((cA 21), .int)) ((cA 22), .int)) ((cA 23), .int)) ((cA 24), .int)) ((cA 25), .int)) ((cA 26), .int)) ((cA 27), .int)) ((cA 28), .int)) ((cA 29), .int)) ((cA 30), .int)) ((cA 31), .int)) ((cA 37), .long)) ((cA 48), .int)) ((cA 53), .int)) ((cA 54), .long)) ((cA 56), .int)) ((cA 58), .int)) ((cA 60), .int)) ((cA 63), .long)) ((cA 64), .long)) ((cA 67), .long)) ((cA 68), .long)) : List (ClassId × FieldType)) = moT cA := by
  simp only [vsn, vst, List.nil_append, List.append_assoc, List.cons_append]
set_option maxHeartbeats 4000000 in
set_option maxRecDepth 100000 in
theorem mi_r (q0 : Nat) (q4 : Nat) (q5 : Nat) (q6 : Nat) (q7 : Nat) (q8 : Nat) (q9 : Nat) (q10 : Nat) (q11 : Nat) (q12 : Nat) (q13 : Nat) (q14 : Nat) (q15 : Nat) (q16 : Nat) (q17 : Nat) (q18 : Nat) (q19 : Nat) (q20 : Nat) (q21 : Nat) (q22 : Nat) (q23 : Nat) (q24 : Nat) (q25 : Nat) (q26 : Nat) (q27 : Nat) (q28 : Nat) (q29 : Nat) (q30 : Nat) (q31 : Nat) (q37 : Nat) (q48 : Nat) (q53 : Nat) (q54 : Nat) (q56 : Nat) (q58 : Nat) (q60 : Nat) (q63 : Nat) (q64 : Nat) (q67 : Nat) (q68 : Nat) : ∃ r : Nat → Nat, q0 = r 0 ∧ q4 = r 4 ∧ q5 = r 5 ∧ q6 = r 6 ∧ q7 = r 7 ∧ q8 = r 8 ∧ q9 = r 9 ∧ q10 = r 10 ∧ q11 = r 11 ∧ q12 = r 12 ∧ q13 = r 13 ∧ q14 = r 14 ∧ q15 = r 15 ∧ q16 = r 16 ∧ q17 = r 17 ∧ q18 = r 18 ∧ q19 = r 19 ∧ q20 = r 20 ∧ q21 = r 21 ∧ q22 = r 22 ∧ q23 = r 23 ∧ q24 = r 24 ∧ q25 = r 25 ∧ q26 = r 26 ∧ q27 = r 27 ∧ q28 = r 28 ∧ q29 = r 29 ∧ q30 = r 30 ∧ q31 = r 31 ∧ q37 = r 37 ∧ q48 = r 48 ∧ q53 = r 53 ∧ q54 = r 54 ∧ q56 = r 56 ∧ q58 = r 58 ∧ q60 = r 60 ∧ q63 = r 63 ∧ q64 = r 64 ∧ q67 = r 67 ∧ q68 = r 68 := ⟨(va_up (va_up (va_up (va_up (va_up (va_up (va_up (va_up (va_up (va_up (va_up (va_up (va_up (va_up (va_up (va_up (va_up (va_up (va_up (va_up (va_up (va_up (va_up (va_up (va_up (va_up (va_up (va_up (va_up (va_up (va_up (va_up (va_up (va_up (va_up (va_up (va_up (va_up (va_up (va_up (fun _ => 0) 0 q0) 4 q4) 5 q5) 6 q6) 7 q7) 8 q8) 9 q9) 10 q10) 11 q11) 12 q12) 13 q13) 14 q14) 15 q15) 16 q16) 17 q17) 18 q18) 19 q19) 20 q20) 21 q21) 22 q22) 23 q23) 24 q24) 25 q25) 26 q26) 27 q27) 28 q28) 29 q29) 30 q30) 31 q31) 37 q37) 48 q48) 53 q53) 54 q54) 56 q56) 58 q58) 60 q60) 63 q63) 64 q64) 67 q67) 68 q68), rfl, rfl, rfl, rfl, rfl, rfl, rfl, rfl, rfl, rfl, rfl, rfl, rfl, rfl, rfl, rfl, rfl, rfl, rfl, rfl, rfl, rfl, rfl, rfl, rfl, rfl, rfl, rfl, rfl, rfl, rfl, rfl, rfl, rfl, rfl, rfl, rfl, rfl, rfl, rfl⟩
set_option maxHeartbeats 4000000 in
set_option maxRecDepth 100000 in
theorem mi_c (n0 : ClassId) (n4 : ClassId) (n5 : ClassId) (n6 : ClassId) (n7 : ClassId) (n8 : ClassId) (n9 : ClassId) (n10 : ClassId) (n11 : ClassId) (n12 : ClassId) (n13 : ClassId) (n14 : ClassId) (n15 : ClassId) (n16 : ClassId) (n17 : ClassId) (n18 : ClassId) (n19 : ClassId) (n20 : ClassId) (n21 : ClassId) (n22 : ClassId) (n23 : ClassId) (n24 : ClassId) (n25 : ClassId) (n26 : ClassId) (n27 : ClassId) (n28 : ClassId) (n29 : ClassId) (n30 : ClassId) (n31 : ClassId) (n37 : ClassId) (n48 : ClassId) (n53 : ClassId) (n54 : ClassId) (n56 : ClassId) (n58 : ClassId) (n60 : ClassId) (n63 : ClassId) (n64 : ClassId) (n67 : ClassId) (n68 : ClassId) : ∃ r : Nat → ClassId, n0 = r 0 ∧ n4 = r 4 ∧ n5 = r 5 ∧ n6 = r 6 ∧ n7 = r 7 ∧ n8 = r 8 ∧ n9 = r 9 ∧ n10 = r 10 ∧ n11 = r 11 ∧ n12 = r 12 ∧ n13 = r 13 ∧ n14 = r 14 ∧ n15 = r 15 ∧ n16 = r 16 ∧ n17 = r 17 ∧ n18 = r 18 ∧ n19 = r 19 ∧ n20 = r 20 ∧ n21 = r 21 ∧ n22 = r 22 ∧ n23 = r 23 ∧ n24 = r 24 ∧ n25 = r 25 ∧ n26 = r 26 ∧ n27 = r 27 ∧ n28 = r 28 ∧ n29 = r 29 ∧ n30 = r 30 ∧ n31 = r 31 ∧ n37 = r 37 ∧ n48 = r 48 ∧ n53 = r 53 ∧ n54 = r 54 ∧ n56 = r 56 ∧ n58 = r 58 ∧ n60 = r 60 ∧ n63 = r 63 ∧ n64 = r 64 ∧ n67 = r 67 ∧ n68 = r 68 := ⟨(va_up (va_up (va_up (va_up (va_up (va_up (va_up (va_up (va_up (va_up (va_up (va_up (va_up (va_up (va_up (va_up (va_up (va_up (va_up (va_up (va_up (va_up (va_up (va_up (va_up (va_up (va_up (va_up (va_up (va_up (va_up (va_up (va_up (va_up (va_up (va_up (va_up (va_up (va_up (va_up (fun _ => n0) 0 n0) 4 n4) 5 n5) 6 n6) 7 n7) 8 n8) 9 n9) 10 n10) 11 n11) 12 n12) 13 n13) 14 n14) 15 n15) 16 n16) 17 n17) 18 n18) 19 n19) 20 n20) 21 n21) 22 n22) 23 n23) 24 n24) 25 n25) 26 n26) 27 n27) 28 n28) 29 n29) 30 n30) 31 n31) 37 n37) 48 n48) 53 n53) 54 n54) 56 n56) 58 n58) 60 n60) 63 n63) 64 n64) 67 n67) 68 n68), rfl, rfl, rfl, rfl, rfl, rfl, rfl, rfl, rfl, rfl, rfl, rfl, rfl, rfl, rfl, rfl, rfl, rfl, rfl, rfl, rfl, rfl, rfl, rfl, rfl, rfl, rfl, rfl, rfl, rfl, rfl, rfl, rfl, rfl, rfl, rfl, rfl, rfl, rfl, rfl⟩
set_option maxHeartbeats 4000000 in
set_option maxRecDepth 100000 in
theorem c_Mo_init (l : Launch) (dC : Nat → ClassId) (dI : Nat → Nat → Nat) (h0 : Nat) (sz : Nat) (nf : Nat) {vi : Nat → Int32} {vj : Nat → Int64} {va : Nat → Nat → Int32} {vb : Nat → Nat → Int64} (hf : f_Mo_init_335 nf (va_up (fun _ => 0) 2 (-1)) (fun _ => 0) (fun _ _ => 0) (fun _ _ => 0) = some (vi, vj, va, vb)) : Met l y_Mo_init (wd y_Mo_init b_Mo_init 3 none) ({ frames := 5, cells := 40, slots := 23713, locals := 117 }) (MU dC dI (mcO h0) [] sz [.ref h0]) (MV none (fun t => ∃ (r : Nat → Nat) (cA : Nat → ClassId), va_P (dC, dI) classes (moW h0 r cA vi vj va vb) t.heap ∧ va_K (dC, dI) classes (moT cA) t ∧ va_D (va_A (mcO h0) sz) (moW h0 r cA vi vj va vb)) (va_A (mcO h0) sz)) 40 23713 (va_A (mcO h0) sz) :=
  met_M (plainFor_of_name (by decide)) (Nat.le_of_ble_eq_true rfl) (fun p e R s m args below meth c ls hRc hRs hsz hin C0 hST hK hP hD hl => by
    obtain ⟨hx, hb, hr, hml, hown, hts, hlocks, hRf, hRl⟩ := id C0
    subst hsz
    have hA : ∀ q : Nat, s.heap.size ≤ q → va_A (mcO h0) s.heap.size q := fun q h => Or.inr h
    have hS : va_S (va_A (mcO h0) s.heap.size) s.heap s.heap [] := va_S.rf
    have hP : va_P (dC, dI) classes ((h0, .inr (10, mcV mv0)) :: []) s.heap := hP
    have hD : va_D (va_A (mcO h0) s.heap.size) ((h0, .inr (10, mcV mv0)) :: []) := hD
    refine lv_aload_n hx hb d_Mo_init_0 rfl (lv_at hl 0 rfl) ?_
    refine W.objInit hx hb hown (hts (.methodLink "ZoneFilesModel" 1 objectInit) m_6_74) (hts (.instanceMethod objectInit) m_1_29) (hts (.code objectInit ⟨#[0xb1]⟩ 1 none) m_1_30) rfl (by rw [hml]; exact hl.1) rfl d_Mo_init_1 (Nat.le_trans (Nat.le_of_ble_eq_true rfl) hRf) (Nat.le_trans (Nat.le_of_ble_eq_true rfl) hRl) ?_
    refine W.eq (g2 := F0 m 4 ls []) rfl ?_
    have hl : lv_has ls 3 [(0, .ref h0)] := hl
    refine mi_0 hx hb hts hown (hin rfl) hl hK hP hD hS hA (by omega) (by omega) (fun q0 q4 q5 q6 q7 q8 n0 n4 n5 n6 n7 n8 H locs hK hP hD hS => ?_)
    refine mi_1 hx hb hts hown (hin rfl) hl hK hP hD hS hA (by omega) (by omega) (fun q9 q10 q11 q12 q13 q14 q15 n9 n10 n11 n12 n13 n14 n15 H locs hK hP hD hS => ?_)
    refine mi_2 hx hb hts hown (hin rfl) hl hK hP hD hS hA (by omega) (by omega) (fun q16 q17 q18 q19 q20 q21 q22 n16 n17 n18 n19 n20 n21 n22 H locs hK hP hD hS => ?_)
    refine mi_3 hx hb hts hown (hin rfl) hl hK hP hD hS hA (by omega) (by omega) (fun q23 q24 q25 q26 q27 q28 q29 n23 n24 n25 n26 n27 n28 n29 H locs hK hP hD hS => ?_)
    refine mi_4 hx hb hts hown (hin rfl) hl hK hP hD hS hA (by omega) (by omega) (fun q30 q31 q37 q48 q53 q54 q56 n30 n31 n37 n48 n53 n54 n56 H locs hK hP hD hS => ?_)
    refine mi_5 hx hb hts hown (hin rfl) hl hK hP hD hS hA (by omega) (by omega) (fun q58 q60 q63 q64 q67 q68 n58 n60 n63 n64 n67 n68 H locs hK hP hD hS => ?_)
    obtain ⟨r, e0, e4, e5, e6, e7, e8, e9, e10, e11, e12, e13, e14, e15, e16, e17, e18, e19, e20, e21, e22, e23, e24, e25, e26, e27, e28, e29, e30, e31, e37, e48, e53, e54, e56, e58, e60, e63, e64, e67, e68⟩ := mi_r q0 q4 q5 q6 q7 q8 q9 q10 q11 q12 q13 q14 q15 q16 q17 q18 q19 q20 q21 q22 q23 q24 q25 q26 q27 q28 q29 q30 q31 q37 q48 q53 q54 q56 q58 q60 q63 q64 q67 q68
    obtain ⟨cA, f0, f4, f5, f6, f7, f8, f9, f10, f11, f12, f13, f14, f15, f16, f17, f18, f19, f20, f21, f22, f23, f24, f25, f26, f27, f28, f29, f30, f31, f37, f48, f53, f54, f56, f58, f60, f63, f64, f67, f68⟩ := mi_c n0 n4 n5 n6 n7 n8 n9 n10 n11 n12 n13 n14 n15 n16 n17 n18 n19 n20 n21 n22 n23 n24 n25 n26 n27 n28 n29 n30 n31 n37 n48 n53 n54 n56 n58 n60 n63 n64 n67 n68
    subst e0 e4 e5 e6 e7 e8 e9 e10 e11 e12 e13 e14 e15 e16 e17 e18 e19 e20 e21 e22 e23 e24 e25 e26 e27 e28 e29 e30 e31 e37 e48 e53 e54 e56 e58 e60 e63 e64 e67 e68
    subst f0 f4 f5 f6 f7 f8 f9 f10 f11 f12 f13 f14 f15 f16 f17 f18 f19 f20 f21 f22 f23 f24 f25 f26 f27 f28 f29 f30 f31 f37 f48 f53 f54 f56 f58 f60 f63 f64 f67 f68
    rw [mi_eq] at hP hD
    rw [mi_ty] at hK
    have ec : 0 + 1 + 1 + 1 + 1 + 1 + 1 + 1 + 1 + 1 + 1 + 1 + 1 + 1 + 1 + 1 + 1 + 1 + 1 + 1 + 1 + 1 + 1 + 1 + 1 + 1 + 1 + 1 + 1 + 1 + 1 + 1 + 1 + 1 + 1 + 1 + 1 + 1 + 1 + 1 + 1 = R.cells := hRc.symm
    have es : 0 + 6000 + 5 + 5 + 5 + 5 + 5 + 5 + 5 + 5 + 1000 + 1000 + 200 + 200 + 200 + 1000 + 200 + 200 + 200 + 200 + 640 + 5 + 10 + 10 + 100 + 10 + 10 + 10 + 10 + 10 + 6 + 10 + 10 + 64 + 6000 + 6000 + 128 + 60 + 60 + 60 + 60 = R.slots := hRs.symm
    rw [ec, es]
    exact k_Mo_init_335 C0 hST hA hK (Nat.le_refl _) (Nat.le_refl _) (fun pc ls H locs hd hP hD hS => by
      rw [← hRc, ← hRs]
      exact W.vret hx hb hr (fun t ht hW => ⟨⟨rfl, ⟨r, cA, by rw [ht]; exact hP, va_K.moved hW.alike hK, hD⟩⟩, hS.F ht⟩) hS.2.2 hd) hf hP hD hS hl)
