theorem m_1_32 : Cond.instantiable "ZoneFiles$Bytes" 2 ∈ T0 := tb_1 32 rfl rfl
theorem m_1_34 : Cond.instanceMethod ⟨"ZoneFiles$Bytes", "<init>", "(I)V"⟩ ∈ T0 := tb_1 34 rfl rfl
theorem m_1_35 : Cond.code ⟨"ZoneFiles$Bytes", "<init>", "(I)V"⟩ prog_2_method_1_code 2 none ∈ T0 := tb_1 35 rfl rfl
theorem m_1_36 : Cond.methodLink "ZoneFiles$Bytes" 1 ⟨"java/lang/Object", "<init>", "()V"⟩ ∈ T0 := tb_1 36 rfl rfl
theorem m_1_57 : Cond.methodLink "ZoneFiles$Zone" 3 ⟨"java/lang/Object", "<init>", "()V"⟩ ∈ T0 := tb_1 57 rfl rfl
theorem m_1_58 : Cond.classLink "ZoneFiles$Zone" 34 "ZoneFiles$Bytes" ∈ T0 := tb_1 58 rfl rfl
theorem m_1_59 : Cond.methodLink "ZoneFiles$Zone" 36 ⟨"ZoneFiles$Bytes", "<init>", "(I)V"⟩ ∈ T0 := tb_1 59 rfl rfl
theorem m_1_60 : Cond.classLink "ZoneFiles$Zone" 49 "ZoneFiles$Rule" ∈ T0 := tb_1 60 rfl rfl
theorem m_1_61 : Cond.instantiable "ZoneFiles$Rule" 12 ∈ T0 := tb_1 61 rfl rfl
theorem m_1_62 : Cond.methodLink "ZoneFiles$Zone" 51 ⟨"ZoneFiles$Rule", "<init>", "()V"⟩ ∈ T0 := tb_1 62 rfl rfl
theorem m_1_63 : Cond.instanceMethod ⟨"ZoneFiles$Rule", "<init>", "()V"⟩ ∈ T0 := tb_1 63 rfl rfl
theorem m_1_64 : Cond.code ⟨"ZoneFiles$Rule", "<init>", "()V"⟩ prog_9_method_1_code 1 none ∈ T0 := tb_1 64 rfl rfl
theorem m_1_65 : Cond.methodLink "ZoneFiles$Rule" 3 ⟨"java/lang/Object", "<init>", "()V"⟩ ∈ T0 := tb_1 65 rfl rfl
theorem m_1_66 : Cond.classLink "ZoneFiles$Rule" 9 "ZoneFiles$Bytes" ∈ T0 := tb_1 66 rfl rfl
theorem m_1_67 : Cond.methodLink "ZoneFiles$Rule" 11 ⟨"ZoneFiles$Bytes", "<init>", "(I)V"⟩ ∈ T0 := tb_1 67 rfl rfl
theorem m_1_68 : Cond.classLink "ZoneFiles$Rule" 20 "ZoneFiles$Edge" ∈ T0 := tb_1 68 rfl rfl
theorem m_1_69 : Cond.instantiable "ZoneFiles$Edge" 6 ∈ T0 := tb_1 69 rfl rfl
theorem m_1_71 : Cond.instanceMethod ⟨"ZoneFiles$Edge", "<init>", "()V"⟩ ∈ T0 := tb_1 71 rfl rfl
theorem m_1_72 : Cond.code ⟨"ZoneFiles$Edge", "<init>", "()V"⟩ prog_4_method_1_code 1 none ∈ T0 := tb_1 72 rfl rfl
theorem m_1_73 : Cond.methodLink "ZoneFiles$Edge" 3 ⟨"java/lang/Object", "<init>", "()V"⟩ ∈ T0 := tb_1 73 rfl rfl
theorem m_1_100 : Cond.arrayClass .int ∈ T0 := tb_1 100 rfl rfl
theorem m_1_222 : Cond.fieldLink "ZoneFiles$Zone" 46 "ZoneFiles$Zone" "leapCorrections" "[I" ∈ T0 := tb_1 222 rfl rfl
theorem m_2_95 : Cond.methodLink "ZoneFiles$LeapTable" 3 ⟨"java/lang/Object", "<init>", "()V"⟩ ∈ T0 := tb_2 95 rfl rfl
abbrev b_By_init : ByteArray := prog_2_method_1_code
def y_By_init : MethodName := ⟨"ZoneFiles$Bytes", "<init>", "(I)V"⟩
theorem d_By_init_0 : decode b_By_init 0 = .ok (.aload_n 0, 1) := by decide +kernel
theorem d_By_init_1 : decode b_By_init 1 = .ok (.invokespecial 1, 3) := by decide +kernel
theorem d_By_init_4 : decode b_By_init 4 = .ok (.aload_n 0, 1) := by decide +kernel
theorem d_By_init_5 : decode b_By_init 5 = .ok (.iload_n 1, 1) := by decide +kernel
theorem d_By_init_6 : decode b_By_init 6 = .ok (.iconst 1, 1) := by decide +kernel
theorem d_By_init_7 : decode b_By_init 7 = .ok (.if_icmp .ge 7, 3) := by decide +kernel
theorem d_By_init_10 : decode b_By_init 10 = .ok (.iconst 1, 1) := by decide +kernel
theorem d_By_init_11 : decode b_By_init 11 = .ok (.goto 4, 3) := by decide +kernel
theorem d_By_init_14 : decode b_By_init 14 = .ok (.iload_n 1, 1) := by decide +kernel
theorem d_By_init_15 : decode b_By_init 15 = .ok (.newarray .byte, 2) := by decide +kernel
theorem d_By_init_17 : decode b_By_init 17 = .ok (.putfield 7, 3) := by decide +kernel
theorem d_By_init_20 : decode b_By_init 20 = .ok (.aload_n 0, 1) := by decide +kernel
theorem d_By_init_21 : decode b_By_init 21 = .ok (.iconst 0, 1) := by decide +kernel
theorem d_By_init_22 : decode b_By_init 22 = .ok (.putfield 13, 3) := by decide +kernel
theorem d_By_init_25 : decode b_By_init 25 = .ok (.return_, 1) := by decide +kernel
abbrev b_Edge_init : ByteArray := prog_4_method_1_code
def y_Edge_init : MethodName := ⟨"ZoneFiles$Edge", "<init>", "()V"⟩
theorem d_Edge_init_0 : decode b_Edge_init 0 = .ok (.aload_n 0, 1) := by decide +kernel
theorem d_Edge_init_1 : decode b_Edge_init 1 = .ok (.invokespecial 3, 3) := by decide +kernel
theorem d_Edge_init_4 : decode b_Edge_init 4 = .ok (.return_, 1) := by decide +kernel
abbrev b_Rule_init : ByteArray := prog_9_method_1_code
def y_Rule_init : MethodName := ⟨"ZoneFiles$Rule", "<init>", "()V"⟩
theorem d_Rule_init_0 : decode b_Rule_init 0 = .ok (.aload_n 0, 1) := by decide +kernel
theorem d_Rule_init_1 : decode b_Rule_init 1 = .ok (.invokespecial 3, 3) := by decide +kernel
theorem d_Rule_init_4 : decode b_Rule_init 4 = .ok (.aload_n 0, 1) := by decide +kernel
theorem d_Rule_init_5 : decode b_Rule_init 5 = .ok (.new 9, 3) := by decide +kernel
theorem d_Rule_init_8 : decode b_Rule_init 8 = .ok (.dup, 1) := by decide +kernel
theorem d_Rule_init_9 : decode b_Rule_init 9 = .ok (.bipush 32, 2) := by decide +kernel
theorem d_Rule_init_11 : decode b_Rule_init 11 = .ok (.invokespecial 11, 3) := by decide +kernel
theorem d_Rule_init_14 : decode b_Rule_init 14 = .ok (.putfield 14, 3) := by decide +kernel
theorem d_Rule_init_17 : decode b_Rule_init 17 = .ok (.aload_n 0, 1) := by decide +kernel
theorem d_Rule_init_18 : decode b_Rule_init 18 = .ok (.new 20, 3) := by decide +kernel
theorem d_Rule_init_21 : decode b_Rule_init 21 = .ok (.dup, 1) := by decide +kernel
theorem d_Rule_init_22 : decode b_Rule_init 22 = .ok (.invokespecial 22, 3) := by decide +kernel
theorem d_Rule_init_25 : decode b_Rule_init 25 = .ok (.putfield 23, 3) := by decide +kernel
theorem d_Rule_init_28 : decode b_Rule_init 28 = .ok (.aload_n 0, 1) := by decide +kernel
theorem d_Rule_init_29 : decode b_Rule_init 29 = .ok (.new 20, 3) := by decide +kernel
theorem d_Rule_init_32 : decode b_Rule_init 32 = .ok (.dup, 1) := by decide +kernel
theorem d_Rule_init_33 : decode b_Rule_init 33 = .ok (.invokespecial 22, 3) := by decide +kernel
theorem d_Rule_init_36 : decode b_Rule_init 36 = .ok (.putfield 27, 3) := by decide +kernel
theorem d_Rule_init_39 : decode b_Rule_init 39 = .ok (.return_, 1) := by decide +kernel
abbrev b_Zone_init : ByteArray := prog_12_method_1_code
def y_Zone_init : MethodName := ⟨"ZoneFiles$Zone", "<init>", "()V"⟩
theorem d_Zone_init_0 : decode b_Zone_init 0 = .ok (.aload_n 0, 1) := by decide +kernel
theorem d_Zone_init_1 : decode b_Zone_init 1 = .ok (.invokespecial 3, 3) := by decide +kernel
theorem d_Zone_init_4 : decode b_Zone_init 4 = .ok (.aload_n 0, 1) := by decide +kernel
theorem d_Zone_init_5 : decode b_Zone_init 5 = .ok (.sipush 200, 3) := by decide +kernel
theorem d_Zone_init_8 : decode b_Zone_init 8 = .ok (.newarray .long, 2) := by decide +kernel
theorem d_Zone_init_10 : decode b_Zone_init 10 = .ok (.putfield 9, 3) := by decide +kernel
theorem d_Zone_init_13 : decode b_Zone_init 13 = .ok (.aload_n 0, 1) := by decide +kernel
theorem d_Zone_init_14 : decode b_Zone_init 14 = .ok (.sipush 200, 3) := by decide +kernel
theorem d_Zone_init_17 : decode b_Zone_init 17 = .ok (.newarray .int, 2) := by decide +kernel
theorem d_Zone_init_19 : decode b_Zone_init 19 = .ok (.putfield 15, 3) := by decide +kernel
theorem d_Zone_init_22 : decode b_Zone_init 22 = .ok (.aload_n 0, 1) := by decide +kernel
theorem d_Zone_init_23 : decode b_Zone_init 23 = .ok (.bipush 40, 2) := by decide +kernel
theorem d_Zone_init_25 : decode b_Zone_init 25 = .ok (.newarray .int, 2) := by decide +kernel
theorem d_Zone_init_27 : decode b_Zone_init 27 = .ok (.putfield 19, 3) := by decide +kernel
theorem d_Zone_init_30 : decode b_Zone_init 30 = .ok (.aload_n 0, 1) := by decide +kernel
theorem d_Zone_init_31 : decode b_Zone_init 31 = .ok (.bipush 40, 2) := by decide +kernel
theorem d_Zone_init_33 : decode b_Zone_init 33 = .ok (.newarray .int, 2) := by decide +kernel
theorem d_Zone_init_35 : decode b_Zone_init 35 = .ok (.putfield 22, 3) := by decide +kernel
theorem d_Zone_init_38 : decode b_Zone_init 38 = .ok (.aload_n 0, 1) := by decide +kernel
theorem d_Zone_init_39 : decode b_Zone_init 39 = .ok (.bipush 40, 2) := by decide +kernel
theorem d_Zone_init_41 : decode b_Zone_init 41 = .ok (.newarray .int, 2) := by decide +kernel
theorem d_Zone_init_43 : decode b_Zone_init 43 = .ok (.putfield 25, 3) := by decide +kernel
theorem d_Zone_init_46 : decode b_Zone_init 46 = .ok (.aload_n 0, 1) := by decide +kernel
theorem d_Zone_init_47 : decode b_Zone_init 47 = .ok (.bipush 40, 2) := by decide +kernel
theorem d_Zone_init_49 : decode b_Zone_init 49 = .ok (.newarray .int, 2) := by decide +kernel
theorem d_Zone_init_51 : decode b_Zone_init 51 = .ok (.putfield 28, 3) := by decide +kernel
theorem d_Zone_init_54 : decode b_Zone_init 54 = .ok (.aload_n 0, 1) := by decide +kernel
theorem d_Zone_init_55 : decode b_Zone_init 55 = .ok (.bipush 40, 2) := by decide +kernel
theorem d_Zone_init_57 : decode b_Zone_init 57 = .ok (.newarray .int, 2) := by decide +kernel
theorem d_Zone_init_59 : decode b_Zone_init 59 = .ok (.putfield 31, 3) := by decide +kernel
theorem d_Zone_init_62 : decode b_Zone_init 62 = .ok (.aload_n 0, 1) := by decide +kernel
theorem d_Zone_init_63 : decode b_Zone_init 63 = .ok (.new 34, 3) := by decide +kernel
theorem d_Zone_init_66 : decode b_Zone_init 66 = .ok (.dup, 1) := by decide +kernel
theorem d_Zone_init_67 : decode b_Zone_init 67 = .ok (.bipush 32, 2) := by decide +kernel
theorem d_Zone_init_69 : decode b_Zone_init 69 = .ok (.invokespecial 36, 3) := by decide +kernel
theorem d_Zone_init_72 : decode b_Zone_init 72 = .ok (.putfield 39, 3) := by decide +kernel
theorem d_Zone_init_75 : decode b_Zone_init 75 = .ok (.aload_n 0, 1) := by decide +kernel
theorem d_Zone_init_76 : decode b_Zone_init 76 = .ok (.bipush 40, 2) := by decide +kernel
theorem d_Zone_init_78 : decode b_Zone_init 78 = .ok (.newarray .long, 2) := by decide +kernel
theorem d_Zone_init_80 : decode b_Zone_init 80 = .ok (.putfield 43, 3) := by decide +kernel
theorem d_Zone_init_83 : decode b_Zone_init 83 = .ok (.aload_n 0, 1) := by decide +kernel
theorem d_Zone_init_84 : decode b_Zone_init 84 = .ok (.bipush 40, 2) := by decide +kernel
theorem d_Zone_init_86 : decode b_Zone_init 86 = .ok (.newarray .int, 2) := by decide +kernel
theorem d_Zone_init_88 : decode b_Zone_init 88 = .ok (.putfield 46, 3) := by decide +kernel
theorem d_Zone_init_91 : decode b_Zone_init 91 = .ok (.aload_n 0, 1) := by decide +kernel
theorem d_Zone_init_92 : decode b_Zone_init 92 = .ok (.new 49, 3) := by decide +kernel
theorem d_Zone_init_95 : decode b_Zone_init 95 = .ok (.dup, 1) := by decide +kernel
theorem d_Zone_init_96 : decode b_Zone_init 96 = .ok (.invokespecial 51, 3) := by decide +kernel
theorem d_Zone_init_99 : decode b_Zone_init 99 = .ok (.putfield 52, 3) := by decide +kernel
theorem d_Zone_init_102 : decode b_Zone_init 102 = .ok (.return_, 1) := by decide +kernel
abbrev b_LT_init : ByteArray := prog_8_method_1_code
def y_LT_init : MethodName := ⟨"ZoneFiles$LeapTable", "<init>", "()V"⟩
theorem d_LT_init_0 : decode b_LT_init 0 = .ok (.aload_n 0, 1) := by decide +kernel
theorem d_LT_init_1 : decode b_LT_init 1 = .ok (.invokespecial 3, 3) := by decide +kernel
theorem d_LT_init_4 : decode b_LT_init 4 = .ok (.aload_n 0, 1) := by decide +kernel
theorem d_LT_init_5 : decode b_LT_init 5 = .ok (.bipush 60, 2) := by decide +kernel
theorem d_LT_init_7 : decode b_LT_init 7 = .ok (.newarray .long, 2) := by decide +kernel
theorem d_LT_init_9 : decode b_LT_init 9 = .ok (.putfield 9, 3) := by decide +kernel
theorem d_LT_init_12 : decode b_LT_init 12 = .ok (.aload_n 0, 1) := by decide +kernel
theorem d_LT_init_13 : decode b_LT_init 13 = .ok (.bipush 60, 2) := by decide +kernel
theorem d_LT_init_15 : decode b_LT_init 15 = .ok (.newarray .long, 2) := by decide +kernel
theorem d_LT_init_17 : decode b_LT_init 17 = .ok (.putfield 15, 3) := by decide +kernel
theorem d_LT_init_20 : decode b_LT_init 20 = .ok (.return_, 1) := by decide +kernel
-- ZoneFiles$Bytes.<init>(I)V
def f_By_init_15 (nf : Nat) (s0 : Int32) (w0_1 : Int32) : Option ((Int32 × Nat × (Nat → Int32)) × Nat × Nat) :=
  if s0 < 0 ∨ 1000000 < s0.toNatClampNeg then none else
  ad 1 s0.toNatClampNeg (some ((0, s0.toNatClampNeg, (fun _ => 0)), 0, 0))
def f_By_init_0 (nf : Nat) (x1 : Int32) (w0_1 : Int32) : Option ((Int32 × Nat × (Nat → Int32)) × Nat × Nat) :=
  if (1 : Int32) ≤ x1 then
  f_By_init_15 nf x1 w0_1
  else
  f_By_init_15 nf 1 w0_1
def f_By_init (nf : Nat) (p0 : Int32) : Option ((Int32 × Nat × (Nat → Int32)) × Nat × Nat) :=
  f_By_init_0 nf p0 0
section
variable {p : Program} {l : Launch} {e : Env} {R : Room} {s : State} {m : MethodId} {args : Array Value} {below : List Frame} {meth : Method} {c : Code} {Q : State → Prop} {dC : Nat → ClassId} {dI : Nat → Nat → Nat} {nf : Nat} {A : Nat → Prop}
variable {h0 : Nat} {v0_1 : Int32} {v1_n : Nat} {v1_a : Nat → Int32}
set_option maxHeartbeats 400000 in
set_option maxRecDepth 100000 in
theorem k_By_init_15 (C0 : Cx p s m meth c args R b_By_init "ZoneFiles$Bytes" 2 none 1 12) (hST : ST A s s.heap) (hA : ∀ q, s.heap.size ≤ q → A q) (hin : meth.name = "<init>") (hE : ∀ (pc : Nat) (ls : Array Slot) {q1 : Nat} {nA1 : ClassId} (H : Heap) (locs : List Loc), decode b_By_init pc = .ok (.return_, 1) → va_P (dC, dI) classes [(h0, .inr (0, [.ref q1, .int v0_1])), (q1, .inl (nA1, v1_n, .inl v1_a))] H → va_D A [(h0, .inr (0, [.ref q1, .int v0_1])), (q1, .inl (nA1, v1_n, .inl v1_a))] → va_S A s.heap H locs → va_K (dC, dI) classes [(nA1, .byte)] s → W p l e R s m args below meth c H locs R.cells R.slots Q (F0 m pc ls [])) {s0 : Int32} {w0_1 : Int32} {kc ks : Nat} (hf : f_By_init_15 nf s0 w0_1 = some ((v0_1, v1_n, v1_a), kc, ks)) {cells slots : Nat} {H : Heap} {locs : List Loc} {ls : Array Slot} (hK : va_K (dC, dI) classes [] s) (hP : va_P (dC, dI) classes [(h0, .inr (0, [.null, .int w0_1]))] H) (hD : va_D A [(h0, .inr (0, [.null, .int w0_1]))]) (hS : va_S A s.heap H locs) (hkc : cells + kc = R.cells) (hks : slots + ks = R.slots) (hl : lv_has ls 2 [(0, .ref h0)]) : W p l e R s m args below meth c H locs cells slots Q (F0 m 15 ls [.int s0, .ref h0]) := by
  obtain ⟨hx, hb, hr, hml, hown, hts, hlocks, hRf, hRl⟩ := id C0
  obtain ⟨tms, hZms, hTms, tmg, hZmg, hTmg, hNW⟩ := id hST
  unfold f_By_init_15 at hf
  obtain ⟨c_4, hf⟩ := it_n hf
  obtain ⟨kc, ks, hf, ekc, eks⟩ := oa hf
  have hz1 := na_byte c_4
  have hz2 : ∀ cA : ClassId, vp_cell cA (s0.toNatClampNeg, .inl (fun _ => 0)) = arrV cA s0.toNatClampNeg (fun _ => defaultValue .byte) := fun cA => rfl
  have hz3 : ¬ s0 < 0 := fun z => c_4 (Or.inl z)
  refine va_newa (atype := .byte) (ty := .byte) (N' := s0.toNatClampNeg) (a0 := (s0.toNatClampNeg, .inl (fun _ => 0))) hx hb (hts (.arrayClass .byte) m_1_50) rfl hK hP hD hS hA hz2 hz3 rfl hz1 (cb hkc ekc) (cb hks eks) d_By_init_15 (fun qn_2 cn_3 H hK hP hD hS => ?_)
  have hP : va_P (dC, dI) classes [(h0, .inr (0, [.null, .int w0_1])), (qn_2, .inl (cn_3, s0.toNatClampNeg, .inl (fun _ => 0)))] H := hP
  have hD : va_D A [(h0, .inr (0, [.null, .int w0_1])), (qn_2, .inl (cn_3, s0.toNatClampNeg, .inl (fun _ => 0)))] := hD
  have hK : va_K (dC, dI) classes [(cn_3, .byte)] s := hK
  have hkc := ck hkc ekc
  have hks := ck hks eks
  generalize cells + 1 = cells at hkc ⊢
  generalize slots + s0.toNatClampNeg = slots at hks ⊢
  refine va_put (D := (dC, dI)) (ci := 0) (v := .ref qn_2) (ty := .array (.byte)) (C := RBytes) (T := TBytes) (N := 2) hx hb hts in_Bytes tyBytes ty_Bytes nm_Bytes hown hK hP hD hS 0 rfl rfl 0 (by decide) (hts (.fieldLink "ZoneFiles$Bytes" 7 "ZoneFiles$Bytes" "row" "[B") m_1_37) (fun _ h9 => h9) rfl (by decide +kernel) rfl rfl (Nat.le_of_ble_eq_true rfl) d_By_init_17 (fun H locs hP hD hS => ?_)
  have hP : va_P (dC, dI) classes [(h0, .inr (0, [.ref qn_2, .int w0_1])), (qn_2, .inl (cn_3, s0.toNatClampNeg, .inl (fun _ => 0)))] H := hP
  have hD : va_D A [(h0, .inr (0, [.ref qn_2, .int w0_1])), (qn_2, .inl (cn_3, s0.toNatClampNeg, .inl (fun _ => 0)))] := hD
  refine lv_aload_n hx hb d_By_init_20 rfl (lv_at hl 0 rfl) ?_
  refine lv_iconst (v := 0) hx hb d_By_init_21 (by decide) ?_
  refine va_put (D := (dC, dI)) (ci := 0) (v := .int 0) (ty := .int) (C := RBytes) (T := TBytes) (N := 2) hx hb hts in_Bytes tyBytes ty_Bytes nm_Bytes hown hK hP hD hS 0 rfl rfl 1 (by decide) (hts (.fieldLink "ZoneFiles$Bytes" 13 "ZoneFiles$Bytes" "size" "I") m_1_38) (fun _ h9 => h9) rfl (by decide +kernel) rfl rfl (Nat.le_of_ble_eq_true rfl) d_By_init_22 (fun H locs hP hD hS => ?_)
  have hP : va_P (dC, dI) classes [(h0, .inr (0, [.ref qn_2, .int 0])), (qn_2, .inl (cn_3, s0.toNatClampNeg, .inl (fun _ => 0)))] H := hP
  have hD : va_D A [(h0, .inr (0, [.ref qn_2, .int 0])), (qn_2, .inl (cn_3, s0.toNatClampNeg, .inl (fun _ => 0)))] := hD
  cases rs hf
  have hkc : cells = R.cells := hkc
  have hks : slots = R.slots := hks
  subst hkc; subst hks
  exact hE _ _ _ _ d_By_init_25 hP hD hS hK
set_option maxHeartbeats 400000 in
set_option maxRecDepth 100000 in
theorem k_By_init_0 (C0 : Cx p s m meth c args R b_By_init "ZoneFiles$Bytes" 2 none 1 12) (hST : ST A s s.heap) (hA : ∀ q, s.heap.size ≤ q → A q) (hin : meth.name = "<init>") (hE : ∀ (pc : Nat) (ls : Array Slot) {q1 : Nat} {nA1 : ClassId} (H : Heap) (locs : List Loc), decode b_By_init pc = .ok (.return_, 1) → va_P (dC, dI) classes [(h0, .inr (0, [.ref q1, .int v0_1])), (q1, .inl (nA1, v1_n, .inl v1_a))] H → va_D A [(h0, .inr (0, [.ref q1, .int v0_1])), (q1, .inl (nA1, v1_n, .inl v1_a))] → va_S A s.heap H locs → va_K (dC, dI) classes [(nA1, .byte)] s → W p l e R s m args below meth c H locs R.cells R.slots Q (F0 m pc ls [])) {x1 : Int32} {w0_1 : Int32} {kc ks : Nat} (hf : f_By_init_0 nf x1 w0_1 = some ((v0_1, v1_n, v1_a), kc, ks)) {cells slots : Nat} {H : Heap} {locs : List Loc} {ls : Array Slot} (hK : va_K (dC, dI) classes [] s) (hP : va_P (dC, dI) classes [(h0, .inr (0, [.null, .int w0_1]))] H) (hD : va_D A [(h0, .inr (0, [.null, .int w0_1]))]) (hS : va_S A s.heap H locs) (hkc : cells + kc = R.cells) (hks : slots + ks = R.slots) (hl : lv_has ls 2 [(0, .ref h0), (1, .int x1)]) : W p l e R s m args below meth c H locs cells slots Q (F0 m 0 ls []) := by
  obtain ⟨hx, hb, hr, hml, hown, hts, hlocks, hRf, hRl⟩ := id C0
  obtain ⟨tms, hZms, hTms, tmg, hZmg, hTmg, hNW⟩ := id hST
  unfold f_By_init_0 at hf
  refine lv_aload_n hx hb d_By_init_0 rfl (lv_at hl 0 rfl) ?_
  refine W.objInit hx hb hown (hts (.methodLink "ZoneFiles$Bytes" 1 objectInit) m_1_36) (hts (.instanceMethod objectInit) m_1_29) (hts (.code objectInit ⟨#[0xb1]⟩ 1 none) m_1_30) rfl (by rw [hml]; exact hl.1) rfl d_By_init_1 (Nat.le_trans (Nat.le_of_ble_eq_true rfl) hRf) (Nat.le_trans (Nat.le_of_ble_eq_true rfl) hRl) ?_
  refine W.eq (g2 := F0 m 4 ls []) rfl ?_
  refine lv_aload_n hx hb d_By_init_4 rfl (lv_at hl 0 rfl) ?_
  refine lv_iload_n hx hb d_By_init_5 rfl (lv_at hl 1 rfl) ?_
  refine lv_iconst (v := 1) hx hb d_By_init_6 (by decide) ?_
  refine lv_icmp_ge (tgt := 14) hx hb d_By_init_7 (by decide) (fun c_1 => ?_) (fun c_1 => ?_)
  · have hf := it_t c_1 hf
    refine lv_iload_n hx hb d_By_init_14 rfl (lv_at hl 1 rfl) ?_
    exact k_By_init_15 C0 hST hA hin hE hf hK hP hD hS hkc hks (lv_sub hl [0] rfl)
  · have hf := it_f c_1 hf
    refine lv_iconst (v := 1) hx hb d_By_init_10 (by decide) ?_
    refine lv_goto (tgt := 15) hx hb d_By_init_11 (by decide) ?_
    exact k_By_init_15 C0 hST hA hin hE hf hK hP hD hS hkc hks (lv_sub hl [0] rfl)
end
set_option maxHeartbeats 400000 in
set_option maxRecDepth 100000 in
theorem c_By_init (l : Launch) (dC : Nat → ClassId) (dI : Nat → Nat → Nat) (h0 : Nat) (sz : Nat) (nf : Nat) (p0 : Int32) {v0_1 : Int32} {v1_n : Nat} {v1_a : Nat → Int32} {kc ks : Nat} (hf : f_By_init nf p0 = some ((v0_1, v1_n, v1_a), kc, ks)) : Met l y_By_init (wd y_By_init b_By_init 2 none) ({ frames := 1, cells := kc, slots := ks, locals := 12 }) (MU dC dI [(h0, .inr (0, [.null, .int 0]))] [] sz [.ref h0, .int p0]) (MV none (fun t => ∃ (q1 : Nat) (nA1 : ClassId), va_P (dC, dI) classes [(h0, .inr (0, [.ref q1, .int v0_1])), (q1, .inl (nA1, v1_n, .inl v1_a))] t.heap ∧ va_K (dC, dI) classes [(nA1, .byte)] t ∧ va_D (va_A [(h0, .inr (0, [.null, .int 0]))] sz) [(h0, .inr (0, [.ref q1, .int v0_1])), (q1, .inl (nA1, v1_n, .inl v1_a))]) (va_A [(h0, .inr (0, [.null, .int 0]))] sz)) kc ks (va_A [(h0, .inr (0, [.null, .int 0]))] sz) :=
  met_M (plainFor_of_name (by decide)) (Nat.le_of_ble_eq_true rfl) (fun p e R s m args below meth c ls hRc hRs hsz hin C0 hST hK hP hD hl => by
    obtain ⟨hx, hb, hr, hml, hown, hts, hlocks, hRf, hRl⟩ := id C0
    subst hRc; subst hRs
    subst hsz
    have hA : ∀ q : Nat, s.heap.size ≤ q → va_A [(h0, .inr (0, [.null, .int 0]))] s.heap.size q := fun q h => Or.inr h
    have hS : va_S (va_A [(h0, .inr (0, [.null, .int 0]))] s.heap.size) s.heap s.heap [] := va_S.rf
    have hkc := Nat.zero_add R.cells
    have hks := Nat.zero_add R.slots
    unfold f_By_init at hf
    exact k_By_init_0 C0 hST hA (hin rfl) (fun pc ls {q1} {nA1} H locs hd hP hD hS hK => W.vret hx hb hr (fun t ht hW => ⟨⟨rfl, ⟨q1, nA1, by rw [ht]; exact hP, va_K.moved hW.alike hK, hD⟩⟩, hS.F ht⟩) hS.2.2 hd) hf hK hP hD hS hkc hks (lv_sub hl [0, 1] rfl))
-- ZoneFiles$Edge.<init>()V
def f_Edge_init_0 (nf : Nat) : Option (Unit) :=
  some ()
def f_Edge_init (nf : Nat) : Option (Unit) :=
  f_Edge_init_0 nf
section
variable {p : Program} {l : Launch} {e : Env} {R : Room} {s : State} {m : MethodId} {args : Array Value} {below : List Frame} {meth : Method} {c : Code} {Q : State → Prop} {dC : Nat → ClassId} {dI : Nat → Nat → Nat} {nf : Nat} {A : Nat → Prop}
variable {h0 : Nat}
set_option maxHeartbeats 400000 in
set_option maxRecDepth 100000 in
theorem k_Edge_init_0 (C0 : Cx p s m meth c args R b_Edge_init "ZoneFiles$Edge" 1 none 1 12) (hST : ST A s s.heap) (hA : ∀ q, s.heap.size ≤ q → A q) (hin : meth.name = "<init>") (hE : ∀ (pc : Nat) (ls : Array Slot) (H : Heap) (locs : List Loc), decode b_Edge_init pc = .ok (.return_, 1) → va_P (dC, dI) classes [] H → va_D A [] → va_S A s.heap H locs → va_K (dC, dI) classes [] s → W p l e R s m args below meth c H locs 0 0 Q (F0 m pc ls [])) (hf : f_Edge_init_0 nf = some ()) {H : Heap} {locs : List Loc} {ls : Array Slot} (hK : va_K (dC, dI) classes [] s) (hP : va_P (dC, dI) classes [] H) (hD : va_D A []) (hS : va_S A s.heap H locs) (hl : lv_has ls 1 [(0, .ref h0)]) : W p l e R s m args below meth c H locs 0 0 Q (F0 m 0 ls []) := by
  obtain ⟨hx, hb, hr, hml, hown, hts, hlocks, hRf, hRl⟩ := id C0
  obtain ⟨tms, hZms, hTms, tmg, hZmg, hTmg, hNW⟩ := id hST
  unfold f_Edge_init_0 at hf
  refine lv_aload_n hx hb d_Edge_init_0 rfl (lv_at hl 0 rfl) ?_
  refine W.objInit hx hb hown (hts (.methodLink "ZoneFiles$Edge" 3 objectInit) m_1_73) (hts (.instanceMethod objectInit) m_1_29) (hts (.code objectInit ⟨#[0xb1]⟩ 1 none) m_1_30) rfl (by rw [hml]; exact hl.1) rfl d_Edge_init_1 (Nat.le_trans (Nat.le_of_ble_eq_true rfl) hRf) (Nat.le_trans (Nat.le_of_ble_eq_true rfl) hRl) ?_
  refine W.eq (g2 := F0 m 4 ls []) rfl ?_
  cases rs hf
  exact hE _ _ _ _ d_Edge_init_4 hP hD hS hK
end
set_option maxHeartbeats 400000 in
set_option maxRecDepth 100000 in
theorem c_Edge_init (l : Launch) (dC : Nat → ClassId) (dI : Nat → Nat → Nat) (h0 : Nat) (sz : Nat) (nf : Nat) (hf : f_Edge_init nf = some ()) : Met l y_Edge_init (wd y_Edge_init b_Edge_init 1 none) ({ frames := 1, cells := 0, slots := 0, locals := 12 }) (MU dC dI [] [] sz [.ref h0]) (MV none (fun t => va_P (dC, dI) classes [] t.heap ∧ va_K (dC, dI) classes [] t ∧ va_D (va_A [] sz) []) (va_A [] sz)) 0 0 (va_A [] sz) :=
  met_M (plainFor_of_name (by decide)) (Nat.le_of_ble_eq_true rfl) (fun p e R s m args below meth c ls hRc hRs hsz hin C0 hST hK hP hD hl => by
    obtain ⟨hx, hb, hr, hml, hown, hts, hlocks, hRf, hRl⟩ := id C0
    subst hsz
    have hA : ∀ q : Nat, s.heap.size ≤ q → va_A [] s.heap.size q := fun q h => Or.inr h
    have hS : va_S (va_A [] s.heap.size) s.heap s.heap [] := va_S.rf
    unfold f_Edge_init at hf
    exact k_Edge_init_0 C0 hST hA (hin rfl) (fun pc ls H locs hd hP hD hS hK => W.vret hx hb hr (fun t ht hW => ⟨⟨rfl, ⟨by rw [ht]; exact hP, va_K.moved hW.alike hK, hD⟩⟩, hS.F ht⟩) hS.2.2 hd) hf hK hP hD hS (lv_sub hl [0] rfl))
-- ZoneFiles$Rule.<init>()V
def f_Rule_init_0 (nf : Nat) : Option ((Int32 × Nat × (Nat → Int32) × Int32 × Int32 × Int32 × Int32 × Int32 × Int32 × Int32 × Int32 × Int32 × Int32 × Int32 × Int32) × Nat × Nat) :=
  ad 1 2 ((f_By_init nf 32).bind fun ((z_2, z_3, z_4), kc_7, ks_8) =>
  ad kc_7 ks_8 (ad 1 6 ((f_Edge_init nf).bind fun _ =>
  ad 1 6 ((f_Edge_init nf).bind fun _ =>
  some ((z_2, z_3, z_4, 0, 0, 0, 0, 0, 0, 0, 0, 0, 0, 0, 0), 0, 0)))))
def f_Rule_init (nf : Nat) : Option ((Int32 × Nat × (Nat → Int32) × Int32 × Int32 × Int32 × Int32 × Int32 × Int32 × Int32 × Int32 × Int32 × Int32 × Int32 × Int32) × Nat × Nat) :=
  f_Rule_init_0 nf
section
variable {p : Program} {l : Launch} {e : Env} {R : Room} {s : State} {m : MethodId} {args : Array Value} {below : List Frame} {meth : Method} {c : Code} {Q : State → Prop} {dC : Nat → ClassId} {dI : Nat → Nat → Nat} {nf : Nat} {A : Nat → Prop}
variable {h0 : Nat} {v1_1 : Int32} {v2_n : Nat} {v2_a : Nat → Int32} {v3_0 : Int32} {v3_1 : Int32} {v3_2 : Int32} {v3_3 : Int32} {v3_4 : Int32} {v3_5 : Int32} {v4_0 : Int32} {v4_1 : Int32} {v4_2 : Int32} {v4_3 : Int32} {v4_4 : Int32} {v4_5 : Int32}
set_option maxHeartbeats 400000 in
set_option maxRecDepth 100000 in
theorem k_Rule_init_0 (C0 : Cx p s m meth c args R b_Rule_init "ZoneFiles$Rule" 1 none 2 33) (hST : ST A s s.heap) (hA : ∀ q, s.heap.size ≤ q → A q) (hin : meth.name = "<init>") (hE : ∀ (pc : Nat) (ls : Array Slot) {q1 : Nat} {q2 : Nat} {q3 : Nat} {q4 : Nat} {nA2 : ClassId} (H : Heap) (locs : List Loc), decode b_Rule_init pc = .ok (.return_, 1) → va_P (dC, dI) classes [(h0, .inr (5, [.ref q1, .ref q3, .ref q4, .int 0, .int 0, .int 0, .int 0, .int 0, .int 0, .int 0, .int 0, .int 0])), (q1, .inr (0, [.ref q2, .int v1_1])), (q2, .inl (nA2, v2_n, .inl v2_a)), (q3, .inr (1, [.int v3_0, .int v3_1, .int v3_2, .int v3_3, .int v3_4, .int v3_5])), (q4, .inr (1, [.int v4_0, .int v4_1, .int v4_2, .int v4_3, .int v4_4, .int v4_5]))] H → va_D A [(h0, .inr (5, [.ref q1, .ref q3, .ref q4, .int 0, .int 0, .int 0, .int 0, .int 0, .int 0, .int 0, .int 0, .int 0])), (q1, .inr (0, [.ref q2, .int v1_1])), (q2, .inl (nA2, v2_n, .inl v2_a)), (q3, .inr (1, [.int v3_0, .int v3_1, .int v3_2, .int v3_3, .int v3_4, .int v3_5])), (q4, .inr (1, [.int v4_0, .int v4_1, .int v4_2, .int v4_3, .int v4_4, .int v4_5]))] → va_S A s.heap H locs → va_K (dC, dI) classes [(nA2, .byte)] s → W p l e R s m args below meth c H locs R.cells R.slots Q (F0 m pc ls [])) {kc ks : Nat} (hf : f_Rule_init_0 nf = some ((v1_1, v2_n, v2_a, v3_0, v3_1, v3_2, v3_3, v3_4, v3_5, v4_0, v4_1, v4_2, v4_3, v4_4, v4_5), kc, ks)) {cells slots : Nat} {H : Heap} {locs : List Loc} {ls : Array Slot} (hK : va_K (dC, dI) classes [] s) (hP : va_P (dC, dI) classes [(h0, .inr (5, [.null, .null, .null, .int 0, .int 0, .int 0, .int 0, .int 0, .int 0, .int 0, .int 0, .int 0]))] H) (hD : va_D A [(h0, .inr (5, [.null, .null, .null, .int 0, .int 0, .int 0, .int 0, .int 0, .int 0, .int 0, .int 0, .int 0]))]) (hS : va_S A s.heap H locs) (hkc : cells + kc = R.cells) (hks : slots + ks = R.slots) (hl : lv_has ls 1 [(0, .ref h0)]) : W p l e R s m args below meth c H locs cells slots Q (F0 m 0 ls []) := by
  obtain ⟨hx, hb, hr, hml, hown, hts, hlocks, hRf, hRl⟩ := id C0
  obtain ⟨tms, hZms, hTms, tmg, hZmg, hTmg, hNW⟩ := id hST
  unfold f_Rule_init_0 at hf
  refine lv_aload_n hx hb d_Rule_init_0 rfl (lv_at hl 0 rfl) ?_
  refine W.objInit hx hb hown (hts (.methodLink "ZoneFiles$Rule" 3 objectInit) m_1_65) (hts (.instanceMethod objectInit) m_1_29) (hts (.code objectInit ⟨#[0xb1]⟩ 1 none) m_1_30) rfl (by rw [hml]; exact hl.1) rfl d_Rule_init_1 (Nat.le_trans (Nat.le_of_ble_eq_true rfl) hRf) (Nat.le_trans (Nat.le_of_ble_eq_true rfl) hRl) ?_
  refine W.eq (g2 := F0 m 4 ls []) rfl ?_
  refine lv_aload_n hx hb d_Rule_init_4 rfl (lv_at hl 0 rfl) ?_
  obtain ⟨kc, ks, hf, ekc, eks⟩ := oa hf
  refine va_new (ci := 0) (fs := [.null, .int 0]) (C := RBytes) (T := TBytes) (N := 2) hx hb hts in_Bytes tyBytes ty_Bytes hown (hts (.classLink "ZoneFiles$Rule" 9 "ZoneFiles$Bytes") m_1_66) (hts (.instantiable "ZoneFiles$Bytes" 2) m_1_32) (hts (.initialized "ZoneFiles$Bytes") m_1_2) hK hP hD hS hA rfl (fun j hj => by match j, hj with | 0, _ => exact rfl | 1, _ => exact rfl | n + 2, h => exact absurd h (by omega)) (cb hkc ekc) (cb hks eks) d_Rule_init_5 (fun qn_1 H hP hD hS => ?_)
  have hP : va_P (dC, dI) classes [(h0, .inr (5, [.null, .null, .null, .int 0, .int 0, .int 0, .int 0, .int 0, .int 0, .int 0, .int 0, .int 0])), (qn_1, .inr (0, [.null, .int 0]))] H := hP
  have hD : va_D A [(h0, .inr (5, [.null, .null, .null, .int 0, .int 0, .int 0, .int 0, .int 0, .int 0, .int 0, .int 0, .int 0])), (qn_1, .inr (0, [.null, .int 0]))] := hD
  have hkc := ck hkc ekc
  have hks := ck hks eks
  generalize cells + 1 = cells at hkc ⊢
  generalize slots + 2 = slots at hks ⊢
  refine lv_dup hx hb d_Rule_init_8 rfl ?_
  refine lv_bipush (v := 32) hx hb d_Rule_init_9 (by decide) ?_
  obtain ⟨⟨⟨z_2, z_3, z_4⟩, kc_7, ks_8⟩, hc, hf⟩ := ob hf
  obtain ⟨kc, ks, hf, ekc, eks⟩ := oa hf
  have hPc := hP.sub (ws' := [(qn_1, .inr (0, [.null, .int 0]))]) [1] rfl
  have hDc := hD.sub (ws' := [(qn_1, .inr (0, [.null, .int 0]))]) [1] (by decide) rfl
  have hKc := hK.sub (tys' := []) [] rfl
  have hFc := va_free (wc := [(qn_1, .inr (0, [.null, .int 0]))]) hD hS hA [1] rfl
  refine cl_M (v := none) (st1 := [.ref qn_1, .ref h0]) (va_runI (As := [.int 32]) (rest := [.ref qn_1, .ref h0]) ⟨hx, hb, hml, hown, hts⟩ (c_By_init l dC dI qn_1 H.size nf 32 hc) (cwI 1 hts (gd_of m_1_35) rfl rfl rfl (hts (.initialized "ZoneFiles$Bytes") m_1_2) (hts (.methodLink "ZoneFiles$Rule" 11 ⟨"ZoneFiles$Bytes", "<init>", "(I)V"⟩) m_1_67) (hts (.instanceMethod ⟨"ZoneFiles$Bytes", "<init>", "(I)V"⟩) m_1_34) rfl (by decide +kernel) ⟨Nat.le_trans (Nat.le_of_ble_eq_true rfl) hRf, Nat.le_trans (Nat.le_of_ble_eq_true rfl) hRl⟩) (MU.pre hPc hKc hDc (hST.mu hS hFc)).sta rfl rfl hl.1 rfl (lv_room (Nat.le_of_ble_eq_true rfl)) d_Rule_init_11 ⟨cb hkc ekc, cb hks eks⟩) rfl hS (fun q _ h => hFc q h) hFc (fun t H1 locs ht hvm hB hz1 hk1 hS => ?_)
  obtain ⟨q_5, cq_6, hP1, hK1, hD1⟩ := hB
  rw [ht] at hP1
  have hK1 := va_K.moved hvm.symm hK1
  obtain ⟨hP, hD⟩ := va_join (wr := [(h0, .inr (5, [.null, .null, .null, .int 0, .int 0, .int 0, .int 0, .int 0, .int 0, .int 0, .int 0, .int 0]))]) (w1 := [(qn_1, .inr (0, [.ref q_5, .int z_2])), (q_5, .inl (cq_6, z_3, .inl z_4))]) hP hD [1] [0] rfl rfl (by decide) (by decide) hk1 hFc hP1 hD1
  have hK := (hK.sub (tys' := []) [] rfl).app hK1
  generalize H1 = H at hP hS ⊢
  have hP := hP.sub (ws' := [(h0, .inr (5, [.null, .null, .null, .int 0, .int 0, .int 0, .int 0, .int 0, .int 0, .int 0, .int 0, .int 0])), (qn_1, .inr (0, [.ref q_5, .int z_2])), (q_5, .inl (cq_6, z_3, .inl z_4))]) [0, 1, 2] rfl
  have hD := hD.sub (ws' := [(h0, .inr (5, [.null, .null, .null, .int 0, .int 0, .int 0, .int 0, .int 0, .int 0, .int 0, .int 0, .int 0])), (qn_1, .inr (0, [.ref q_5, .int z_2])), (q_5, .inl (cq_6, z_3, .inl z_4))]) [0, 1, 2] (by decide) rfl
  have hK := hK.sub (tys' := [(cq_6, .byte)]) [0] rfl
  have hkc := ck hkc ekc
  have hks := ck hks eks
  generalize cells + kc_7 = cells at hkc ⊢
  generalize slots + ks_8 = slots at hks ⊢
  refine va_putF (D := (dC, dI)) (ci := 5) (v := .ref qn_1) (ty := .object "ZoneFiles$Bytes") (C := RRule) (T := TRule) (N := 12) hx hb hts in_Rule tyRule ty_Rule nm_Rule hown hK hP hD hS 0 rfl rfl 0 (by decide) (hts (.fieldLink "ZoneFiles$Rule" 14 "ZoneFiles$Rule" "text" "LZoneFiles$Bytes;") m_1_101) (fun _ h9 => h9) rfl hin rfl (by decide +kernel) rfl rfl (Nat.le_of_ble_eq_true rfl) d_Rule_init_14 (fun H locs hP hD hS => ?_)
  have hP : va_P (dC, dI) classes [(h0, .inr (5, [.ref qn_1, .null, .null, .int 0, .int 0, .int 0, .int 0, .int 0, .int 0, .int 0, .int 0, .int 0])), (qn_1, .inr (0, [.ref q_5, .int z_2])), (q_5, .inl (cq_6, z_3, .inl z_4))] H := hP
  have hD : va_D A [(h0, .inr (5, [.ref qn_1, .null, .null, .int 0, .int 0, .int 0, .int 0, .int 0, .int 0, .int 0, .int 0, .int 0])), (qn_1, .inr (0, [.ref q_5, .int z_2])), (q_5, .inl (cq_6, z_3, .inl z_4))] := hD
  refine lv_aload_n hx hb d_Rule_init_17 rfl (lv_at hl 0 rfl) ?_
  obtain ⟨kc, ks, hf, ekc, eks⟩ := oa hf
  refine va_new (ci := 1) (fs := [.int 0, .int 0, .int 0, .int 0, .int 0, .int 0]) (C := REdge) (T := TEdge) (N := 6) hx hb hts in_Edge tyEdge ty_Edge hown (hts (.classLink "ZoneFiles$Rule" 20 "ZoneFiles$Edge") m_1_68) (hts (.instantiable "ZoneFiles$Edge" 6) m_1_69) (hts (.initialized "ZoneFiles$Edge") m_1_5) hK hP hD hS hA rfl (fun j hj => by match j, hj with | 0, _ => exact rfl | 1, _ => exact rfl | 2, _ => exact rfl | 3, _ => exact rfl | 4, _ => exact rfl | 5, _ => exact rfl | n + 6, h => exact absurd h (by omega)) (cb hkc ekc) (cb hks eks) d_Rule_init_18 (fun qn_9 H hP hD hS => ?_)
  have hP : va_P (dC, dI) classes [(h0, .inr (5, [.ref qn_1, .null, .null, .int 0, .int 0, .int 0, .int 0, .int 0, .int 0, .int 0, .int 0, .int 0])), (qn_1, .inr (0, [.ref q_5, .int z_2])), (q_5, .inl (cq_6, z_3, .inl z_4)), (qn_9, .inr (1, [.int 0, .int 0, .int 0, .int 0, .int 0, .int 0]))] H := hP
  have hD : va_D A [(h0, .inr (5, [.ref qn_1, .null, .null, .int 0, .int 0, .int 0, .int 0, .int 0, .int 0, .int 0, .int 0, .int 0])), (qn_1, .inr (0, [.ref q_5, .int z_2])), (q_5, .inl (cq_6, z_3, .inl z_4)), (qn_9, .inr (1, [.int 0, .int 0, .int 0, .int 0, .int 0, .int 0]))] := hD
  have hkc := ck hkc ekc
  have hks := ck hks eks
  generalize cells + 1 = cells at hkc ⊢
  generalize slots + 6 = slots at hks ⊢
  refine lv_dup hx hb d_Rule_init_21 rfl ?_
  obtain ⟨_, hc, hf⟩ := ob hf
  have hPc := hP.sub (ws' := []) [] rfl
  have hDc := hD.sub (ws' := []) [] (by decide) rfl
  have hKc := hK.sub (tys' := []) [] rfl
  have hFc := va_free (wc := []) hD hS hA [] rfl
  refine cl_M (v := none) (st1 := [.ref qn_9, .ref h0]) (va_runIN (As := []) (rest := [.ref qn_9, .ref h0]) ⟨hx, hb, hml, hown, hts⟩ (c_Edge_init l dC dI qn_9 H.size nf hc) ⟨va_cnB 0 hts (gd_of m_1_72) rfl rfl rfl hNW.1 (hts _ m_1_5) (by decide +kernel) ⟨Nat.le_trans (Nat.le_of_ble_eq_true rfl) hRf, Nat.le_trans (Nat.le_of_ble_eq_true rfl) hRl⟩, rfl, hts _ m_1_71⟩ (MU.pre hPc hKc hDc (hST.mu hS hFc)).sta rfl rfl hl.1 rfl (lv_room (Nat.le_of_ble_eq_true rfl)) d_Rule_init_22 ⟨c0 hkc, c0 hks⟩) rfl hS (fun q _ h => hFc q h) hFc (fun t H1 locs ht hvm hB hz1 hk1 hS => ?_)
  obtain ⟨hP1, hK1, hD1⟩ := hB
  rw [ht] at hP1
  have hK1 := va_K.moved hvm.symm hK1
  obtain ⟨hP, hD⟩ := va_join (wr := [(h0, .inr (5, [.ref qn_1, .null, .null, .int 0, .int 0, .int 0, .int 0, .int 0, .int 0, .int 0, .int 0, .int 0])), (qn_1, .inr (0, [.ref q_5, .int z_2])), (q_5, .inl (cq_6, z_3, .inl z_4)), (qn_9, .inr (1, [.int 0, .int 0, .int 0, .int 0, .int 0, .int 0]))]) (w1 := []) hP hD [] [0, 1, 2, 3] rfl rfl (by decide) (by decide) hk1 hFc hP1 hD1
  have hK := (hK.sub (tys' := [(cq_6, .byte)]) [0] rfl).app hK1
  generalize H1 = H at hP hS ⊢
  have hP := hP.sub (ws' := [(h0, .inr (5, [.ref qn_1, .null, .null, .int 0, .int 0, .int 0, .int 0, .int 0, .int 0, .int 0, .int 0, .int 0])), (qn_1, .inr (0, [.ref q_5, .int z_2])), (q_5, .inl (cq_6, z_3, .inl z_4)), (qn_9, .inr (1, [.int 0, .int 0, .int 0, .int 0, .int 0, .int 0]))]) [0, 1, 2, 3] rfl
  have hD := hD.sub (ws' := [(h0, .inr (5, [.ref qn_1, .null, .null, .int 0, .int 0, .int 0, .int 0, .int 0, .int 0, .int 0, .int 0, .int 0])), (qn_1, .inr (0, [.ref q_5, .int z_2])), (q_5, .inl (cq_6, z_3, .inl z_4)), (qn_9, .inr (1, [.int 0, .int 0, .int 0, .int 0, .int 0, .int 0]))]) [0, 1, 2, 3] (by decide) rfl
  have hK := hK.sub (tys' := [(cq_6, .byte)]) [0] rfl
  refine va_putF (D := (dC, dI)) (ci := 5) (v := .ref qn_9) (ty := .object "ZoneFiles$Edge") (C := RRule) (T := TRule) (N := 12) hx hb hts in_Rule tyRule ty_Rule nm_Rule hown hK hP hD hS 0 rfl rfl 1 (by decide) (hts (.fieldLink "ZoneFiles$Rule" 23 "ZoneFiles$Rule" "begin" "LZoneFiles$Edge;") m_1_107) (fun _ h9 => h9) rfl hin rfl (by decide +kernel) rfl rfl (Nat.le_of_ble_eq_true rfl) d_Rule_init_25 (fun H locs hP hD hS => ?_)
  have hP : va_P (dC, dI) classes [(h0, .inr (5, [.ref qn_1, .ref qn_9, .null, .int 0, .int 0, .int 0, .int 0, .int 0, .int 0, .int 0, .int 0, .int 0])), (qn_1, .inr (0, [.ref q_5, .int z_2])), (q_5, .inl (cq_6, z_3, .inl z_4)), (qn_9, .inr (1, [.int 0, .int 0, .int 0, .int 0, .int 0, .int 0]))] H := hP
  have hD : va_D A [(h0, .inr (5, [.ref qn_1, .ref qn_9, .null, .int 0, .int 0, .int 0, .int 0, .int 0, .int 0, .int 0, .int 0, .int 0])), (qn_1, .inr (0, [.ref q_5, .int z_2])), (q_5, .inl (cq_6, z_3, .inl z_4)), (qn_9, .inr (1, [.int 0, .int 0, .int 0, .int 0, .int 0, .int 0]))] := hD
  refine lv_aload_n hx hb d_Rule_init_28 rfl (lv_at hl 0 rfl) ?_
  obtain ⟨kc, ks, hf, ekc, eks⟩ := oa hf
  refine va_new (ci := 1) (fs := [.int 0, .int 0, .int 0, .int 0, .int 0, .int 0]) (C := REdge) (T := TEdge) (N := 6) hx hb hts in_Edge tyEdge ty_Edge hown (hts (.classLink "ZoneFiles$Rule" 20 "ZoneFiles$Edge") m_1_68) (hts (.instantiable "ZoneFiles$Edge" 6) m_1_69) (hts (.initialized "ZoneFiles$Edge") m_1_5) hK hP hD hS hA rfl (fun j hj => by match j, hj with | 0, _ => exact rfl | 1, _ => exact rfl | 2, _ => exact rfl | 3, _ => exact rfl | 4, _ => exact rfl | 5, _ => exact rfl | n + 6, h => exact absurd h (by omega)) (cb hkc ekc) (cb hks eks) d_Rule_init_29 (fun qn_10 H hP hD hS => ?_)
  have hP : va_P (dC, dI) classes [(h0, .inr (5, [.ref qn_1, .ref qn_9, .null, .int 0, .int 0, .int 0, .int 0, .int 0, .int 0, .int 0, .int 0, .int 0])), (qn_1, .inr (0, [.ref q_5, .int z_2])), (q_5, .inl (cq_6, z_3, .inl z_4)), (qn_9, .inr (1, [.int 0, .int 0, .int 0, .int 0, .int 0, .int 0])), (qn_10, .inr (1, [.int 0, .int 0, .int 0, .int 0, .int 0, .int 0]))] H := hP
  have hD : va_D A [(h0, .inr (5, [.ref qn_1, .ref qn_9, .null, .int 0, .int 0, .int 0, .int 0, .int 0, .int 0, .int 0, .int 0, .int 0])), (qn_1, .inr (0, [.ref q_5, .int z_2])), (q_5, .inl (cq_6, z_3, .inl z_4)), (qn_9, .inr (1, [.int 0, .int 0, .int 0, .int 0, .int 0, .int 0])), (qn_10, .inr (1, [.int 0, .int 0, .int 0, .int 0, .int 0, .int 0]))] := hD
  have hkc := ck hkc ekc
  have hks := ck hks eks
  generalize cells + 1 = cells at hkc ⊢
  generalize slots + 6 = slots at hks ⊢
  refine lv_dup hx hb d_Rule_init_32 rfl ?_
  obtain ⟨_, hc, hf⟩ := ob hf
  have hPc := hP.sub (ws' := []) [] rfl
  have hDc := hD.sub (ws' := []) [] (by decide) rfl
  have hKc := hK.sub (tys' := []) [] rfl
  have hFc := va_free (wc := []) hD hS hA [] rfl
  refine cl_M (v := none) (st1 := [.ref qn_10, .ref h0]) (va_runIN (As := []) (rest := [.ref qn_10, .ref h0]) ⟨hx, hb, hml, hown, hts⟩ (c_Edge_init l dC dI qn_10 H.size nf hc) ⟨va_cnB 0 hts (gd_of m_1_72) rfl rfl rfl hNW.1 (hts _ m_1_5) (by decide +kernel) ⟨Nat.le_trans (Nat.le_of_ble_eq_true rfl) hRf, Nat.le_trans (Nat.le_of_ble_eq_true rfl) hRl⟩, rfl, hts _ m_1_71⟩ (MU.pre hPc hKc hDc (hST.mu hS hFc)).sta rfl rfl hl.1 rfl (lv_room (Nat.le_of_ble_eq_true rfl)) d_Rule_init_33 ⟨c0 hkc, c0 hks⟩) rfl hS (fun q _ h => hFc q h) hFc (fun t H1 locs ht hvm hB hz1 hk1 hS => ?_)
  obtain ⟨hP1, hK1, hD1⟩ := hB
  rw [ht] at hP1
  have hK1 := va_K.moved hvm.symm hK1
  obtain ⟨hP, hD⟩ := va_join (wr := [(h0, .inr (5, [.ref qn_1, .ref qn_9, .null, .int 0, .int 0, .int 0, .int 0, .int 0, .int 0, .int 0, .int 0, .int 0])), (qn_1, .inr (0, [.ref q_5, .int z_2])), (q_5, .inl (cq_6, z_3, .inl z_4)), (qn_9, .inr (1, [.int 0, .int 0, .int 0, .int 0, .int 0, .int 0])), (qn_10, .inr (1, [.int 0, .int 0, .int 0, .int 0, .int 0, .int 0]))]) (w1 := []) hP hD [] [0, 1, 2, 3, 4] rfl rfl (by decide) (by decide) hk1 hFc hP1 hD1
  have hK := (hK.sub (tys' := [(cq_6, .byte)]) [0] rfl).app hK1
  generalize H1 = H at hP hS ⊢
  have hP := hP.sub (ws' := [(h0, .inr (5, [.ref qn_1, .ref qn_9, .null, .int 0, .int 0, .int 0, .int 0, .int 0, .int 0, .int 0, .int 0, .int 0])), (qn_1, .inr (0, [.ref q_5, .int z_2])), (q_5, .inl (cq_6, z_3, .inl z_4)), (qn_9, .inr (1, [.int 0, .int 0, .int 0, .int 0, .int 0, .int 0])), (qn_10, .inr (1, [.int 0, .int 0, .int 0, .int 0, .int 0, .int 0]))]) [0, 1, 2, 3, 4] rfl
  have hD := hD.sub (ws' := [(h0, .inr (5, [.ref qn_1, .ref qn_9, .null, .int 0, .int 0, .int 0, .int 0, .int 0, .int 0, .int 0, .int 0, .int 0])), (qn_1, .inr (0, [.ref q_5, .int z_2])), (q_5, .inl (cq_6, z_3, .inl z_4)), (qn_9, .inr (1, [.int 0, .int 0, .int 0, .int 0, .int 0, .int 0])), (qn_10, .inr (1, [.int 0, .int 0, .int 0, .int 0, .int 0, .int 0]))]) [0, 1, 2, 3, 4] (by decide) rfl
  have hK := hK.sub (tys' := [(cq_6, .byte)]) [0] rfl
  refine va_putF (D := (dC, dI)) (ci := 5) (v := .ref qn_10) (ty := .object "ZoneFiles$Edge") (C := RRule) (T := TRule) (N := 12) hx hb hts in_Rule tyRule ty_Rule nm_Rule hown hK hP hD hS 0 rfl rfl 2 (by decide) (hts (.fieldLink "ZoneFiles$Rule" 27 "ZoneFiles$Rule" "end" "LZoneFiles$Edge;") m_1_110) (fun _ h9 => h9) rfl hin rfl (by decide +kernel) rfl rfl (Nat.le_of_ble_eq_true rfl) d_Rule_init_36 (fun H locs hP hD hS => ?_)
  have hP : va_P (dC, dI) classes [(h0, .inr (5, [.ref qn_1, .ref qn_9, .ref qn_10, .int 0, .int 0, .int 0, .int 0, .int 0, .int 0, .int 0, .int 0, .int 0])), (qn_1, .inr (0, [.ref q_5, .int z_2])), (q_5, .inl (cq_6, z_3, .inl z_4)), (qn_9, .inr (1, [.int 0, .int 0, .int 0, .int 0, .int 0, .int 0])), (qn_10, .inr (1, [.int 0, .int 0, .int 0, .int 0, .int 0, .int 0]))] H := hP
  have hD : va_D A [(h0, .inr (5, [.ref qn_1, .ref qn_9, .ref qn_10, .int 0, .int 0, .int 0, .int 0, .int 0, .int 0, .int 0, .int 0, .int 0])), (qn_1, .inr (0, [.ref q_5, .int z_2])), (q_5, .inl (cq_6, z_3, .inl z_4)), (qn_9, .inr (1, [.int 0, .int 0, .int 0, .int 0, .int 0, .int 0])), (qn_10, .inr (1, [.int 0, .int 0, .int 0, .int 0, .int 0, .int 0]))] := hD
  cases rs hf
  have hkc : cells = R.cells := hkc
  have hks : slots = R.slots := hks
  subst hkc; subst hks
  exact hE _ _ _ _ d_Rule_init_39 hP hD hS hK
end
set_option maxHeartbeats 400000 in
set_option maxRecDepth 100000 in
theorem c_Rule_init (l : Launch) (dC : Nat → ClassId) (dI : Nat → Nat → Nat) (h0 : Nat) (sz : Nat) (nf : Nat) {v1_1 : Int32} {v2_n : Nat} {v2_a : Nat → Int32} {v3_0 : Int32} {v3_1 : Int32} {v3_2 : Int32} {v3_3 : Int32} {v3_4 : Int32} {v3_5 : Int32} {v4_0 : Int32} {v4_1 : Int32} {v4_2 : Int32} {v4_3 : Int32} {v4_4 : Int32} {v4_5 : Int32} {kc ks : Nat} (hf : f_Rule_init nf = some ((v1_1, v2_n, v2_a, v3_0, v3_1, v3_2, v3_3, v3_4, v3_5, v4_0, v4_1, v4_2, v4_3, v4_4, v4_5), kc, ks)) : Met l y_Rule_init (wd y_Rule_init b_Rule_init 1 none) ({ frames := 2, cells := kc, slots := ks, locals := 33 }) (MU dC dI [(h0, .inr (5, [.null, .null, .null, .int 0, .int 0, .int 0, .int 0, .int 0, .int 0, .int 0, .int 0, .int 0]))] [] sz [.ref h0]) (MV none (fun t => ∃ (q1 : Nat) (q2 : Nat) (q3 : Nat) (q4 : Nat) (nA2 : ClassId), va_P (dC, dI) classes [(h0, .inr (5, [.ref q1, .ref q3, .ref q4, .int 0, .int 0, .int 0, .int 0, .int 0, .int 0, .int 0, .int 0, .int 0])), (q1, .inr (0, [.ref q2, .int v1_1])), (q2, .inl (nA2, v2_n, .inl v2_a)), (q3, .inr (1, [.int v3_0, .int v3_1, .int v3_2, .int v3_3, .int v3_4, .int v3_5])), (q4, .inr (1, [.int v4_0, .int v4_1, .int v4_2, .int v4_3, .int v4_4, .int v4_5]))] t.heap ∧ va_K (dC, dI) classes [(nA2, .byte)] t ∧ va_D (va_A [(h0, .inr (5, [.null, .null, .null, .int 0, .int 0, .int 0, .int 0, .int 0, .int 0, .int 0, .int 0, .int 0]))] sz) [(h0, .inr (5, [.ref q1, .ref q3, .ref q4, .int 0, .int 0, .int 0, .int 0, .int 0, .int 0, .int 0, .int 0, .int 0])), (q1, .inr (0, [.ref q2, .int v1_1])), (q2, .inl (nA2, v2_n, .inl v2_a)), (q3, .inr (1, [.int v3_0, .int v3_1, .int v3_2, .int v3_3, .int v3_4, .int v3_5])), (q4, .inr (1, [.int v4_0, .int v4_1, .int v4_2, .int v4_3, .int v4_4, .int v4_5]))]) (va_A [(h0, .inr (5, [.null, .null, .null, .int 0, .int 0, .int 0, .int 0, .int 0, .int 0, .int 0, .int 0, .int 0]))] sz)) kc ks (va_A [(h0, .inr (5, [.null, .null, .null, .int 0, .int 0, .int 0, .int 0, .int 0, .int 0, .int 0, .int 0, .int 0]))] sz) :=
  met_M (plainFor_of_name (by decide)) (Nat.le_of_ble_eq_true rfl) (fun p e R s m args below meth c ls hRc hRs hsz hin C0 hST hK hP hD hl => by
    obtain ⟨hx, hb, hr, hml, hown, hts, hlocks, hRf, hRl⟩ := id C0
    subst hRc; subst hRs
    subst hsz
    have hA : ∀ q : Nat, s.heap.size ≤ q → va_A [(h0, .inr (5, [.null, .null, .null, .int 0, .int 0, .int 0, .int 0, .int 0, .int 0, .int 0, .int 0, .int 0]))] s.heap.size q := fun q h => Or.inr h
    have hS : va_S (va_A [(h0, .inr (5, [.null, .null, .null, .int 0, .int 0, .int 0, .int 0, .int 0, .int 0, .int 0, .int 0, .int 0]))] s.heap.size) s.heap s.heap [] := va_S.rf
    have hkc := Nat.zero_add R.cells
    have hks := Nat.zero_add R.slots
    unfold f_Rule_init at hf
    exact k_Rule_init_0 C0 hST hA (hin rfl) (fun pc ls {q1} {q2} {q3} {q4} {nA2} H locs hd hP hD hS hK => W.vret hx hb hr (fun t ht hW => ⟨⟨rfl, ⟨q1, q2, q3, q4, nA2, by rw [ht]; exact hP, va_K.moved hW.alike hK, hD⟩⟩, hS.F ht⟩) hS.2.2 hd) hf hK hP hD hS hkc hks (lv_sub hl [0] rfl))
-- ZoneFiles$Zone.<init>()V
def f_Zone_init_0 (nf : Nat) : Option (((Nat → Int64) × (Nat → Int32) × (Nat → Int32) × (Nat → Int32) × (Nat → Int32) × (Nat → Int32) × (Nat → Int32) × Int32 × Nat × (Nat → Int32) × (Nat → Int64) × (Nat → Int32) × Int32 × Int32 × Int32 × Int32 × Int32 × Int32 × Int32 × Int32 × Int32 × Int32 × Nat × (Nat → Int32) × Int32 × Int32 × Int32 × Int32 × Int32 × Int32 × Int32 × Int32 × Int32 × Int32 × Int32 × Int32) × Nat × Nat) :=
  ad 1 200 (ad 1 200 (ad 1 40 (ad 1 40 (ad 1 40 (ad 1 40 (ad 1 40 (ad 1 2 ((f_By_init nf 32).bind fun ((z_16, z_17, z_18), kc_21, ks_22) =>
  ad kc_21 ks_22 (ad 1 40 (ad 1 40 (ad 1 12 ((f_Rule_init nf).bind fun ((z_28, z_29, z_30, z_31, z_32, z_33, z_34, z_35, z_36, z_37, z_38, z_39, z_40, z_41, z_42), kc_48, ks_49) =>
  ad kc_48 ks_49 (some (((fun _ => 0), (fun _ => 0), (fun _ => 0), (fun _ => 0), (fun _ => 0), (fun _ => 0), (fun _ => 0), z_16, z_17, z_18, (fun _ => 0), (fun _ => 0), 0, 0, 0, 0, 0, 0, 0, 0, 0, z_28, z_29, z_30, z_31, z_32, z_33, z_34, z_35, z_36, z_37, z_38, z_39, z_40, z_41, z_42), 0, 0))))))))))))))
def f_Zone_init (nf : Nat) : Option (((Nat → Int64) × (Nat → Int32) × (Nat → Int32) × (Nat → Int32) × (Nat → Int32) × (Nat → Int32) × (Nat → Int32) × Int32 × Nat × (Nat → Int32) × (Nat → Int64) × (Nat → Int32) × Int32 × Int32 × Int32 × Int32 × Int32 × Int32 × Int32 × Int32 × Int32 × Int32 × Nat × (Nat → Int32) × Int32 × Int32 × Int32 × Int32 × Int32 × Int32 × Int32 × Int32 × Int32 × Int32 × Int32 × Int32) × Nat × Nat) :=
  f_Zone_init_0 nf
section
variable {p : Program} {l : Launch} {e : Env} {R : Room} {s : State} {m : MethodId} {args : Array Value} {below : List Frame} {meth : Method} {c : Code} {Q : State → Prop} {dC : Nat → ClassId} {dI : Nat → Nat → Nat} {nf : Nat} {A : Nat → Prop}
variable {h0 : Nat} {v1_a : Nat → Int64} {v2_a : Nat → Int32} {v3_a : Nat → Int32} {v4_a : Nat → Int32} {v5_a : Nat → Int32} {v6_a : Nat → Int32} {v7_a : Nat → Int32} {v8_1 : Int32} {v9_n : Nat} {v9_a : Nat → Int32} {v10_a : Nat → Int64} {v11_a : Nat → Int32} {v12_3 : Int32} {v12_4 : Int32} {v12_5 : Int32} {v12_6 : Int32} {v12_7 : Int32} {v12_8 : Int32} {v12_9 : Int32} {v12_10 : Int32} {v12_11 : Int32} {v13_1 : Int32} {v14_n : Nat} {v14_a : Nat → Int32} {v15_0 : Int32} {v15_1 : Int32} {v15_2 : Int32} {v15_3 : Int32} {v15_4 : Int32} {v15_5 : Int32} {v16_0 : Int32} {v16_1 : Int32} {v16_2 : Int32} {v16_3 : Int32} {v16_4 : Int32} {v16_5 : Int32}
set_option maxHeartbeats 4000000 in
set_option maxRecDepth 100000 in
theorem k_Zone_init_0 (C0 : Cx p s m meth c args R b_Zone_init "ZoneFiles$Zone" 1 none 3 53) (hST : ST A s s.heap) (hA : ∀ q, s.heap.size ≤ q → A q) (hin : meth.name = "<init>") (hE : ∀ (pc : Nat) (ls : Array Slot) {q1 : Nat} {q2 : Nat} {q3 : Nat} {q4 : Nat} {q5 : Nat} {q6 : Nat} {q7 : Nat} {q8 : Nat} {q9 : Nat} {q10 : Nat} {q11 : Nat} {q12 : Nat} {q13 : Nat} {q14 : Nat} {q15 : Nat} {q16 : Nat} {nA1 : ClassId} {nA2 : ClassId} {nA3 : ClassId} {nA4 : ClassId} {nA5 : ClassId} {nA6 : ClassId} {nA7 : ClassId} {nA9 : ClassId} {nA10 : ClassId} {nA11 : ClassId} {nA14 : ClassId} (H : Heap) (locs : List Loc), decode b_Zone_init pc = .ok (.return_, 1) → va_P (dC, dI) classes [(h0, .inr (8, [.int 0, .int 0, .int 0, .int 0, .int 0, .int 0, .ref q1, .ref q2, .ref q3, .ref q4, .ref q5, .ref q6, .ref q7, .ref q8, .ref q10, .ref q11, .ref q12])), (q1, .inl (nA1, 200, .inr (.inl v1_a))), (q2, .inl (nA2, 200, .inl v2_a)), (q3, .inl (nA3, 40, .inl v3_a)), (q4, .inl (nA4, 40, .inl v4_a)), (q5, .inl (nA5, 40, .inl v5_a)), (q6, .inl (nA6, 40, .inl v6_a)), (q7, .inl (nA7, 40, .inl v7_a)), (q8, .inr (0, [.ref q9, .int v8_1])), (q9, .inl (nA9, v9_n, .inl v9_a)), (q10, .inl (nA10, 40, .inr (.inl v10_a))), (q11, .inl (nA11, 40, .inl v11_a)), (q12, .inr (5, [.ref q13, .ref q15, .ref q16, .int v12_3, .int v12_4, .int v12_5, .int v12_6, .int v12_7, .int v12_8, .int v12_9, .int v12_10, .int v12_11])), (q13, .inr (0, [.ref q14, .int v13_1])), (q14, .inl (nA14, v14_n, .inl v14_a)), (q15, .inr (1, [.int v15_0, .int v15_1, .int v15_2, .int v15_3, .int v15_4, .int v15_5])), (q16, .inr (1, [.int v16_0, .int v16_1, .int v16_2, .int v16_3, .int v16_4, .int v16_5]))] H → va_D A [(h0, .inr (8, [.int 0, .int 0, .int 0, .int 0, .int 0, .int 0, .ref q1, .ref q2, .ref q3, .ref q4, .ref q5, .ref q6, .ref q7, .ref q8, .ref q10, .ref q11, .ref q12])), (q1, .inl (nA1, 200, .inr (.inl v1_a))), (q2, .inl (nA2, 200, .inl v2_a)), (q3, .inl (nA3, 40, .inl v3_a)), (q4, .inl (nA4, 40, .inl v4_a)), (q5, .inl (nA5, 40, .inl v5_a)), (q6, .inl (nA6, 40, .inl v6_a)), (q7, .inl (nA7, 40, .inl v7_a)), (q8, .inr (0, [.ref q9, .int v8_1])), (q9, .inl (nA9, v9_n, .inl v9_a)), (q10, .inl (nA10, 40, .inr (.inl v10_a))), (q11, .inl (nA11, 40, .inl v11_a)), (q12, .inr (5, [.ref q13, .ref q15, .ref q16, .int v12_3, .int v12_4, .int v12_5, .int v12_6, .int v12_7, .int v12_8, .int v12_9, .int v12_10, .int v12_11])), (q13, .inr (0, [.ref q14, .int v13_1])), (q14, .inl (nA14, v14_n, .inl v14_a)), (q15, .inr (1, [.int v15_0, .int v15_1, .int v15_2, .int v15_3, .int v15_4, .int v15_5])), (q16, .inr (1, [.int v16_0, .int v16_1, .int v16_2, .int v16_3, .int v16_4, .int v16_5]))] → va_S A s.heap H locs → va_K (dC, dI) classes [(nA1, .long), (nA2, .int), (nA3, .int), (nA4, .int), (nA5, .int), (nA6, .int), (nA7, .int), (nA9, .byte), (nA10, .long), (nA11, .int), (nA14, .byte)] s → W p l e R s m args below meth c H locs R.cells R.slots Q (F0 m pc ls [])) {kc ks : Nat} (hf : f_Zone_init_0 nf = some ((v1_a, v2_a, v3_a, v4_a, v5_a, v6_a, v7_a, v8_1, v9_n, v9_a, v10_a, v11_a, v12_3, v12_4, v12_5, v12_6, v12_7, v12_8, v12_9, v12_10, v12_11, v13_1, v14_n, v14_a, v15_0, v15_1, v15_2, v15_3, v15_4, v15_5, v16_0, v16_1, v16_2, v16_3, v16_4, v16_5), kc, ks)) {cells slots : Nat} {H : Heap} {locs : List Loc} {ls : Array Slot} (hK : va_K (dC, dI) classes [] s) (hP : va_P (dC, dI) classes [(h0, .inr (8, [.int 0, .int 0, .int 0, .int 0, .int 0, .int 0, .null, .null, .null, .null, .null, .null, .null, .null, .null, .null, .null]))] H) (hD : va_D A [(h0, .inr (8, [.int 0, .int 0, .int 0, .int 0, .int 0, .int 0, .null, .null, .null, .null, .null, .null, .null, .null, .null, .null, .null]))]) (hS : va_S A s.heap H locs) (hkc : cells + kc = R.cells) (hks : slots + ks = R.slots) (hl : lv_has ls 1 [(0, .ref h0)]) : W p l e R s m args below meth c H locs cells slots Q (F0 m 0 ls []) := by
  obtain ⟨hx, hb, hr, hml, hown, hts, hlocks, hRf, hRl⟩ := id C0
  obtain ⟨tms, hZms, hTms, tmg, hZmg, hTmg, hNW⟩ := id hST
  unfold f_Zone_init_0 at hf
  refine lv_aload_n hx hb d_Zone_init_0 rfl (lv_at hl 0 rfl) ?_
  refine W.objInit hx hb hown (hts (.methodLink "ZoneFiles$Zone" 3 objectInit) m_1_57) (hts (.instanceMethod objectInit) m_1_29) (hts (.code objectInit ⟨#[0xb1]⟩ 1 none) m_1_30) rfl (by rw [hml]; exact hl.1) rfl d_Zone_init_1 (Nat.le_trans (Nat.le_of_ble_eq_true rfl) hRf) (Nat.le_trans (Nat.le_of_ble_eq_true rfl) hRl) ?_
  refine W.eq (g2 := F0 m 4 ls []) rfl ?_
  refine lv_aload_n hx hb d_Zone_init_4 rfl (lv_at hl 0 rfl) ?_
  refine lv_sipush (v := 200) hx hb d_Zone_init_5 (by decide) ?_
  obtain ⟨kc, ks, hf, ekc, eks⟩ := oa hf
  refine va_newa (atype := .long) (ty := .long) (N' := 200) (a0 := (200, .inr (.inl (fun _ => 0)))) hx hb (hts (.arrayClass .long) m_1_99) rfl hK hP hD hS hA (fun cA => rfl) (by decide) (by decide) (by decide) (cb hkc ekc) (cb hks eks) d_Zone_init_8 (fun qn_1 cn_2 H hK hP hD hS => ?_)
  have hP : va_P (dC, dI) classes [(h0, .inr (8, [.int 0, .int 0, .int 0, .int 0, .int 0, .int 0, .null, .null, .null, .null, .null, .null, .null, .null, .null, .null, .null])), (qn_1, .inl (cn_2, 200, .inr (.inl (fun _ => 0))))] H := hP
  have hD : va_D A [(h0, .inr (8, [.int 0, .int 0, .int 0, .int 0, .int 0, .int 0, .null, .null, .null, .null, .null, .null, .null, .null, .null, .null, .null])), (qn_1, .inl (cn_2, 200, .inr (.inl (fun _ => 0))))] := hD
  have hK : va_K (dC, dI) classes [(cn_2, .long)] s := hK
  have hkc := ck hkc ekc
  have hks := ck hks eks
  generalize cells + 1 = cells at hkc ⊢
  generalize slots + 200 = slots at hks ⊢
  refine va_putF (D := (dC, dI)) (ci := 8) (v := .ref qn_1) (ty := .array (.long)) (C := RZone) (T := TZone) (N := 17) hx hb hts in_Zone tyZone ty_Zone nm_Zone hown hK hP hD hS 0 rfl rfl 6 (by decide) (hts (.fieldLink "ZoneFiles$Zone" 9 "ZoneFiles$Zone" "times" "[J") m_1_186) (fun _ h9 => h9) rfl hin rfl (by decide +kernel) rfl rfl (Nat.le_of_ble_eq_true rfl) d_Zone_init_10 (fun H locs hP hD hS => ?_)
  have hP : va_P (dC, dI) classes [(h0, .inr (8, [.int 0, .int 0, .int 0, .int 0, .int 0, .int 0, .ref qn_1, .null, .null, .null, .null, .null, .null, .null, .null, .null, .null])), (qn_1, .inl (cn_2, 200, .inr (.inl (fun _ => 0))))] H := hP
  have hD : va_D A [(h0, .inr (8, [.int 0, .int 0, .int 0, .int 0, .int 0, .int 0, .ref qn_1, .null, .null, .null, .null, .null, .null, .null, .null, .null, .null])), (qn_1, .inl (cn_2, 200, .inr (.inl (fun _ => 0))))] := hD
  refine lv_aload_n hx hb d_Zone_init_13 rfl (lv_at hl 0 rfl) ?_
  refine lv_sipush (v := 200) hx hb d_Zone_init_14 (by decide) ?_
  obtain ⟨kc, ks, hf, ekc, eks⟩ := oa hf
  refine va_newa (atype := .int) (ty := .int) (N' := 200) (a0 := (200, .inl (fun _ => 0))) hx hb (hts (.arrayClass .int) m_1_100) rfl hK hP hD hS hA (fun cA => rfl) (by decide) (by decide) (by decide) (cb hkc ekc) (cb hks eks) d_Zone_init_17 (fun qn_3 cn_4 H hK hP hD hS => ?_)
  have hP : va_P (dC, dI) classes [(h0, .inr (8, [.int 0, .int 0, .int 0, .int 0, .int 0, .int 0, .ref qn_1, .null, .null, .null, .null, .null, .null, .null, .null, .null, .null])), (qn_1, .inl (cn_2, 200, .inr (.inl (fun _ => 0)))), (qn_3, .inl (cn_4, 200, .inl (fun _ => 0)))] H := hP
  have hD : va_D A [(h0, .inr (8, [.int 0, .int 0, .int 0, .int 0, .int 0, .int 0, .ref qn_1, .null, .null, .null, .null, .null, .null, .null, .null, .null, .null])), (qn_1, .inl (cn_2, 200, .inr (.inl (fun _ => 0)))), (qn_3, .inl (cn_4, 200, .inl (fun _ => 0)))] := hD
  have hK : va_K (dC, dI) classes [(cn_2, .long), (cn_4, .int)] s := hK
  have hkc := ck hkc ekc
  have hks := ck hks eks
  generalize cells + 1 = cells at hkc ⊢
  generalize slots + 200 = slots at hks ⊢
  refine va_putF (D := (dC, dI)) (ci := 8) (v := .ref qn_3) (ty := .array (.int)) (C := RZone) (T := TZone) (N := 17) hx hb hts in_Zone tyZone ty_Zone nm_Zone hown hK hP hD hS 0 rfl rfl 7 (by decide) (hts (.fieldLink "ZoneFiles$Zone" 15 "ZoneFiles$Zone" "timeTypes" "[I") m_1_190) (fun _ h9 => h9) rfl hin rfl (by decide +kernel) rfl rfl (Nat.le_of_ble_eq_true rfl) d_Zone_init_19 (fun H locs hP hD hS => ?_)
  have hP : va_P (dC, dI) classes [(h0, .inr (8, [.int 0, .int 0, .int 0, .int 0, .int 0, .int 0, .ref qn_1, .ref qn_3, .null, .null, .null, .null, .null, .null, .null, .null, .null])), (qn_1, .inl (cn_2, 200, .inr (.inl (fun _ => 0)))), (qn_3, .inl (cn_4, 200, .inl (fun _ => 0)))] H := hP
  have hD : va_D A [(h0, .inr (8, [.int 0, .int 0, .int 0, .int 0, .int 0, .int 0, .ref qn_1, .ref qn_3, .null, .null, .null, .null, .null, .null, .null, .null, .null])), (qn_1, .inl (cn_2, 200, .inr (.inl (fun _ => 0)))), (qn_3, .inl (cn_4, 200, .inl (fun _ => 0)))] := hD
  refine lv_aload_n hx hb d_Zone_init_22 rfl (lv_at hl 0 rfl) ?_
  refine lv_bipush (v := 40) hx hb d_Zone_init_23 (by decide) ?_
  obtain ⟨kc, ks, hf, ekc, eks⟩ := oa hf
  refine va_newa (atype := .int) (ty := .int) (N' := 40) (a0 := (40, .inl (fun _ => 0))) hx hb (hts (.arrayClass .int) m_1_100) rfl hK hP hD hS hA (fun cA => rfl) (by decide) (by decide) (by decide) (cb hkc ekc) (cb hks eks) d_Zone_init_25 (fun qn_5 cn_6 H hK hP hD hS => ?_)
  have hP : va_P (dC, dI) classes [(h0, .inr (8, [.int 0, .int 0, .int 0, .int 0, .int 0, .int 0, .ref qn_1, .ref qn_3, .null, .null, .null, .null, .null, .null, .null, .null, .null])), (qn_1, .inl (cn_2, 200, .inr (.inl (fun _ => 0)))), (qn_3, .inl (cn_4, 200, .inl (fun _ => 0))), (qn_5, .inl (cn_6, 40, .inl (fun _ => 0)))] H := hP
  have hD : va_D A [(h0, .inr (8, [.int 0, .int 0, .int 0, .int 0, .int 0, .int 0, .ref qn_1, .ref qn_3, .null, .null, .null, .null, .null, .null, .null, .null, .null])), (qn_1, .inl (cn_2, 200, .inr (.inl (fun _ => 0)))), (qn_3, .inl (cn_4, 200, .inl (fun _ => 0))), (qn_5, .inl (cn_6, 40, .inl (fun _ => 0)))] := hD
  have hK : va_K (dC, dI) classes [(cn_2, .long), (cn_4, .int), (cn_6, .int)] s := hK
  have hkc := ck hkc ekc
  have hks := ck hks eks
  generalize cells + 1 = cells at hkc ⊢
  generalize slots + 40 = slots at hks ⊢
  refine va_putF (D := (dC, dI)) (ci := 8) (v := .ref qn_5) (ty := .array (.int)) (C := RZone) (T := TZone) (N := 17) hx hb hts in_Zone tyZone ty_Zone nm_Zone hown hK hP hD hS 0 rfl rfl 8 (by decide) (hts (.fieldLink "ZoneFiles$Zone" 19 "ZoneFiles$Zone" "offsets" "[I") m_1_194) (fun _ h9 => h9) rfl hin rfl (by decide +kernel) rfl rfl (Nat.le_of_ble_eq_true rfl) d_Zone_init_27 (fun H locs hP hD hS => ?_)
  have hP : va_P (dC, dI) classes [(h0, .inr (8, [.int 0, .int 0, .int 0, .int 0, .int 0, .int 0, .ref qn_1, .ref qn_3, .ref qn_5, .null, .null, .null, .null, .null, .null, .null, .null])), (qn_1, .inl (cn_2, 200, .inr (.inl (fun _ => 0)))), (qn_3, .inl (cn_4, 200, .inl (fun _ => 0))), (qn_5, .inl (cn_6, 40, .inl (fun _ => 0)))] H := hP
  have hD : va_D A [(h0, .inr (8, [.int 0, .int 0, .int 0, .int 0, .int 0, .int 0, .ref qn_1, .ref qn_3, .ref qn_5, .null, .null, .null, .null, .null, .null, .null, .null])), (qn_1, .inl (cn_2, 200, .inr (.inl (fun _ => 0)))), (qn_3, .inl (cn_4, 200, .inl (fun _ => 0))), (qn_5, .inl (cn_6, 40, .inl (fun _ => 0)))] := hD
  refine lv_aload_n hx hb d_Zone_init_30 rfl (lv_at hl 0 rfl) ?_
  refine lv_bipush (v := 40) hx hb d_Zone_init_31 (by decide) ?_
  obtain ⟨kc, ks, hf, ekc, eks⟩ := oa hf
  refine va_newa (atype := .int) (ty := .int) (N' := 40) (a0 := (40, .inl (fun _ => 0))) hx hb (hts (.arrayClass .int) m_1_100) rfl hK hP hD hS hA (fun cA => rfl) (by decide) (by decide) (by decide) (cb hkc ekc) (cb hks eks) d_Zone_init_33 (fun qn_7 cn_8 H hK hP hD hS => ?_)
  have hP : va_P (dC, dI) classes [(h0, .inr (8, [.int 0, .int 0, .int 0, .int 0, .int 0, .int 0, .ref qn_1, .ref qn_3, .ref qn_5, .null, .null, .null, .null, .null, .null, .null, .null])), (qn_1, .inl (cn_2, 200, .inr (.inl (fun _ => 0)))), (qn_3, .inl (cn_4, 200, .inl (fun _ => 0))), (qn_5, .inl (cn_6, 40, .inl (fun _ => 0))), (qn_7, .inl (cn_8, 40, .inl (fun _ => 0)))] H := hP
  have hD : va_D A [(h0, .inr (8, [.int 0, .int 0, .int 0, .int 0, .int 0, .int 0, .ref qn_1, .ref qn_3, .ref qn_5, .null, .null, .null, .null, .null, .null, .null, .null])), (qn_1, .inl (cn_2, 200, .inr (.inl (fun _ => 0)))), (qn_3, .inl (cn_4, 200, .inl (fun _ => 0))), (qn_5, .inl (cn_6, 40, .inl (fun _ => 0))), (qn_7, .inl (cn_8, 40, .inl (fun _ => 0)))] := hD
  have hK : va_K (dC, dI) classes [(cn_2, .long), (cn_4, .int), (cn_6, .int), (cn_8, .int)] s := hK
  have hkc := ck hkc ekc
  have hks := ck hks eks
  generalize cells + 1 = cells at hkc ⊢
  generalize slots + 40 = slots at hks ⊢
  refine va_putF (D := (dC, dI)) (ci := 8) (v := .ref qn_7) (ty := .array (.int)) (C := RZone) (T := TZone) (N := 17) hx hb hts in_Zone tyZone ty_Zone nm_Zone hown hK hP hD hS 0 rfl rfl 9 (by decide) (hts (.fieldLink "ZoneFiles$Zone" 22 "ZoneFiles$Zone" "dsts" "[I") m_1_198) (fun _ h9 => h9) rfl hin rfl (by decide +kernel) rfl rfl (Nat.le_of_ble_eq_true rfl) d_Zone_init_35 (fun H locs hP hD hS => ?_)
  have hP : va_P (dC, dI) classes [(h0, .inr (8, [.int 0, .int 0, .int 0, .int 0, .int 0, .int 0, .ref qn_1, .ref qn_3, .ref qn_5, .ref qn_7, .null, .null, .null, .null, .null, .null, .null])), (qn_1, .inl (cn_2, 200, .inr (.inl (fun _ => 0)))), (qn_3, .inl (cn_4, 200, .inl (fun _ => 0))), (qn_5, .inl (cn_6, 40, .inl (fun _ => 0))), (qn_7, .inl (cn_8, 40, .inl (fun _ => 0)))] H := hP
  have hD : va_D A [(h0, .inr (8, [.int 0, .int 0, .int 0, .int 0, .int 0, .int 0, .ref qn_1, .ref qn_3, .ref qn_5, .ref qn_7, .null, .null, .null, .null, .null, .null, .null])), (qn_1, .inl (cn_2, 200, .inr (.inl (fun _ => 0)))), (qn_3, .inl (cn_4, 200, .inl (fun _ => 0))), (qn_5, .inl (cn_6, 40, .inl (fun _ => 0))), (qn_7, .inl (cn_8, 40, .inl (fun _ => 0)))] := hD
  refine lv_aload_n hx hb d_Zone_init_38 rfl (lv_at hl 0 rfl) ?_
  refine lv_bipush (v := 40) hx hb d_Zone_init_39 (by decide) ?_
  obtain ⟨kc, ks, hf, ekc, eks⟩ := oa hf
  refine va_newa (atype := .int) (ty := .int) (N' := 40) (a0 := (40, .inl (fun _ => 0))) hx hb (hts (.arrayClass .int) m_1_100) rfl hK hP hD hS hA (fun cA => rfl) (by decide) (by decide) (by decide) (cb hkc ekc) (cb hks eks) d_Zone_init_41 (fun qn_9 cn_10 H hK hP hD hS => ?_)
  have hP : va_P (dC, dI) classes [(h0, .inr (8, [.int 0, .int 0, .int 0, .int 0, .int 0, .int 0, .ref qn_1, .ref qn_3, .ref qn_5, .ref qn_7, .null, .null, .null, .null, .null, .null, .null])), (qn_1, .inl (cn_2, 200, .inr (.inl (fun _ => 0)))), (qn_3, .inl (cn_4, 200, .inl (fun _ => 0))), (qn_5, .inl (cn_6, 40, .inl (fun _ => 0))), (qn_7, .inl (cn_8, 40, .inl (fun _ => 0))), (qn_9, .inl (cn_10, 40, .inl (fun _ => 0)))] H := hP
  have hD : va_D A [(h0, .inr (8, [.int 0, .int 0, .int 0, .int 0, .int 0, .int 0, .ref qn_1, .ref qn_3, .ref qn_5, .ref qn_7, .null, .null, .null, .null, .null, .null, .null])), (qn_1, .inl (cn_2, 200, .inr (.inl (fun _ => 0)))), (qn_3, .inl (cn_4, 200, .inl (fun _ => 0))), (qn_5, .inl (cn_6, 40, .inl (fun _ => 0))), (qn_7, .inl (cn_8, 40, .inl (fun _ => 0))), (qn_9, .inl (cn_10, 40, .inl (fun _ => 0)))] := hD
  have hK : va_K (dC, dI) classes [(cn_2, .long), (cn_4, .int), (cn_6, .int), (cn_8, .int), (cn_10, .int)] s := hK
  have hkc := ck hkc ekc
  have hks := ck hks eks
  generalize cells + 1 = cells at hkc ⊢
  generalize slots + 40 = slots at hks ⊢
  refine va_putF (D := (dC, dI)) (ci := 8) (v := .ref qn_9) (ty := .array (.int)) (C := RZone) (T := TZone) (N := 17) hx hb hts in_Zone tyZone ty_Zone nm_Zone hown hK hP hD hS 0 rfl rfl 10 (by decide) (hts (.fieldLink "ZoneFiles$Zone" 25 "ZoneFiles$Zone" "indexes" "[I") m_1_202) (fun _ h9 => h9) rfl hin rfl (by decide +kernel) rfl rfl (Nat.le_of_ble_eq_true rfl) d_Zone_init_43 (fun H locs hP hD hS => ?_)
  have hP : va_P (dC, dI) classes [(h0, .inr (8, [.int 0, .int 0, .int 0, .int 0, .int 0, .int 0, .ref qn_1, .ref qn_3, .ref qn_5, .ref qn_7, .ref qn_9, .null, .null, .null, .null, .null, .null])), (qn_1, .inl (cn_2, 200, .inr (.inl (fun _ => 0)))), (qn_3, .inl (cn_4, 200, .inl (fun _ => 0))), (qn_5, .inl (cn_6, 40, .inl (fun _ => 0))), (qn_7, .inl (cn_8, 40, .inl (fun _ => 0))), (qn_9, .inl (cn_10, 40, .inl (fun _ => 0)))] H := hP
  have hD : va_D A [(h0, .inr (8, [.int 0, .int 0, .int 0, .int 0, .int 0, .int 0, .ref qn_1, .ref qn_3, .ref qn_5, .ref qn_7, .ref qn_9, .null, .null, .null, .null, .null, .null])), (qn_1, .inl (cn_2, 200, .inr (.inl (fun _ => 0)))), (qn_3, .inl (cn_4, 200, .inl (fun _ => 0))), (qn_5, .inl (cn_6, 40, .inl (fun _ => 0))), (qn_7, .inl (cn_8, 40, .inl (fun _ => 0))), (qn_9, .inl (cn_10, 40, .inl (fun _ => 0)))] := hD
  refine lv_aload_n hx hb d_Zone_init_46 rfl (lv_at hl 0 rfl) ?_
  refine lv_bipush (v := 40) hx hb d_Zone_init_47 (by decide) ?_
  obtain ⟨kc, ks, hf, ekc, eks⟩ := oa hf
  refine va_newa (atype := .int) (ty := .int) (N' := 40) (a0 := (40, .inl (fun _ => 0))) hx hb (hts (.arrayClass .int) m_1_100) rfl hK hP hD hS hA (fun cA => rfl) (by decide) (by decide) (by decide) (cb hkc ekc) (cb hks eks) d_Zone_init_49 (fun qn_11 cn_12 H hK hP hD hS => ?_)
  have hP : va_P (dC, dI) classes [(h0, .inr (8, [.int 0, .int 0, .int 0, .int 0, .int 0, .int 0, .ref qn_1, .ref qn_3, .ref qn_5, .ref qn_7, .ref qn_9, .null, .null, .null, .null, .null, .null])), (qn_1, .inl (cn_2, 200, .inr (.inl (fun _ => 0)))), (qn_3, .inl (cn_4, 200, .inl (fun _ => 0))), (qn_5, .inl (cn_6, 40, .inl (fun _ => 0))), (qn_7, .inl (cn_8, 40, .inl (fun _ => 0))), (qn_9, .inl (cn_10, 40, .inl (fun _ => 0))), (qn_11, .inl (cn_12, 40, .inl (fun _ => 0)))] H := hP
  have hD : va_D A [(h0, .inr (8, [.int 0, .int 0, .int 0, .int 0, .int 0, .int 0, .ref qn_1, .ref qn_3, .ref qn_5, .ref qn_7, .ref qn_9, .null, .null, .null, .null, .null, .null])), (qn_1, .inl (cn_2, 200, .inr (.inl (fun _ => 0)))), (qn_3, .inl (cn_4, 200, .inl (fun _ => 0))), (qn_5, .inl (cn_6, 40, .inl (fun _ => 0))), (qn_7, .inl (cn_8, 40, .inl (fun _ => 0))), (qn_9, .inl (cn_10, 40, .inl (fun _ => 0))), (qn_11, .inl (cn_12, 40, .inl (fun _ => 0)))] := hD
  have hK : va_K (dC, dI) classes [(cn_2, .long), (cn_4, .int), (cn_6, .int), (cn_8, .int), (cn_10, .int), (cn_12, .int)] s := hK
  have hkc := ck hkc ekc
  have hks := ck hks eks
  generalize cells + 1 = cells at hkc ⊢
  generalize slots + 40 = slots at hks ⊢
  refine va_putF (D := (dC, dI)) (ci := 8) (v := .ref qn_11) (ty := .array (.int)) (C := RZone) (T := TZone) (N := 17) hx hb hts in_Zone tyZone ty_Zone nm_Zone hown hK hP hD hS 0 rfl rfl 11 (by decide) (hts (.fieldLink "ZoneFiles$Zone" 28 "ZoneFiles$Zone" "stds" "[I") m_1_206) (fun _ h9 => h9) rfl hin rfl (by decide +kernel) rfl rfl (Nat.le_of_ble_eq_true rfl) d_Zone_init_51 (fun H locs hP hD hS => ?_)
  have hP : va_P (dC, dI) classes [(h0, .inr (8, [.int 0, .int 0, .int 0, .int 0, .int 0, .int 0, .ref qn_1, .ref qn_3, .ref qn_5, .ref qn_7, .ref qn_9, .ref qn_11, .null, .null, .null, .null, .null])), (qn_1, .inl (cn_2, 200, .inr (.inl (fun _ => 0)))), (qn_3, .inl (cn_4, 200, .inl (fun _ => 0))), (qn_5, .inl (cn_6, 40, .inl (fun _ => 0))), (qn_7, .inl (cn_8, 40, .inl (fun _ => 0))), (qn_9, .inl (cn_10, 40, .inl (fun _ => 0))), (qn_11, .inl (cn_12, 40, .inl (fun _ => 0)))] H := hP
  have hD : va_D A [(h0, .inr (8, [.int 0, .int 0, .int 0, .int 0, .int 0, .int 0, .ref qn_1, .ref qn_3, .ref qn_5, .ref qn_7, .ref qn_9, .ref qn_11, .null, .null, .null, .null, .null])), (qn_1, .inl (cn_2, 200, .inr (.inl (fun _ => 0)))), (qn_3, .inl (cn_4, 200, .inl (fun _ => 0))), (qn_5, .inl (cn_6, 40, .inl (fun _ => 0))), (qn_7, .inl (cn_8, 40, .inl (fun _ => 0))), (qn_9, .inl (cn_10, 40, .inl (fun _ => 0))), (qn_11, .inl (cn_12, 40, .inl (fun _ => 0)))] := hD
  refine lv_aload_n hx hb d_Zone_init_54 rfl (lv_at hl 0 rfl) ?_
  refine lv_bipush (v := 40) hx hb d_Zone_init_55 (by decide) ?_
  obtain ⟨kc, ks, hf, ekc, eks⟩ := oa hf
  refine va_newa (atype := .int) (ty := .int) (N' := 40) (a0 := (40, .inl (fun _ => 0))) hx hb (hts (.arrayClass .int) m_1_100) rfl hK hP hD hS hA (fun cA => rfl) (by decide) (by decide) (by decide) (cb hkc ekc) (cb hks eks) d_Zone_init_57 (fun qn_13 cn_14 H hK hP hD hS => ?_)
  have hP : va_P (dC, dI) classes [(h0, .inr (8, [.int 0, .int 0, .int 0, .int 0, .int 0, .int 0, .ref qn_1, .ref qn_3, .ref qn_5, .ref qn_7, .ref qn_9, .ref qn_11, .null, .null, .null, .null, .null])), (qn_1, .inl (cn_2, 200, .inr (.inl (fun _ => 0)))), (qn_3, .inl (cn_4, 200, .inl (fun _ => 0))), (qn_5, .inl (cn_6, 40, .inl (fun _ => 0))), (qn_7, .inl (cn_8, 40, .inl (fun _ => 0))), (qn_9, .inl (cn_10, 40, .inl (fun _ => 0))), (qn_11, .inl (cn_12, 40, .inl (fun _ => 0))), (qn_13, .inl (cn_14, 40, .inl (fun _ => 0)))] H := hP
  have hD : va_D A [(h0, .inr (8, [.int 0, .int 0, .int 0, .int 0, .int 0, .int 0, .ref qn_1, .ref qn_3, .ref qn_5, .ref qn_7, .ref qn_9, .ref qn_11, .null, .null, .null, .null, .null])), (qn_1, .inl (cn_2, 200, .inr (.inl (fun _ => 0)))), (qn_3, .inl (cn_4, 200, .inl (fun _ => 0))), (qn_5, .inl (cn_6, 40, .inl (fun _ => 0))), (qn_7, .inl (cn_8, 40, .inl (fun _ => 0))), (qn_9, .inl (cn_10, 40, .inl (fun _ => 0))), (qn_11, .inl (cn_12, 40, .inl (fun _ => 0))), (qn_13, .inl (cn_14, 40, .inl (fun _ => 0)))] := hD
  have hK : va_K (dC, dI) classes [(cn_2, .long), (cn_4, .int), (cn_6, .int), (cn_8, .int), (cn_10, .int), (cn_12, .int), (cn_14, .int)] s := hK
  have hkc := ck hkc ekc
  have hks := ck hks eks
  generalize cells + 1 = cells at hkc ⊢
  generalize slots + 40 = slots at hks ⊢
  refine va_putF (D := (dC, dI)) (ci := 8) (v := .ref qn_13) (ty := .array (.int)) (C := RZone) (T := TZone) (N := 17) hx hb hts in_Zone tyZone ty_Zone nm_Zone hown hK hP hD hS 0 rfl rfl 12 (by decide) (hts (.fieldLink "ZoneFiles$Zone" 31 "ZoneFiles$Zone" "uts" "[I") m_1_210) (fun _ h9 => h9) rfl hin rfl (by decide +kernel) rfl rfl (Nat.le_of_ble_eq_true rfl) d_Zone_init_59 (fun H locs hP hD hS => ?_)
  have hP : va_P (dC, dI) classes [(h0, .inr (8, [.int 0, .int 0, .int 0, .int 0, .int 0, .int 0, .ref qn_1, .ref qn_3, .ref qn_5, .ref qn_7, .ref qn_9, .ref qn_11, .ref qn_13, .null, .null, .null, .null])), (qn_1, .inl (cn_2, 200, .inr (.inl (fun _ => 0)))), (qn_3, .inl (cn_4, 200, .inl (fun _ => 0))), (qn_5, .inl (cn_6, 40, .inl (fun _ => 0))), (qn_7, .inl (cn_8, 40, .inl (fun _ => 0))), (qn_9, .inl (cn_10, 40, .inl (fun _ => 0))), (qn_11, .inl (cn_12, 40, .inl (fun _ => 0))), (qn_13, .inl (cn_14, 40, .inl (fun _ => 0)))] H := hP
  have hD : va_D A [(h0, .inr (8, [.int 0, .int 0, .int 0, .int 0, .int 0, .int 0, .ref qn_1, .ref qn_3, .ref qn_5, .ref qn_7, .ref qn_9, .ref qn_11, .ref qn_13, .null, .null, .null, .null])), (qn_1, .inl (cn_2, 200, .inr (.inl (fun _ => 0)))), (qn_3, .inl (cn_4, 200, .inl (fun _ => 0))), (qn_5, .inl (cn_6, 40, .inl (fun _ => 0))), (qn_7, .inl (cn_8, 40, .inl (fun _ => 0))), (qn_9, .inl (cn_10, 40, .inl (fun _ => 0))), (qn_11, .inl (cn_12, 40, .inl (fun _ => 0))), (qn_13, .inl (cn_14, 40, .inl (fun _ => 0)))] := hD
  refine lv_aload_n hx hb d_Zone_init_62 rfl (lv_at hl 0 rfl) ?_
  obtain ⟨kc, ks, hf, ekc, eks⟩ := oa hf
  refine va_new (ci := 0) (fs := [.null, .int 0]) (C := RBytes) (T := TBytes) (N := 2) hx hb hts in_Bytes tyBytes ty_Bytes hown (hts (.classLink "ZoneFiles$Zone" 34 "ZoneFiles$Bytes") m_1_58) (hts (.instantiable "ZoneFiles$Bytes" 2) m_1_32) (hts (.initialized "ZoneFiles$Bytes") m_1_2) hK hP hD hS hA rfl (fun j hj => by match j, hj with | 0, _ => exact rfl | 1, _ => exact rfl | n + 2, h => exact absurd h (by omega)) (cb hkc ekc) (cb hks eks) d_Zone_init_63 (fun qn_15 H hP hD hS => ?_)
  have hP : va_P (dC, dI) classes [(h0, .inr (8, [.int 0, .int 0, .int 0, .int 0, .int 0, .int 0, .ref qn_1, .ref qn_3, .ref qn_5, .ref qn_7, .ref qn_9, .ref qn_11, .ref qn_13, .null, .null, .null, .null])), (qn_1, .inl (cn_2, 200, .inr (.inl (fun _ => 0)))), (qn_3, .inl (cn_4, 200, .inl (fun _ => 0))), (qn_5, .inl (cn_6, 40, .inl (fun _ => 0))), (qn_7, .inl (cn_8, 40, .inl (fun _ => 0))), (qn_9, .inl (cn_10, 40, .inl (fun _ => 0))), (qn_11, .inl (cn_12, 40, .inl (fun _ => 0))), (qn_13, .inl (cn_14, 40, .inl (fun _ => 0))), (qn_15, .inr (0, [.null, .int 0]))] H := hP
  have hD : va_D A [(h0, .inr (8, [.int 0, .int 0, .int 0, .int 0, .int 0, .int 0, .ref qn_1, .ref qn_3, .ref qn_5, .ref qn_7, .ref qn_9, .ref qn_11, .ref qn_13, .null, .null, .null, .null])), (qn_1, .inl (cn_2, 200, .inr (.inl (fun _ => 0)))), (qn_3, .inl (cn_4, 200, .inl (fun _ => 0))), (qn_5, .inl (cn_6, 40, .inl (fun _ => 0))), (qn_7, .inl (cn_8, 40, .inl (fun _ => 0))), (qn_9, .inl (cn_10, 40, .inl (fun _ => 0))), (qn_11, .inl (cn_12, 40, .inl (fun _ => 0))), (qn_13, .inl (cn_14, 40, .inl (fun _ => 0))), (qn_15, .inr (0, [.null, .int 0]))] := hD
  have hkc := ck hkc ekc
  have hks := ck hks eks
  generalize cells + 1 = cells at hkc ⊢
  generalize slots + 2 = slots at hks ⊢
  refine lv_dup hx hb d_Zone_init_66 rfl ?_
  refine lv_bipush (v := 32) hx hb d_Zone_init_67 (by decide) ?_
  obtain ⟨⟨⟨z_16, z_17, z_18⟩, kc_21, ks_22⟩, hc, hf⟩ := ob hf
  obtain ⟨kc, ks, hf, ekc, eks⟩ := oa hf
  have hPc := hP.sub (ws' := [(qn_15, .inr (0, [.null, .int 0]))]) [8] rfl
  have hDc := hD.sub (ws' := [(qn_15, .inr (0, [.null, .int 0]))]) [8] (by decide) rfl
  have hKc := hK.sub (tys' := []) [] rfl
  have hFc := va_free (wc := [(qn_15, .inr (0, [.null, .int 0]))]) hD hS hA [8] rfl
  refine cl_M (v := none) (st1 := [.ref qn_15, .ref h0]) (va_runI (As := [.int 32]) (rest := [.ref qn_15, .ref h0]) ⟨hx, hb, hml, hown, hts⟩ (c_By_init l dC dI qn_15 H.size nf 32 hc) (cwI 1 hts (gd_of m_1_35) rfl rfl rfl (hts (.initialized "ZoneFiles$Bytes") m_1_2) (hts (.methodLink "ZoneFiles$Zone" 36 ⟨"ZoneFiles$Bytes", "<init>", "(I)V"⟩) m_1_59) (hts (.instanceMethod ⟨"ZoneFiles$Bytes", "<init>", "(I)V"⟩) m_1_34) rfl (by decide +kernel) ⟨Nat.le_trans (Nat.le_of_ble_eq_true rfl) hRf, Nat.le_trans (Nat.le_of_ble_eq_true rfl) hRl⟩) (MU.pre hPc hKc hDc (hST.mu hS hFc)).sta rfl rfl hl.1 rfl (lv_room (Nat.le_of_ble_eq_true rfl)) d_Zone_init_69 ⟨cb hkc ekc, cb hks eks⟩) rfl hS (fun q _ h => hFc q h) hFc (fun t H1 locs ht hvm hB hz1 hk1 hS => ?_)
  obtain ⟨q_19, cq_20, hP1, hK1, hD1⟩ := hB
  rw [ht] at hP1
  have hK1 := va_K.moved hvm.symm hK1
  obtain ⟨hP, hD⟩ := va_join (wr := [(h0, .inr (8, [.int 0, .int 0, .int 0, .int 0, .int 0, .int 0, .ref qn_1, .ref qn_3, .ref qn_5, .ref qn_7, .ref qn_9, .ref qn_11, .ref qn_13, .null, .null, .null, .null])), (qn_1, .inl (cn_2, 200, .inr (.inl (fun _ => 0)))), (qn_3, .inl (cn_4, 200, .inl (fun _ => 0))), (qn_5, .inl (cn_6, 40, .inl (fun _ => 0))), (qn_7, .inl (cn_8, 40, .inl (fun _ => 0))), (qn_9, .inl (cn_10, 40, .inl (fun _ => 0))), (qn_11, .inl (cn_12, 40, .inl (fun _ => 0))), (qn_13, .inl (cn_14, 40, .inl (fun _ => 0)))]) (w1 := [(qn_15, .inr (0, [.ref q_19, .int z_16])), (q_19, .inl (cq_20, z_17, .inl z_18))]) hP hD [8] [0, 1, 2, 3, 4, 5, 6, 7] rfl rfl (by decide) (by decide) hk1 hFc hP1 hD1
  have hK := (hK.sub (tys' := [(cn_2, .long), (cn_4, .int), (cn_6, .int), (cn_8, .int), (cn_10, .int), (cn_12, .int), (cn_14, .int)]) [0, 1, 2, 3, 4, 5, 6] rfl).app hK1
  generalize H1 = H at hP hS ⊢
  have hP := hP.sub (ws' := [(h0, .inr (8, [.int 0, .int 0, .int 0, .int 0, .int 0, .int 0, .ref qn_1, .ref qn_3, .ref qn_5, .ref qn_7, .ref qn_9, .ref qn_11, .ref qn_13, .null, .null, .null, .null])), (qn_1, .inl (cn_2, 200, .inr (.inl (fun _ => 0)))), (qn_3, .inl (cn_4, 200, .inl (fun _ => 0))), (qn_5, .inl (cn_6, 40, .inl (fun _ => 0))), (qn_7, .inl (cn_8, 40, .inl (fun _ => 0))), (qn_9, .inl (cn_10, 40, .inl (fun _ => 0))), (qn_11, .inl (cn_12, 40, .inl (fun _ => 0))), (qn_13, .inl (cn_14, 40, .inl (fun _ => 0))), (qn_15, .inr (0, [.ref q_19, .int z_16])), (q_19, .inl (cq_20, z_17, .inl z_18))]) [0, 1, 2, 3, 4, 5, 6, 7, 8, 9] rfl
  have hD := hD.sub (ws' := [(h0, .inr (8, [.int 0, .int 0, .int 0, .int 0, .int 0, .int 0, .ref qn_1, .ref qn_3, .ref qn_5, .ref qn_7, .ref qn_9, .ref qn_11, .ref qn_13, .null, .null, .null, .null])), (qn_1, .inl (cn_2, 200, .inr (.inl (fun _ => 0)))), (qn_3, .inl (cn_4, 200, .inl (fun _ => 0))), (qn_5, .inl (cn_6, 40, .inl (fun _ => 0))), (qn_7, .inl (cn_8, 40, .inl (fun _ => 0))), (qn_9, .inl (cn_10, 40, .inl (fun _ => 0))), (qn_11, .inl (cn_12, 40, .inl (fun _ => 0))), (qn_13, .inl (cn_14, 40, .inl (fun _ => 0))), (qn_15, .inr (0, [.ref q_19, .int z_16])), (q_19, .inl (cq_20, z_17, .inl z_18))]) [0, 1, 2, 3, 4, 5, 6, 7, 8, 9] (by decide) rfl
  have hK := hK.sub (tys' := [(cn_2, .long), (cn_4, .int), (cn_6, .int), (cn_8, .int), (cn_10, .int), (cn_12, .int), (cn_14, .int), (cq_20, .byte)]) [0, 1, 2, 3, 4, 5, 6, 7] rfl
  have hkc := ck hkc ekc
  have hks := ck hks eks
  generalize cells + kc_21 = cells at hkc ⊢
  generalize slots + ks_22 = slots at hks ⊢
  refine va_putF (D := (dC, dI)) (ci := 8) (v := .ref qn_15) (ty := .object "ZoneFiles$Bytes") (C := RZone) (T := TZone) (N := 17) hx hb hts in_Zone tyZone ty_Zone nm_Zone hown hK hP hD hS 0 rfl rfl 13 (by decide) (hts (.fieldLink "ZoneFiles$Zone" 39 "ZoneFiles$Zone" "chars" "LZoneFiles$Bytes;") m_1_214) (fun _ h9 => h9) rfl hin rfl (by decide +kernel) rfl rfl (Nat.le_of_ble_eq_true rfl) d_Zone_init_72 (fun H locs hP hD hS => ?_)
  have hP : va_P (dC, dI) classes [(h0, .inr (8, [.int 0, .int 0, .int 0, .int 0, .int 0, .int 0, .ref qn_1, .ref qn_3, .ref qn_5, .ref qn_7, .ref qn_9, .ref qn_11, .ref qn_13, .ref qn_15, .null, .null, .null])), (qn_1, .inl (cn_2, 200, .inr (.inl (fun _ => 0)))), (qn_3, .inl (cn_4, 200, .inl (fun _ => 0))), (qn_5, .inl (cn_6, 40, .inl (fun _ => 0))), (qn_7, .inl (cn_8, 40, .inl (fun _ => 0))), (qn_9, .inl (cn_10, 40, .inl (fun _ => 0))), (qn_11, .inl (cn_12, 40, .inl (fun _ => 0))), (qn_13, .inl (cn_14, 40, .inl (fun _ => 0))), (qn_15, .inr (0, [.ref q_19, .int z_16])), (q_19, .inl (cq_20, z_17, .inl z_18))] H := hP
  have hD : va_D A [(h0, .inr (8, [.int 0, .int 0, .int 0, .int 0, .int 0, .int 0, .ref qn_1, .ref qn_3, .ref qn_5, .ref qn_7, .ref qn_9, .ref qn_11, .ref qn_13, .ref qn_15, .null, .null, .null])), (qn_1, .inl (cn_2, 200, .inr (.inl (fun _ => 0)))), (qn_3, .inl (cn_4, 200, .inl (fun _ => 0))), (qn_5, .inl (cn_6, 40, .inl (fun _ => 0))), (qn_7, .inl (cn_8, 40, .inl (fun _ => 0))), (qn_9, .inl (cn_10, 40, .inl (fun _ => 0))), (qn_11, .inl (cn_12, 40, .inl (fun _ => 0))), (qn_13, .inl (cn_14, 40, .inl (fun _ => 0))), (qn_15, .inr (0, [.ref q_19, .int z_16])), (q_19, .inl (cq_20, z_17, .inl z_18))] := hD
  refine lv_aload_n hx hb d_Zone_init_75 rfl (lv_at hl 0 rfl) ?_
  refine lv_bipush (v := 40) hx hb d_Zone_init_76 (by decide) ?_
  obtain ⟨kc, ks, hf, ekc, eks⟩ := oa hf
  refine va_newa (atype := .long) (ty := .long) (N' := 40) (a0 := (40, .inr (.inl (fun _ => 0)))) hx hb (hts (.arrayClass .long) m_1_99) rfl hK hP hD hS hA (fun cA => rfl) (by decide) (by decide) (by decide) (cb hkc ekc) (cb hks eks) d_Zone_init_78 (fun qn_23 cn_24 H hK hP hD hS => ?_)
  have hP : va_P (dC, dI) classes [(h0, .inr (8, [.int 0, .int 0, .int 0, .int 0, .int 0, .int 0, .ref qn_1, .ref qn_3, .ref qn_5, .ref qn_7, .ref qn_9, .ref qn_11, .ref qn_13, .ref qn_15, .null, .null, .null])), (qn_1, .inl (cn_2, 200, .inr (.inl (fun _ => 0)))), (qn_3, .inl (cn_4, 200, .inl (fun _ => 0))), (qn_5, .inl (cn_6, 40, .inl (fun _ => 0))), (qn_7, .inl (cn_8, 40, .inl (fun _ => 0))), (qn_9, .inl (cn_10, 40, .inl (fun _ => 0))), (qn_11, .inl (cn_12, 40, .inl (fun _ => 0))), (qn_13, .inl (cn_14, 40, .inl (fun _ => 0))), (qn_15, .inr (0, [.ref q_19, .int z_16])), (q_19, .inl (cq_20, z_17, .inl z_18)), (qn_23, .inl (cn_24, 40, .inr (.inl (fun _ => 0))))] H := hP
  have hD : va_D A [(h0, .inr (8, [.int 0, .int 0, .int 0, .int 0, .int 0, .int 0, .ref qn_1, .ref qn_3, .ref qn_5, .ref qn_7, .ref qn_9, .ref qn_11, .ref qn_13, .ref qn_15, .null, .null, .null])), (qn_1, .inl (cn_2, 200, .inr (.inl (fun _ => 0)))), (qn_3, .inl (cn_4, 200, .inl (fun _ => 0))), (qn_5, .inl (cn_6, 40, .inl (fun _ => 0))), (qn_7, .inl (cn_8, 40, .inl (fun _ => 0))), (qn_9, .inl (cn_10, 40, .inl (fun _ => 0))), (qn_11, .inl (cn_12, 40, .inl (fun _ => 0))), (qn_13, .inl (cn_14, 40, .inl (fun _ => 0))), (qn_15, .inr (0, [.ref q_19, .int z_16])), (q_19, .inl (cq_20, z_17, .inl z_18)), (qn_23, .inl (cn_24, 40, .inr (.inl (fun _ => 0))))] := hD
  have hK : va_K (dC, dI) classes [(cn_2, .long), (cn_4, .int), (cn_6, .int), (cn_8, .int), (cn_10, .int), (cn_12, .int), (cn_14, .int), (cq_20, .byte), (cn_24, .long)] s := hK
  have hkc := ck hkc ekc
  have hks := ck hks eks
  generalize cells + 1 = cells at hkc ⊢
  generalize slots + 40 = slots at hks ⊢
  refine va_putF (D := (dC, dI)) (ci := 8) (v := .ref qn_23) (ty := .array (.long)) (C := RZone) (T := TZone) (N := 17) hx hb hts in_Zone tyZone ty_Zone nm_Zone hown hK hP hD hS 0 rfl rfl 14 (by decide) (hts (.fieldLink "ZoneFiles$Zone" 43 "ZoneFiles$Zone" "leapTimes" "[J") m_1_218) (fun _ h9 => h9) rfl hin rfl (by decide +kernel) rfl rfl (Nat.le_of_ble_eq_true rfl) d_Zone_init_80 (fun H locs hP hD hS => ?_)
  have hP : va_P (dC, dI) classes [(h0, .inr (8, [.int 0, .int 0, .int 0, .int 0, .int 0, .int 0, .ref qn_1, .ref qn_3, .ref qn_5, .ref qn_7, .ref qn_9, .ref qn_11, .ref qn_13, .ref qn_15, .ref qn_23, .null, .null])), (qn_1, .inl (cn_2, 200, .inr (.inl (fun _ => 0)))), (qn_3, .inl (cn_4, 200, .inl (fun _ => 0))), (qn_5, .inl (cn_6, 40, .inl (fun _ => 0))), (qn_7, .inl (cn_8, 40, .inl (fun _ => 0))), (qn_9, .inl (cn_10, 40, .inl (fun _ => 0))), (qn_11, .inl (cn_12, 40, .inl (fun _ => 0))), (qn_13, .inl (cn_14, 40, .inl (fun _ => 0))), (qn_15, .inr (0, [.ref q_19, .int z_16])), (q_19, .inl (cq_20, z_17, .inl z_18)), (qn_23, .inl (cn_24, 40, .inr (.inl (fun _ => 0))))] H := hP
  have hD : va_D A [(h0, .inr (8, [.int 0, .int 0, .int 0, .int 0, .int 0, .int 0, .ref qn_1, .ref qn_3, .ref qn_5, .ref qn_7, .ref qn_9, .ref qn_11, .ref qn_13, .ref qn_15, .ref qn_23, .null, .null])), (qn_1, .inl (cn_2, 200, .inr (.inl (fun _ => 0)))), (qn_3, .inl (cn_4, 200, .inl (fun _ => 0))), (qn_5, .inl (cn_6, 40, .inl (fun _ => 0))), (qn_7, .inl (cn_8, 40, .inl (fun _ => 0))), (qn_9, .inl (cn_10, 40, .inl (fun _ => 0))), (qn_11, .inl (cn_12, 40, .inl (fun _ => 0))), (qn_13, .inl (cn_14, 40, .inl (fun _ => 0))), (qn_15, .inr (0, [.ref q_19, .int z_16])), (q_19, .inl (cq_20, z_17, .inl z_18)), (qn_23, .inl (cn_24, 40, .inr (.inl (fun _ => 0))))] := hD
  refine lv_aload_n hx hb d_Zone_init_83 rfl (lv_at hl 0 rfl) ?_
  refine lv_bipush (v := 40) hx hb d_Zone_init_84 (by decide) ?_
  obtain ⟨kc, ks, hf, ekc, eks⟩ := oa hf
  refine va_newa (atype := .int) (ty := .int) (N' := 40) (a0 := (40, .inl (fun _ => 0))) hx hb (hts (.arrayClass .int) m_1_100) rfl hK hP hD hS hA (fun cA => rfl) (by decide) (by decide) (by decide) (cb hkc ekc) (cb hks eks) d_Zone_init_86 (fun qn_25 cn_26 H hK hP hD hS => ?_)
  have hP : va_P (dC, dI) classes [(h0, .inr (8, [.int 0, .int 0, .int 0, .int 0, .int 0, .int 0, .ref qn_1, .ref qn_3, .ref qn_5, .ref qn_7, .ref qn_9, .ref qn_11, .ref qn_13, .ref qn_15, .ref qn_23, .null, .null])), (qn_1, .inl (cn_2, 200, .inr (.inl (fun _ => 0)))), (qn_3, .inl (cn_4, 200, .inl (fun _ => 0))), (qn_5, .inl (cn_6, 40, .inl (fun _ => 0))), (qn_7, .inl (cn_8, 40, .inl (fun _ => 0))), (qn_9, .inl (cn_10, 40, .inl (fun _ => 0))), (qn_11, .inl (cn_12, 40, .inl (fun _ => 0))), (qn_13, .inl (cn_14, 40, .inl (fun _ => 0))), (qn_15, .inr (0, [.ref q_19, .int z_16])), (q_19, .inl (cq_20, z_17, .inl z_18)), (qn_23, .inl (cn_24, 40, .inr (.inl (fun _ => 0)))), (qn_25, .inl (cn_26, 40, .inl (fun _ => 0)))] H := hP
  have hD : va_D A [(h0, .inr (8, [.int 0, .int 0, .int 0, .int 0, .int 0, .int 0, .ref qn_1, .ref qn_3, .ref qn_5, .ref qn_7, .ref qn_9, .ref qn_11, .ref qn_13, .ref qn_15, .ref qn_23, .null, .null])), (qn_1, .inl (cn_2, 200, .inr (.inl (fun _ => 0)))), (qn_3, .inl (cn_4, 200, .inl (fun _ => 0))), (qn_5, .inl (cn_6, 40, .inl (fun _ => 0))), (qn_7, .inl (cn_8, 40, .inl (fun _ => 0))), (qn_9, .inl (cn_10, 40, .inl (fun _ => 0))), (qn_11, .inl (cn_12, 40, .inl (fun _ => 0))), (qn_13, .inl (cn_14, 40, .inl (fun _ => 0))), (qn_15, .inr (0, [.ref q_19, .int z_16])), (q_19, .inl (cq_20, z_17, .inl z_18)), (qn_23, .inl (cn_24, 40, .inr (.inl (fun _ => 0)))), (qn_25, .inl (cn_26, 40, .inl (fun _ => 0)))] := hD
  have hK : va_K (dC, dI) classes [(cn_2, .long), (cn_4, .int), (cn_6, .int), (cn_8, .int), (cn_10, .int), (cn_12, .int), (cn_14, .int), (cq_20, .byte), (cn_24, .long), (cn_26, .int)] s := hK
  have hkc := ck hkc ekc
  have hks := ck hks eks
  generalize cells + 1 = cells at hkc ⊢
  generalize slots + 40 = slots at hks ⊢
  refine va_putF (D := (dC, dI)) (ci := 8) (v := .ref qn_25) (ty := .array (.int)) (C := RZone) (T := TZone) (N := 17) hx hb hts in_Zone tyZone ty_Zone nm_Zone hown hK hP hD hS 0 rfl rfl 15 (by decide) (hts (.fieldLink "ZoneFiles$Zone" 46 "ZoneFiles$Zone" "leapCorrections" "[I") m_1_222) (fun _ h9 => h9) rfl hin rfl (by decide +kernel) rfl rfl (Nat.le_of_ble_eq_true rfl) d_Zone_init_88 (fun H locs hP hD hS => ?_)
  have hP : va_P (dC, dI) classes [(h0, .inr (8, [.int 0, .int 0, .int 0, .int 0, .int 0, .int 0, .ref qn_1, .ref qn_3, .ref qn_5, .ref qn_7, .ref qn_9, .ref qn_11, .ref qn_13, .ref qn_15, .ref qn_23, .ref qn_25, .null])), (qn_1, .inl (cn_2, 200, .inr (.inl (fun _ => 0)))), (qn_3, .inl (cn_4, 200, .inl (fun _ => 0))), (qn_5, .inl (cn_6, 40, .inl (fun _ => 0))), (qn_7, .inl (cn_8, 40, .inl (fun _ => 0))), (qn_9, .inl (cn_10, 40, .inl (fun _ => 0))), (qn_11, .inl (cn_12, 40, .inl (fun _ => 0))), (qn_13, .inl (cn_14, 40, .inl (fun _ => 0))), (qn_15, .inr (0, [.ref q_19, .int z_16])), (q_19, .inl (cq_20, z_17, .inl z_18)), (qn_23, .inl (cn_24, 40, .inr (.inl (fun _ => 0)))), (qn_25, .inl (cn_26, 40, .inl (fun _ => 0)))] H := hP
  have hD : va_D A [(h0, .inr (8, [.int 0, .int 0, .int 0, .int 0, .int 0, .int 0, .ref qn_1, .ref qn_3, .ref qn_5, .ref qn_7, .ref qn_9, .ref qn_11, .ref qn_13, .ref qn_15, .ref qn_23, .ref qn_25, .null])), (qn_1, .inl (cn_2, 200, .inr (.inl (fun _ => 0)))), (qn_3, .inl (cn_4, 200, .inl (fun _ => 0))), (qn_5, .inl (cn_6, 40, .inl (fun _ => 0))), (qn_7, .inl (cn_8, 40, .inl (fun _ => 0))), (qn_9, .inl (cn_10, 40, .inl (fun _ => 0))), (qn_11, .inl (cn_12, 40, .inl (fun _ => 0))), (qn_13, .inl (cn_14, 40, .inl (fun _ => 0))), (qn_15, .inr (0, [.ref q_19, .int z_16])), (q_19, .inl (cq_20, z_17, .inl z_18)), (qn_23, .inl (cn_24, 40, .inr (.inl (fun _ => 0)))), (qn_25, .inl (cn_26, 40, .inl (fun _ => 0)))] := hD
  refine lv_aload_n hx hb d_Zone_init_91 rfl (lv_at hl 0 rfl) ?_
  obtain ⟨kc, ks, hf, ekc, eks⟩ := oa hf
  refine va_new (ci := 5) (fs := [.null, .null, .null, .int 0, .int 0, .int 0, .int 0, .int 0, .int 0, .int 0, .int 0, .int 0]) (C := RRule) (T := TRule) (N := 12) hx hb hts in_Rule tyRule ty_Rule hown (hts (.classLink "ZoneFiles$Zone" 49 "ZoneFiles$Rule") m_1_60) (hts (.instantiable "ZoneFiles$Rule" 12) m_1_61) (hts (.initialized "ZoneFiles$Rule") m_1_4) hK hP hD hS hA rfl (fun j hj => by match j, hj with | 0, _ => exact rfl | 1, _ => exact rfl | 2, _ => exact rfl | 3, _ => exact rfl | 4, _ => exact rfl | 5, _ => exact rfl | 6, _ => exact rfl | 7, _ => exact rfl | 8, _ => exact rfl | 9, _ => exact rfl | 10, _ => exact rfl | 11, _ => exact rfl | n + 12, h => exact absurd h (by omega)) (cb hkc ekc) (cb hks eks) d_Zone_init_92 (fun qn_27 H hP hD hS => ?_)
  have hP : va_P (dC, dI) classes [(h0, .inr (8, [.int 0, .int 0, .int 0, .int 0, .int 0, .int 0, .ref qn_1, .ref qn_3, .ref qn_5, .ref qn_7, .ref qn_9, .ref qn_11, .ref qn_13, .ref qn_15, .ref qn_23, .ref qn_25, .null])), (qn_1, .inl (cn_2, 200, .inr (.inl (fun _ => 0)))), (qn_3, .inl (cn_4, 200, .inl (fun _ => 0))), (qn_5, .inl (cn_6, 40, .inl (fun _ => 0))), (qn_7, .inl (cn_8, 40, .inl (fun _ => 0))), (qn_9, .inl (cn_10, 40, .inl (fun _ => 0))), (qn_11, .inl (cn_12, 40, .inl (fun _ => 0))), (qn_13, .inl (cn_14, 40, .inl (fun _ => 0))), (qn_15, .inr (0, [.ref q_19, .int z_16])), (q_19, .inl (cq_20, z_17, .inl z_18)), (qn_23, .inl (cn_24, 40, .inr (.inl (fun _ => 0)))), (qn_25, .inl (cn_26, 40, .inl (fun _ => 0))), (qn_27, .inr (5, [.null, .null, .null, .int 0, .int 0, .int 0, .int 0, .int 0, .int 0, .int 0, .int 0, .int 0]))] H := hP
  have hD : va_D A [(h0, .inr (8, [.int 0, .int 0, .int 0, .int 0, .int 0, .int 0, .ref qn_1, .ref qn_3, .ref qn_5, .ref qn_7, .ref qn_9, .ref qn_11, .ref qn_13, .ref qn_15, .ref qn_23, .ref qn_25, .null])), (qn_1, .inl (cn_2, 200, .inr (.inl (fun _ => 0)))), (qn_3, .inl (cn_4, 200, .inl (fun _ => 0))), (qn_5, .inl (cn_6, 40, .inl (fun _ => 0))), (qn_7, .inl (cn_8, 40, .inl (fun _ => 0))), (qn_9, .inl (cn_10, 40, .inl (fun _ => 0))), (qn_11, .inl (cn_12, 40, .inl (fun _ => 0))), (qn_13, .inl (cn_14, 40, .inl (fun _ => 0))), (qn_15, .inr (0, [.ref q_19, .int z_16])), (q_19, .inl (cq_20, z_17, .inl z_18)), (qn_23, .inl (cn_24, 40, .inr (.inl (fun _ => 0)))), (qn_25, .inl (cn_26, 40, .inl (fun _ => 0))), (qn_27, .inr (5, [.null, .null, .null, .int 0, .int 0, .int 0, .int 0, .int 0, .int 0, .int 0, .int 0, .int 0]))] := hD
  have hkc := ck hkc ekc
  have hks := ck hks eks
  generalize cells + 1 = cells at hkc ⊢
  generalize slots + 12 = slots at hks ⊢
  refine lv_dup hx hb d_Zone_init_95 rfl ?_
  obtain ⟨⟨⟨z_28, z_29, z_30, z_31, z_32, z_33, z_34, z_35, z_36, z_37, z_38, z_39, z_40, z_41, z_42⟩, kc_48, ks_49⟩, hc, hf⟩ := ob hf
  obtain ⟨kc, ks, hf, ekc, eks⟩ := oa hf
  have hPc := hP.sub (ws' := [(qn_27, .inr (5, [.null, .null, .null, .int 0, .int 0, .int 0, .int 0, .int 0, .int 0, .int 0, .int 0, .int 0]))]) [12] rfl
  have hDc := hD.sub (ws' := [(qn_27, .inr (5, [.null, .null, .null, .int 0, .int 0, .int 0, .int 0, .int 0, .int 0, .int 0, .int 0, .int 0]))]) [12] (by decide) rfl
  have hKc := hK.sub (tys' := []) [] rfl
  have hFc := va_free (wc := [(qn_27, .inr (5, [.null, .null, .null, .int 0, .int 0, .int 0, .int 0, .int 0, .int 0, .int 0, .int 0, .int 0]))]) hD hS hA [12] rfl
  refine cl_M (v := none) (st1 := [.ref qn_27, .ref h0]) (va_runI (As := []) (rest := [.ref qn_27, .ref h0]) ⟨hx, hb, hml, hown, hts⟩ (c_Rule_init l dC dI qn_27 H.size nf hc) (cwI 0 hts (gd_of m_1_64) rfl rfl rfl (hts (.initialized "ZoneFiles$Rule") m_1_4) (hts (.methodLink "ZoneFiles$Zone" 51 ⟨"ZoneFiles$Rule", "<init>", "()V"⟩) m_1_62) (hts (.instanceMethod ⟨"ZoneFiles$Rule", "<init>", "()V"⟩) m_1_63) rfl (by decide +kernel) ⟨Nat.le_trans (Nat.le_of_ble_eq_true rfl) hRf, Nat.le_trans (Nat.le_of_ble_eq_true rfl) hRl⟩) (MU.pre hPc hKc hDc (hST.mu hS hFc)).sta rfl rfl hl.1 rfl (lv_room (Nat.le_of_ble_eq_true rfl)) d_Zone_init_96 ⟨cb hkc ekc, cb hks eks⟩) rfl hS (fun q _ h => hFc q h) hFc (fun t H1 locs ht hvm hB hz1 hk1 hS => ?_)
  obtain ⟨q_43, q_44, q_45, q_46, cq_47, hP1, hK1, hD1⟩ := hB
  rw [ht] at hP1
  have hK1 := va_K.moved hvm.symm hK1
  obtain ⟨hP, hD⟩ := va_join (wr := [(h0, .inr (8, [.int 0, .int 0, .int 0, .int 0, .int 0, .int 0, .ref qn_1, .ref qn_3, .ref qn_5, .ref qn_7, .ref qn_9, .ref qn_11, .ref qn_13, .ref qn_15, .ref qn_23, .ref qn_25, .null])), (qn_1, .inl (cn_2, 200, .inr (.inl (fun _ => 0)))), (qn_3, .inl (cn_4, 200, .inl (fun _ => 0))), (qn_5, .inl (cn_6, 40, .inl (fun _ => 0))), (qn_7, .inl (cn_8, 40, .inl (fun _ => 0))), (qn_9, .inl (cn_10, 40, .inl (fun _ => 0))), (qn_11, .inl (cn_12, 40, .inl (fun _ => 0))), (qn_13, .inl (cn_14, 40, .inl (fun _ => 0))), (qn_15, .inr (0, [.ref q_19, .int z_16])), (q_19, .inl (cq_20, z_17, .inl z_18)), (qn_23, .inl (cn_24, 40, .inr (.inl (fun _ => 0)))), (qn_25, .inl (cn_26, 40, .inl (fun _ => 0)))]) (w1 := [(qn_27, .inr (5, [.ref q_43, .ref q_45, .ref q_46, .int 0, .int 0, .int 0, .int 0, .int 0, .int 0, .int 0, .int 0, .int 0])), (q_43, .inr (0, [.ref q_44, .int z_28])), (q_44, .inl (cq_47, z_29, .inl z_30)), (q_45, .inr (1, [.int z_31, .int z_32, .int z_33, .int z_34, .int z_35, .int z_36])), (q_46, .inr (1, [.int z_37, .int z_38, .int z_39, .int z_40, .int z_41, .int z_42]))]) hP hD [12] [0, 1, 2, 3, 4, 5, 6, 7, 8, 9, 10, 11] rfl rfl (by decide) (by decide) hk1 hFc hP1 hD1
  have hK := (hK.sub (tys' := [(cn_2, .long), (cn_4, .int), (cn_6, .int), (cn_8, .int), (cn_10, .int), (cn_12, .int), (cn_14, .int), (cq_20, .byte), (cn_24, .long), (cn_26, .int)]) [0, 1, 2, 3, 4, 5, 6, 7, 8, 9] rfl).app hK1
  generalize H1 = H at hP hS ⊢
  have hP := hP.sub (ws' := [(h0, .inr (8, [.int 0, .int 0, .int 0, .int 0, .int 0, .int 0, .ref qn_1, .ref qn_3, .ref qn_5, .ref qn_7, .ref qn_9, .ref qn_11, .ref qn_13, .ref qn_15, .ref qn_23, .ref qn_25, .null])), (qn_1, .inl (cn_2, 200, .inr (.inl (fun _ => 0)))), (qn_3, .inl (cn_4, 200, .inl (fun _ => 0))), (qn_5, .inl (cn_6, 40, .inl (fun _ => 0))), (qn_7, .inl (cn_8, 40, .inl (fun _ => 0))), (qn_9, .inl (cn_10, 40, .inl (fun _ => 0))), (qn_11, .inl (cn_12, 40, .inl (fun _ => 0))), (qn_13, .inl (cn_14, 40, .inl (fun _ => 0))), (qn_15, .inr (0, [.ref q_19, .int z_16])), (q_19, .inl (cq_20, z_17, .inl z_18)), (qn_23, .inl (cn_24, 40, .inr (.inl (fun _ => 0)))), (qn_25, .inl (cn_26, 40, .inl (fun _ => 0))), (qn_27, .inr (5, [.ref q_43, .ref q_45, .ref q_46, .int 0, .int 0, .int 0, .int 0, .int 0, .int 0, .int 0, .int 0, .int 0])), (q_43, .inr (0, [.ref q_44, .int z_28])), (q_44, .inl (cq_47, z_29, .inl z_30)), (q_45, .inr (1, [.int z_31, .int z_32, .int z_33, .int z_34, .int z_35, .int z_36])), (q_46, .inr (1, [.int z_37, .int z_38, .int z_39, .int z_40, .int z_41, .int z_42]))]) [0, 1, 2, 3, 4, 5, 6, 7, 8, 9, 10, 11, 12, 13, 14, 15, 16] rfl
  have hD := hD.sub (ws' := [(h0, .inr (8, [.int 0, .int 0, .int 0, .int 0, .int 0, .int 0, .ref qn_1, .ref qn_3, .ref qn_5, .ref qn_7, .ref qn_9, .ref qn_11, .ref qn_13, .ref qn_15, .ref qn_23, .ref qn_25, .null])), (qn_1, .inl (cn_2, 200, .inr (.inl (fun _ => 0)))), (qn_3, .inl (cn_4, 200, .inl (fun _ => 0))), (qn_5, .inl (cn_6, 40, .inl (fun _ => 0))), (qn_7, .inl (cn_8, 40, .inl (fun _ => 0))), (qn_9, .inl (cn_10, 40, .inl (fun _ => 0))), (qn_11, .inl (cn_12, 40, .inl (fun _ => 0))), (qn_13, .inl (cn_14, 40, .inl (fun _ => 0))), (qn_15, .inr (0, [.ref q_19, .int z_16])), (q_19, .inl (cq_20, z_17, .inl z_18)), (qn_23, .inl (cn_24, 40, .inr (.inl (fun _ => 0)))), (qn_25, .inl (cn_26, 40, .inl (fun _ => 0))), (qn_27, .inr (5, [.ref q_43, .ref q_45, .ref q_46, .int 0, .int 0, .int 0, .int 0, .int 0, .int 0, .int 0, .int 0, .int 0])), (q_43, .inr (0, [.ref q_44, .int z_28])), (q_44, .inl (cq_47, z_29, .inl z_30)), (q_45, .inr (1, [.int z_31, .int z_32, .int z_33, .int z_34, .int z_35, .int z_36])), (q_46, .inr (1, [.int z_37, .int z_38, .int z_39, .int z_40, .int z_41, .int z_42]))]) [0, 1, 2, 3, 4, 5, 6, 7, 8, 9, 10, 11, 12, 13, 14, 15, 16] (by decide) rfl
  have hK := hK.sub (tys' := [(cn_2, .long), (cn_4, .int), (cn_6, .int), (cn_8, .int), (cn_10, .int), (cn_12, .int), (cn_14, .int), (cq_20, .byte), (cn_24, .long), (cn_26, .int), (cq_47, .byte)]) [0, 1, 2, 3, 4, 5, 6, 7, 8, 9, 10] rfl
  have hkc := ck hkc ekc
  have hks := ck hks eks
  generalize cells + kc_48 = cells at hkc ⊢
  generalize slots + ks_49 = slots at hks ⊢
  refine va_putF (D := (dC, dI)) (ci := 8) (v := .ref qn_27) (ty := .object "ZoneFiles$Rule") (C := RZone) (T := TZone) (N := 17) hx hb hts in_Zone tyZone ty_Zone nm_Zone hown hK hP hD hS 0 rfl rfl 16 (by decide) (hts (.fieldLink "ZoneFiles$Zone" 52 "ZoneFiles$Zone" "rule" "LZoneFiles$Rule;") m_1_226) (fun _ h9 => h9) rfl hin rfl (by decide +kernel) rfl rfl (Nat.le_of_ble_eq_true rfl) d_Zone_init_99 (fun H locs hP hD hS => ?_)
  have hP : va_P (dC, dI) classes [(h0, .inr (8, [.int 0, .int 0, .int 0, .int 0, .int 0, .int 0, .ref qn_1, .ref qn_3, .ref qn_5, .ref qn_7, .ref qn_9, .ref qn_11, .ref qn_13, .ref qn_15, .ref qn_23, .ref qn_25, .ref qn_27])), (qn_1, .inl (cn_2, 200, .inr (.inl (fun _ => 0)))), (qn_3, .inl (cn_4, 200, .inl (fun _ => 0))), (qn_5, .inl (cn_6, 40, .inl (fun _ => 0))), (qn_7, .inl (cn_8, 40, .inl (fun _ => 0))), (qn_9, .inl (cn_10, 40, .inl (fun _ => 0))), (qn_11, .inl (cn_12, 40, .inl (fun _ => 0))), (qn_13, .inl (cn_14, 40, .inl (fun _ => 0))), (qn_15, .inr (0, [.ref q_19, .int z_16])), (q_19, .inl (cq_20, z_17, .inl z_18)), (qn_23, .inl (cn_24, 40, .inr (.inl (fun _ => 0)))), (qn_25, .inl (cn_26, 40, .inl (fun _ => 0))), (qn_27, .inr (5, [.ref q_43, .ref q_45, .ref q_46, .int 0, .int 0, .int 0, .int 0, .int 0, .int 0, .int 0, .int 0, .int 0])), (q_43, .inr (0, [.ref q_44, .int z_28])), (q_44, .inl (cq_47, z_29, .inl z_30)), (q_45, .inr (1, [.int z_31, .int z_32, .int z_33, .int z_34, .int z_35, .int z_36])), (q_46, .inr (1, [.int z_37, .int z_38, .int z_39, .int z_40, .int z_41, .int z_42]))] H := hP
  have hD : va_D A [(h0, .inr (8, [.int 0, .int 0, .int 0, .int 0, .int 0, .int 0, .ref qn_1, .ref qn_3, .ref qn_5, .ref qn_7, .ref qn_9, .ref qn_11, .ref qn_13, .ref qn_15, .ref qn_23, .ref qn_25, .ref qn_27])), (qn_1, .inl (cn_2, 200, .inr (.inl (fun _ => 0)))), (qn_3, .inl (cn_4, 200, .inl (fun _ => 0))), (qn_5, .inl (cn_6, 40, .inl (fun _ => 0))), (qn_7, .inl (cn_8, 40, .inl (fun _ => 0))), (qn_9, .inl (cn_10, 40, .inl (fun _ => 0))), (qn_11, .inl (cn_12, 40, .inl (fun _ => 0))), (qn_13, .inl (cn_14, 40, .inl (fun _ => 0))), (qn_15, .inr (0, [.ref q_19, .int z_16])), (q_19, .inl (cq_20, z_17, .inl z_18)), (qn_23, .inl (cn_24, 40, .inr (.inl (fun _ => 0)))), (qn_25, .inl (cn_26, 40, .inl (fun _ => 0))), (qn_27, .inr (5, [.ref q_43, .ref q_45, .ref q_46, .int 0, .int 0, .int 0, .int 0, .int 0, .int 0, .int 0, .int 0, .int 0])), (q_43, .inr (0, [.ref q_44, .int z_28])), (q_44, .inl (cq_47, z_29, .inl z_30)), (q_45, .inr (1, [.int z_31, .int z_32, .int z_33, .int z_34, .int z_35, .int z_36])), (q_46, .inr (1, [.int z_37, .int z_38, .int z_39, .int z_40, .int z_41, .int z_42]))] := hD
  cases rs hf
  have hkc : cells = R.cells := hkc
  have hks : slots = R.slots := hks
  subst hkc; subst hks
  exact hE _ _ _ _ d_Zone_init_102 hP hD hS hK
end
set_option maxHeartbeats 4000000 in
set_option maxRecDepth 100000 in
theorem c_Zone_init (l : Launch) (dC : Nat → ClassId) (dI : Nat → Nat → Nat) (h0 : Nat) (sz : Nat) (nf : Nat) {v1_a : Nat → Int64} {v2_a : Nat → Int32} {v3_a : Nat → Int32} {v4_a : Nat → Int32} {v5_a : Nat → Int32} {v6_a : Nat → Int32} {v7_a : Nat → Int32} {v8_1 : Int32} {v9_n : Nat} {v9_a : Nat → Int32} {v10_a : Nat → Int64} {v11_a : Nat → Int32} {v12_3 : Int32} {v12_4 : Int32} {v12_5 : Int32} {v12_6 : Int32} {v12_7 : Int32} {v12_8 : Int32} {v12_9 : Int32} {v12_10 : Int32} {v12_11 : Int32} {v13_1 : Int32} {v14_n : Nat} {v14_a : Nat → Int32} {v15_0 : Int32} {v15_1 : Int32} {v15_2 : Int32} {v15_3 : Int32} {v15_4 : Int32} {v15_5 : Int32} {v16_0 : Int32} {v16_1 : Int32} {v16_2 : Int32} {v16_3 : Int32} {v16_4 : Int32} {v16_5 : Int32} {kc ks : Nat} (hf : f_Zone_init nf = some ((v1_a, v2_a, v3_a, v4_a, v5_a, v6_a, v7_a, v8_1, v9_n, v9_a, v10_a, v11_a, v12_3, v12_4, v12_5, v12_6, v12_7, v12_8, v12_9, v12_10, v12_11, v13_1, v14_n, v14_a, v15_0, v15_1, v15_2, v15_3, v15_4, v15_5, v16_0, v16_1, v16_2, v16_3, v16_4, v16_5), kc, ks)) : Met l y_Zone_init (wd y_Zone_init b_Zone_init 1 none) ({ frames := 3, cells := kc, slots := ks, locals := 53 }) (MU dC dI [(h0, .inr (8, [.int 0, .int 0, .int 0, .int 0, .int 0, .int 0, .null, .null, .null, .null, .null, .null, .null, .null, .null, .null, .null]))] [] sz [.ref h0]) (MV none (fun t => ∃ (q1 : Nat) (q2 : Nat) (q3 : Nat) (q4 : Nat) (q5 : Nat) (q6 : Nat) (q7 : Nat) (q8 : Nat) (q9 : Nat) (q10 : Nat) (q11 : Nat) (q12 : Nat) (q13 : Nat) (q14 : Nat) (q15 : Nat) (q16 : Nat) (nA1 : ClassId) (nA2 : ClassId) (nA3 : ClassId) (nA4 : ClassId) (nA5 : ClassId) (nA6 : ClassId) (nA7 : ClassId) (nA9 : ClassId) (nA10 : ClassId) (nA11 : ClassId) (nA14 : ClassId), va_P (dC, dI) classes [(h0, .inr (8, [.int 0, .int 0, .int 0, .int 0, .int 0, .int 0, .ref q1, .ref q2, .ref q3, .ref q4, .ref q5, .ref q6, .ref q7, .ref q8, .ref q10, .ref q11, .ref q12])), (q1, .inl (nA1, 200, .inr (.inl v1_a))), (q2, .inl (nA2, 200, .inl v2_a)), (q3, .inl (nA3, 40, .inl v3_a)), (q4, .inl (nA4, 40, .inl v4_a)), (q5, .inl (nA5, 40, .inl v5_a)), (q6, .inl (nA6, 40, .inl v6_a)), (q7, .inl (nA7, 40, .inl v7_a)), (q8, .inr (0, [.ref q9, .int v8_1])), (q9, .inl (nA9, v9_n, .inl v9_a)), (q10, .inl (nA10, 40, .inr (.inl v10_a))), (q11, .inl (nA11, 40, .inl v11_a)), (q12, .inr (5, [.ref q13, .ref q15, .ref q16, .int v12_3, .int v12_4, .int v12_5, .int v12_6, .int v12_7, .int v12_8, .int v12_9, .int v12_10, .int v12_11])), (q13, .inr (0, [.ref q14, .int v13_1])), (q14, .inl (nA14, v14_n, .inl v14_a)), (q15, .inr (1, [.int v15_0, .int v15_1, .int v15_2, .int v15_3, .int v15_4, .int v15_5])), (q16, .inr (1, [.int v16_0, .int v16_1, .int v16_2, .int v16_3, .int v16_4, .int v16_5]))] t.heap ∧ va_K (dC, dI) classes [(nA1, .long), (nA2, .int), (nA3, .int), (nA4, .int), (nA5, .int), (nA6, .int), (nA7, .int), (nA9, .byte), (nA10, .long), (nA11, .int), (nA14, .byte)] t ∧ va_D (va_A [(h0, .inr (8, [.int 0, .int 0, .int 0, .int 0, .int 0, .int 0, .null, .null, .null, .null, .null, .null, .null, .null, .null, .null, .null]))] sz) [(h0, .inr (8, [.int 0, .int 0, .int 0, .int 0, .int 0, .int 0, .ref q1, .ref q2, .ref q3, .ref q4, .ref q5, .ref q6, .ref q7, .ref q8, .ref q10, .ref q11, .ref q12])), (q1, .inl (nA1, 200, .inr (.inl v1_a))), (q2, .inl (nA2, 200, .inl v2_a)), (q3, .inl (nA3, 40, .inl v3_a)), (q4, .inl (nA4, 40, .inl v4_a)), (q5, .inl (nA5, 40, .inl v5_a)), (q6, .inl (nA6, 40, .inl v6_a)), (q7, .inl (nA7, 40, .inl v7_a)), (q8, .inr (0, [.ref q9, .int v8_1])), (q9, .inl (nA9, v9_n, .inl v9_a)), (q10, .inl (nA10, 40, .inr (.inl v10_a))), (q11, .inl (nA11, 40, .inl v11_a)), (q12, .inr (5, [.ref q13, .ref q15, .ref q16, .int v12_3, .int v12_4, .int v12_5, .int v12_6, .int v12_7, .int v12_8, .int v12_9, .int v12_10, .int v12_11])), (q13, .inr (0, [.ref q14, .int v13_1])), (q14, .inl (nA14, v14_n, .inl v14_a)), (q15, .inr (1, [.int v15_0, .int v15_1, .int v15_2, .int v15_3, .int v15_4, .int v15_5])), (q16, .inr (1, [.int v16_0, .int v16_1, .int v16_2, .int v16_3, .int v16_4, .int v16_5]))]) (va_A [(h0, .inr (8, [.int 0, .int 0, .int 0, .int 0, .int 0, .int 0, .null, .null, .null, .null, .null, .null, .null, .null, .null, .null, .null]))] sz)) kc ks (va_A [(h0, .inr (8, [.int 0, .int 0, .int 0, .int 0, .int 0, .int 0, .null, .null, .null, .null, .null, .null, .null, .null, .null, .null, .null]))] sz) :=
  met_M (plainFor_of_name (by decide)) (Nat.le_of_ble_eq_true rfl) (fun p e R s m args below meth c ls hRc hRs hsz hin C0 hST hK hP hD hl => by
    obtain ⟨hx, hb, hr, hml, hown, hts, hlocks, hRf, hRl⟩ := id C0
    subst hRc; subst hRs
    subst hsz
    have hA : ∀ q : Nat, s.heap.size ≤ q → va_A [(h0, .inr (8, [.int 0, .int 0, .int 0, .int 0, .int 0, .int 0, .null, .null, .null, .null, .null, .null, .null, .null, .null, .null, .null]))] s.heap.size q := fun q h => Or.inr h
    have hS : va_S (va_A [(h0, .inr (8, [.int 0, .int 0, .int 0, .int 0, .int 0, .int 0, .null, .null, .null, .null, .null, .null, .null, .null, .null, .null, .null]))] s.heap.size) s.heap s.heap [] := va_S.rf
    have hkc := Nat.zero_add R.cells
    have hks := Nat.zero_add R.slots
    unfold f_Zone_init at hf
    exact k_Zone_init_0 C0 hST hA (hin rfl) (fun pc ls {q1} {q2} {q3} {q4} {q5} {q6} {q7} {q8} {q9} {q10} {q11} {q12} {q13} {q14} {q15} {q16} {nA1} {nA2} {nA3} {nA4} {nA5} {nA6} {nA7} {nA9} {nA10} {nA11} {nA14} H locs hd hP hD hS hK => W.vret hx hb hr (fun t ht hW => ⟨⟨rfl, ⟨q1, q2, q3, q4, q5, q6, q7, q8, q9, q10, q11, q12, q13, q14, q15, q16, nA1, nA2, nA3, nA4, nA5, nA6, nA7, nA9, nA10, nA11, nA14, by rw [ht]; exact hP, va_K.moved hW.alike hK, hD⟩⟩, hS.F ht⟩) hS.2.2 hd) hf hK hP hD hS hkc hks (lv_sub hl [0] rfl))
-- ZoneFiles$LeapTable.<init>()V
def f_LT_init_0 (nf : Nat) : Option (((Nat → Int64) × (Nat → Int64)) × Nat × Nat) :=
  ad 1 60 (ad 1 60 (some (((fun _ => 0), (fun _ => 0)), 0, 0)))
def f_LT_init (nf : Nat) : Option (((Nat → Int64) × (Nat → Int64)) × Nat × Nat) :=
  f_LT_init_0 nf
section
variable {p : Program} {l : Launch} {e : Env} {R : Room} {s : State} {m : MethodId} {args : Array Value} {below : List Frame} {meth : Method} {c : Code} {Q : State → Prop} {dC : Nat → ClassId} {dI : Nat → Nat → Nat} {nf : Nat} {A : Nat → Prop}
variable {h0 : Nat} {v1_a : Nat → Int64} {v2_a : Nat → Int64}
set_option maxHeartbeats 400000 in
set_option maxRecDepth 100000 in
theorem k_LT_init_0 (C0 : Cx p s m meth c args R b_LT_init "ZoneFiles$LeapTable" 1 none 1 12) (hST : ST A s s.heap) (hA : ∀ q, s.heap.size ≤ q → A q) (hin : meth.name = "<init>") (hE : ∀ (pc : Nat) (ls : Array Slot) {q1 : Nat} {q2 : Nat} {nA1 : ClassId} {nA2 : ClassId} (H : Heap) (locs : List Loc), decode b_LT_init pc = .ok (.return_, 1) → va_P (dC, dI) classes [(h0, .inr (4, [.int 0, .ref q1, .ref q2, .long 0])), (q1, .inl (nA1, 60, .inr (.inl v1_a))), (q2, .inl (nA2, 60, .inr (.inl v2_a)))] H → va_D A [(h0, .inr (4, [.int 0, .ref q1, .ref q2, .long 0])), (q1, .inl (nA1, 60, .inr (.inl v1_a))), (q2, .inl (nA2, 60, .inr (.inl v2_a)))] → va_S A s.heap H locs → va_K (dC, dI) classes [(nA1, .long), (nA2, .long)] s → W p l e R s m args below meth c H locs R.cells R.slots Q (F0 m pc ls [])) {kc ks : Nat} (hf : f_LT_init_0 nf = some ((v1_a, v2_a), kc, ks)) {cells slots : Nat} {H : Heap} {locs : List Loc} {ls : Array Slot} (hK : va_K (dC, dI) classes [] s) (hP : va_P (dC, dI) classes [(h0, .inr (4, [.int 0, .null, .null, .long 0]))] H) (hD : va_D A [(h0, .inr (4, [.int 0, .null, .null, .long 0]))]) (hS : va_S A s.heap H locs) (hkc : cells + kc = R.cells) (hks : slots + ks = R.slots) (hl : lv_has ls 1 [(0, .ref h0)]) : W p l e R s m args below meth c H locs cells slots Q (F0 m 0 ls []) := by
  obtain ⟨hx, hb, hr, hml, hown, hts, hlocks, hRf, hRl⟩ := id C0
  obtain ⟨tms, hZms, hTms, tmg, hZmg, hTmg, hNW⟩ := id hST
  unfold f_LT_init_0 at hf
  refine lv_aload_n hx hb d_LT_init_0 rfl (lv_at hl 0 rfl) ?_
  refine W.objInit hx hb hown (hts (.methodLink "ZoneFiles$LeapTable" 3 objectInit) m_2_95) (hts (.instanceMethod objectInit) m_1_29) (hts (.code objectInit ⟨#[0xb1]⟩ 1 none) m_1_30) rfl (by rw [hml]; exact hl.1) rfl d_LT_init_1 (Nat.le_trans (Nat.le_of_ble_eq_true rfl) hRf) (Nat.le_trans (Nat.le_of_ble_eq_true rfl) hRl) ?_
  refine W.eq (g2 := F0 m 4 ls []) rfl ?_
  refine lv_aload_n hx hb d_LT_init_4 rfl (lv_at hl 0 rfl) ?_
  refine lv_bipush (v := 60) hx hb d_LT_init_5 (by decide) ?_
  obtain ⟨kc, ks, hf, ekc, eks⟩ := oa hf
  refine va_newa (atype := .long) (ty := .long) (N' := 60) (a0 := (60, .inr (.inl (fun _ => 0)))) hx hb (hts (.arrayClass .long) m_1_99) rfl hK hP hD hS hA (fun cA => rfl) (by decide) (by decide) (by decide) (cb hkc ekc) (cb hks eks) d_LT_init_7 (fun qn_1 cn_2 H hK hP hD hS => ?_)
  have hP : va_P (dC, dI) classes [(h0, .inr (4, [.int 0, .null, .null, .long 0])), (qn_1, .inl (cn_2, 60, .inr (.inl (fun _ => 0))))] H := hP
  have hD : va_D A [(h0, .inr (4, [.int 0, .null, .null, .long 0])), (qn_1, .inl (cn_2, 60, .inr (.inl (fun _ => 0))))] := hD
  have hK : va_K (dC, dI) classes [(cn_2, .long)] s := hK
  have hkc := ck hkc ekc
  have hks := ck hks eks
  generalize cells + 1 = cells at hkc ⊢
  generalize slots + 60 = slots at hks ⊢
  refine va_putF (D := (dC, dI)) (ci := 4) (v := .ref qn_1) (ty := .array (.long)) (C := RLeapTable) (T := TLeapTable) (N := 4) hx hb hts in_LeapTable tyLeapTable ty_LeapTable nm_LeapTable hown hK hP hD hS 0 rfl rfl 1 (by decide) (hts (.fieldLink "ZoneFiles$LeapTable" 9 "ZoneFiles$LeapTable" "times" "[J") m_2_99) (fun _ h9 => h9) rfl hin rfl (by decide +kernel) rfl rfl (Nat.le_of_ble_eq_true rfl) d_LT_init_9 (fun H locs hP hD hS => ?_)
  have hP : va_P (dC, dI) classes [(h0, .inr (4, [.int 0, .ref qn_1, .null, .long 0])), (qn_1, .inl (cn_2, 60, .inr (.inl (fun _ => 0))))] H := hP
  have hD : va_D A [(h0, .inr (4, [.int 0, .ref qn_1, .null, .long 0])), (qn_1, .inl (cn_2, 60, .inr (.inl (fun _ => 0))))] := hD
  refine lv_aload_n hx hb d_LT_init_12 rfl (lv_at hl 0 rfl) ?_
  refine lv_bipush (v := 60) hx hb d_LT_init_13 (by decide) ?_
  obtain ⟨kc, ks, hf, ekc, eks⟩ := oa hf
  refine va_newa (atype := .long) (ty := .long) (N' := 60) (a0 := (60, .inr (.inl (fun _ => 0)))) hx hb (hts (.arrayClass .long) m_1_99) rfl hK hP hD hS hA (fun cA => rfl) (by decide) (by decide) (by decide) (cb hkc ekc) (cb hks eks) d_LT_init_15 (fun qn_3 cn_4 H hK hP hD hS => ?_)
  have hP : va_P (dC, dI) classes [(h0, .inr (4, [.int 0, .ref qn_1, .null, .long 0])), (qn_1, .inl (cn_2, 60, .inr (.inl (fun _ => 0)))), (qn_3, .inl (cn_4, 60, .inr (.inl (fun _ => 0))))] H := hP
  have hD : va_D A [(h0, .inr (4, [.int 0, .ref qn_1, .null, .long 0])), (qn_1, .inl (cn_2, 60, .inr (.inl (fun _ => 0)))), (qn_3, .inl (cn_4, 60, .inr (.inl (fun _ => 0))))] := hD
  have hK : va_K (dC, dI) classes [(cn_2, .long), (cn_4, .long)] s := hK
  have hkc := ck hkc ekc
  have hks := ck hks eks
  generalize cells + 1 = cells at hkc ⊢
  generalize slots + 60 = slots at hks ⊢
  refine va_putF (D := (dC, dI)) (ci := 4) (v := .ref qn_3) (ty := .array (.long)) (C := RLeapTable) (T := TLeapTable) (N := 4) hx hb hts in_LeapTable tyLeapTable ty_LeapTable nm_LeapTable hown hK hP hD hS 0 rfl rfl 2 (by decide) (hts (.fieldLink "ZoneFiles$LeapTable" 15 "ZoneFiles$LeapTable" "aheads" "[J") m_2_102) (fun _ h9 => h9) rfl hin rfl (by decide +kernel) rfl rfl (Nat.le_of_ble_eq_true rfl) d_LT_init_17 (fun H locs hP hD hS => ?_)
  have hP : va_P (dC, dI) classes [(h0, .inr (4, [.int 0, .ref qn_1, .ref qn_3, .long 0])), (qn_1, .inl (cn_2, 60, .inr (.inl (fun _ => 0)))), (qn_3, .inl (cn_4, 60, .inr (.inl (fun _ => 0))))] H := hP
  have hD : va_D A [(h0, .inr (4, [.int 0, .ref qn_1, .ref qn_3, .long 0])), (qn_1, .inl (cn_2, 60, .inr (.inl (fun _ => 0)))), (qn_3, .inl (cn_4, 60, .inr (.inl (fun _ => 0))))] := hD
  cases rs hf
  have hkc : cells = R.cells := hkc
  have hks : slots = R.slots := hks
  subst hkc; subst hks
  exact hE _ _ _ _ d_LT_init_20 hP hD hS hK
end
set_option maxHeartbeats 400000 in
set_option maxRecDepth 100000 in
theorem c_LT_init (l : Launch) (dC : Nat → ClassId) (dI : Nat → Nat → Nat) (h0 : Nat) (sz : Nat) (nf : Nat) {v1_a : Nat → Int64} {v2_a : Nat → Int64} {kc ks : Nat} (hf : f_LT_init nf = some ((v1_a, v2_a), kc, ks)) : Met l y_LT_init (wd y_LT_init b_LT_init 1 none) ({ frames := 1, cells := kc, slots := ks, locals := 12 }) (MU dC dI [(h0, .inr (4, [.int 0, .null, .null, .long 0]))] [] sz [.ref h0]) (MV none (fun t => ∃ (q1 : Nat) (q2 : Nat) (nA1 : ClassId) (nA2 : ClassId), va_P (dC, dI) classes [(h0, .inr (4, [.int 0, .ref q1, .ref q2, .long 0])), (q1, .inl (nA1, 60, .inr (.inl v1_a))), (q2, .inl (nA2, 60, .inr (.inl v2_a)))] t.heap ∧ va_K (dC, dI) classes [(nA1, .long), (nA2, .long)] t ∧ va_D (va_A [(h0, .inr (4, [.int 0, .null, .null, .long 0]))] sz) [(h0, .inr (4, [.int 0, .ref q1, .ref q2, .long 0])), (q1, .inl (nA1, 60, .inr (.inl v1_a))), (q2, .inl (nA2, 60, .inr (.inl v2_a)))]) (va_A [(h0, .inr (4, [.int 0, .null, .null, .long 0]))] sz)) kc ks (va_A [(h0, .inr (4, [.int 0, .null, .null, .long 0]))] sz) :=
  met_M (plainFor_of_name (by decide)) (Nat.le_of_ble_eq_true rfl) (fun p e R s m args below meth c ls hRc hRs hsz hin C0 hST hK hP hD hl => by
    obtain ⟨hx, hb, hr, hml, hown, hts, hlocks, hRf, hRl⟩ := id C0
    subst hRc; subst hRs
    subst hsz
    have hA : ∀ q : Nat, s.heap.size ≤ q → va_A [(h0, .inr (4, [.int 0, .null, .null, .long 0]))] s.heap.size q := fun q h => Or.inr h
    have hS : va_S (va_A [(h0, .inr (4, [.int 0, .null, .null, .long 0]))] s.heap.size) s.heap s.heap [] := va_S.rf
    have hkc := Nat.zero_add R.cells
    have hks := Nat.zero_add R.slots
    unfold f_LT_init at hf
    exact k_LT_init_0 C0 hST hA (hin rfl) (fun pc ls {q1} {q2} {nA1} {nA2} H locs hd hP hD hS hK => W.vret hx hb hr (fun t ht hW => ⟨⟨rfl, ⟨q1, q2, nA1, nA2, by rw [ht]; exact hP, va_K.moved hW.alike hK, hD⟩⟩, hS.F ht⟩) hS.2.2 hd) hf hK hP hD hS hkc hks (lv_sub hl [0] rfl))
