theorem m_1_1 : Cond.initialized "ZoneFiles" ∈ T0 := tb_1 1 rfl rfl
theorem m_2_201 : Cond.static ⟨"ZoneFiles", "isDigit", "(I)Z"⟩ ∈ T0 := tb_2 201 rfl rfl
theorem m_2_202 : Cond.code ⟨"ZoneFiles", "isDigit", "(I)Z"⟩ prog_1_method_34_code 1 (some .boolean) ∈ T0 := tb_2 202 rfl rfl
theorem m_3_235 : Cond.constantLong "ZoneFiles" 344 (-1152921504606846975) ∈ T0 := tb_3 235 rfl rfl
theorem m_3_236 : Cond.constantLong "ZoneFiles" 346 1152921504606846975 ∈ T0 := tb_3 236 rfl rfl
theorem m_4_22 : Cond.methodLink "ZoneFiles" 350 ⟨"ZoneFiles", "isLetter", "(I)Z"⟩ ∈ T0 := tb_4 22 rfl rfl
theorem m_4_23 : Cond.static ⟨"ZoneFiles", "isLetter", "(I)Z"⟩ ∈ T0 := tb_4 23 rfl rfl
theorem m_4_24 : Cond.code ⟨"ZoneFiles", "isLetter", "(I)Z"⟩ prog_1_method_35_code 1 (some .boolean) ∈ T0 := tb_4 24 rfl rfl
theorem m_4_25 : Cond.methodLink "ZoneFiles" 354 ⟨"ZoneFiles", "isDigit", "(I)Z"⟩ ∈ T0 := tb_4 25 rfl rfl
theorem m_4_163 : Cond.static ⟨"ZoneFiles$Calendar", "yearOf", "(J)J"⟩ ∈ T0 := tb_4 163 rfl rfl
theorem m_4_164 : Cond.code ⟨"ZoneFiles$Calendar", "yearOf", "(J)J"⟩ prog_3_method_4_code 8 (some .long) ∈ T0 := tb_4 164 rfl rfl
theorem m_4_187 : Cond.static ⟨"ZoneFiles$Calendar", "isLongYear", "(J)Z"⟩ ∈ T0 := tb_4 187 rfl rfl
theorem m_4_188 : Cond.code ⟨"ZoneFiles$Calendar", "isLongYear", "(J)Z"⟩ prog_3_method_2_code 2 (some .boolean) ∈ T0 := tb_4 188 rfl rfl
theorem m_5_87 : Cond.methodLink "ZoneFiles" 357 ⟨"ZoneFiles$Calendar", "yearOf", "(J)J"⟩ ∈ T0 := tb_5 87 rfl rfl
theorem m_5_88 : Cond.methodLink "ZoneFiles" 266 ⟨"ZoneFiles$Calendar", "yearStart", "(J)J"⟩ ∈ T0 := tb_5 88 rfl rfl
theorem m_5_89 : Cond.methodLink "ZoneFiles" 254 ⟨"ZoneFiles$Calendar", "isLongYear", "(J)Z"⟩ ∈ T0 := tb_5 89 rfl rfl
theorem m_5_90 : Cond.methodLink "ZoneFiles" 360 ⟨"ZoneFiles$Calendar", "monthOf", "(IZ)I"⟩ ∈ T0 := tb_5 90 rfl rfl
theorem m_5_91 : Cond.static ⟨"ZoneFiles$Calendar", "monthOf", "(IZ)I"⟩ ∈ T0 := tb_5 91 rfl rfl
theorem m_5_92 : Cond.code ⟨"ZoneFiles$Calendar", "monthOf", "(IZ)I"⟩ prog_3_method_7_code 4 (some .int) ∈ T0 := tb_5 92 rfl rfl
theorem m_5_94 : Cond.methodLink "ZoneFiles" 270 ⟨"ZoneFiles$Calendar", "monthStart", "(IZ)I"⟩ ∈ T0 := tb_5 94 rfl rfl
abbrev b_ZF_isInstant : ByteArray := prog_1_method_32_code
def y_ZF_isInstant : MethodName := ⟨"ZoneFiles", "isInstant", "(J)Z"⟩
theorem d_ZF_isInstant_0 : decode b_ZF_isInstant 0 = .ok (.lload_n 0, 1) := by decide +kernel
theorem d_ZF_isInstant_1 : decode b_ZF_isInstant 1 = .ok (.ldc2_w 344, 3) := by decide +kernel
theorem d_ZF_isInstant_4 : decode b_ZF_isInstant 4 = .ok (.lcmp, 1) := by decide +kernel
theorem d_ZF_isInstant_5 : decode b_ZF_isInstant 5 = .ok (.ifCond .lt 15, 3) := by decide +kernel
theorem d_ZF_isInstant_8 : decode b_ZF_isInstant 8 = .ok (.lload_n 0, 1) := by decide +kernel
theorem d_ZF_isInstant_9 : decode b_ZF_isInstant 9 = .ok (.ldc2_w 346, 3) := by decide +kernel
theorem d_ZF_isInstant_12 : decode b_ZF_isInstant 12 = .ok (.lcmp, 1) := by decide +kernel
theorem d_ZF_isInstant_13 : decode b_ZF_isInstant 13 = .ok (.ifCond .gt 7, 3) := by decide +kernel
theorem d_ZF_isInstant_16 : decode b_ZF_isInstant 16 = .ok (.iconst 1, 1) := by decide +kernel
theorem d_ZF_isInstant_17 : decode b_ZF_isInstant 17 = .ok (.goto 4, 3) := by decide +kernel
theorem d_ZF_isInstant_20 : decode b_ZF_isInstant 20 = .ok (.iconst 0, 1) := by decide +kernel
theorem d_ZF_isInstant_21 : decode b_ZF_isInstant 21 = .ok (.ireturn, 1) := by decide +kernel
abbrev b_ZF_isDigit : ByteArray := prog_1_method_34_code
def y_ZF_isDigit : MethodName := ⟨"ZoneFiles", "isDigit", "(I)Z"⟩
theorem d_ZF_isDigit_0 : decode b_ZF_isDigit 0 = .ok (.iload_n 0, 1) := by decide +kernel
theorem d_ZF_isDigit_1 : decode b_ZF_isDigit 1 = .ok (.bipush 48, 2) := by decide +kernel
theorem d_ZF_isDigit_3 : decode b_ZF_isDigit 3 = .ok (.if_icmp .lt 13, 3) := by decide +kernel
theorem d_ZF_isDigit_6 : decode b_ZF_isDigit 6 = .ok (.iload_n 0, 1) := by decide +kernel
theorem d_ZF_isDigit_7 : decode b_ZF_isDigit 7 = .ok (.bipush 57, 2) := by decide +kernel
theorem d_ZF_isDigit_9 : decode b_ZF_isDigit 9 = .ok (.if_icmp .gt 7, 3) := by decide +kernel
theorem d_ZF_isDigit_12 : decode b_ZF_isDigit 12 = .ok (.iconst 1, 1) := by decide +kernel
theorem d_ZF_isDigit_13 : decode b_ZF_isDigit 13 = .ok (.goto 4, 3) := by decide +kernel
theorem d_ZF_isDigit_16 : decode b_ZF_isDigit 16 = .ok (.iconst 0, 1) := by decide +kernel
theorem d_ZF_isDigit_17 : decode b_ZF_isDigit 17 = .ok (.ireturn, 1) := by decide +kernel
abbrev b_ZF_isLetter : ByteArray := prog_1_method_35_code
def y_ZF_isLetter : MethodName := ⟨"ZoneFiles", "isLetter", "(I)Z"⟩
theorem d_ZF_isLetter_0 : decode b_ZF_isLetter 0 = .ok (.iload_n 0, 1) := by decide +kernel
theorem d_ZF_isLetter_1 : decode b_ZF_isLetter 1 = .ok (.bipush 65, 2) := by decide +kernel
theorem d_ZF_isLetter_3 : decode b_ZF_isLetter 3 = .ok (.if_icmp .lt 9, 3) := by decide +kernel
theorem d_ZF_isLetter_6 : decode b_ZF_isLetter 6 = .ok (.iload_n 0, 1) := by decide +kernel
theorem d_ZF_isLetter_7 : decode b_ZF_isLetter 7 = .ok (.bipush 90, 2) := by decide +kernel
theorem d_ZF_isLetter_9 : decode b_ZF_isLetter 9 = .ok (.if_icmp .le 15, 3) := by decide +kernel
theorem d_ZF_isLetter_12 : decode b_ZF_isLetter 12 = .ok (.iload_n 0, 1) := by decide +kernel
theorem d_ZF_isLetter_13 : decode b_ZF_isLetter 13 = .ok (.bipush 97, 2) := by decide +kernel
theorem d_ZF_isLetter_15 : decode b_ZF_isLetter 15 = .ok (.if_icmp .lt 13, 3) := by decide +kernel
theorem d_ZF_isLetter_18 : decode b_ZF_isLetter 18 = .ok (.iload_n 0, 1) := by decide +kernel
theorem d_ZF_isLetter_19 : decode b_ZF_isLetter 19 = .ok (.bipush 122, 2) := by decide +kernel
theorem d_ZF_isLetter_21 : decode b_ZF_isLetter 21 = .ok (.if_icmp .gt 7, 3) := by decide +kernel
theorem d_ZF_isLetter_24 : decode b_ZF_isLetter 24 = .ok (.iconst 1, 1) := by decide +kernel
theorem d_ZF_isLetter_25 : decode b_ZF_isLetter 25 = .ok (.goto 4, 3) := by decide +kernel
theorem d_ZF_isLetter_28 : decode b_ZF_isLetter 28 = .ok (.iconst 0, 1) := by decide +kernel
theorem d_ZF_isLetter_29 : decode b_ZF_isLetter 29 = .ok (.ireturn, 1) := by decide +kernel
abbrev b_ZF_isNameByte : ByteArray := prog_1_method_36_code
def y_ZF_isNameByte : MethodName := ⟨"ZoneFiles", "isNameByte", "(I)Z"⟩
theorem d_ZF_isNameByte_0 : decode b_ZF_isNameByte 0 = .ok (.iload_n 0, 1) := by decide +kernel
theorem d_ZF_isNameByte_1 : decode b_ZF_isNameByte 1 = .ok (.invokestatic 350, 3) := by decide +kernel
theorem d_ZF_isNameByte_4 : decode b_ZF_isNameByte 4 = .ok (.ifCond .ne 22, 3) := by decide +kernel
theorem d_ZF_isNameByte_7 : decode b_ZF_isNameByte 7 = .ok (.iload_n 0, 1) := by decide +kernel
theorem d_ZF_isNameByte_8 : decode b_ZF_isNameByte 8 = .ok (.invokestatic 354, 3) := by decide +kernel
theorem d_ZF_isNameByte_11 : decode b_ZF_isNameByte 11 = .ok (.ifCond .ne 15, 3) := by decide +kernel
theorem d_ZF_isNameByte_14 : decode b_ZF_isNameByte 14 = .ok (.iload_n 0, 1) := by decide +kernel
theorem d_ZF_isNameByte_15 : decode b_ZF_isNameByte 15 = .ok (.bipush 43, 2) := by decide +kernel
theorem d_ZF_isNameByte_17 : decode b_ZF_isNameByte 17 = .ok (.if_icmp .eq 9, 3) := by decide +kernel
theorem d_ZF_isNameByte_20 : decode b_ZF_isNameByte 20 = .ok (.iload_n 0, 1) := by decide +kernel
theorem d_ZF_isNameByte_21 : decode b_ZF_isNameByte 21 = .ok (.bipush 45, 2) := by decide +kernel
theorem d_ZF_isNameByte_23 : decode b_ZF_isNameByte 23 = .ok (.if_icmp .ne 7, 3) := by decide +kernel
theorem d_ZF_isNameByte_26 : decode b_ZF_isNameByte 26 = .ok (.iconst 1, 1) := by decide +kernel
theorem d_ZF_isNameByte_27 : decode b_ZF_isNameByte 27 = .ok (.goto 4, 3) := by decide +kernel
theorem d_ZF_isNameByte_30 : decode b_ZF_isNameByte 30 = .ok (.iconst 0, 1) := by decide +kernel
theorem d_ZF_isNameByte_31 : decode b_ZF_isNameByte 31 = .ok (.ireturn, 1) := by decide +kernel
abbrev b_ZF_dateOf : ByteArray := prog_1_method_37_code
def y_ZF_dateOf : MethodName := ⟨"ZoneFiles", "dateOf", "(JI)J"⟩
theorem d_ZF_dateOf_0 : decode b_ZF_dateOf 0 = .ok (.lload_n 0, 1) := by decide +kernel
theorem d_ZF_dateOf_1 : decode b_ZF_dateOf 1 = .ok (.invokestatic 357, 3) := by decide +kernel
theorem d_ZF_dateOf_4 : decode b_ZF_dateOf 4 = .ok (.lstore_n 3, 1) := by decide +kernel
theorem d_ZF_dateOf_5 : decode b_ZF_dateOf 5 = .ok (.lload_n 0, 1) := by decide +kernel
theorem d_ZF_dateOf_6 : decode b_ZF_dateOf 6 = .ok (.lload_n 3, 1) := by decide +kernel
theorem d_ZF_dateOf_7 : decode b_ZF_dateOf 7 = .ok (.invokestatic 266, 3) := by decide +kernel
theorem d_ZF_dateOf_10 : decode b_ZF_dateOf 10 = .ok (.lsub, 1) := by decide +kernel
theorem d_ZF_dateOf_11 : decode b_ZF_dateOf 11 = .ok (.l2i, 1) := by decide +kernel
theorem d_ZF_dateOf_12 : decode b_ZF_dateOf 12 = .ok (.istore 5, 2) := by decide +kernel
theorem d_ZF_dateOf_14 : decode b_ZF_dateOf 14 = .ok (.lload_n 3, 1) := by decide +kernel
theorem d_ZF_dateOf_15 : decode b_ZF_dateOf 15 = .ok (.invokestatic 254, 3) := by decide +kernel
theorem d_ZF_dateOf_18 : decode b_ZF_dateOf 18 = .ok (.istore 6, 2) := by decide +kernel
theorem d_ZF_dateOf_20 : decode b_ZF_dateOf 20 = .ok (.iload 5, 2) := by decide +kernel
theorem d_ZF_dateOf_22 : decode b_ZF_dateOf 22 = .ok (.iload 6, 2) := by decide +kernel
theorem d_ZF_dateOf_24 : decode b_ZF_dateOf 24 = .ok (.invokestatic 360, 3) := by decide +kernel
theorem d_ZF_dateOf_27 : decode b_ZF_dateOf 27 = .ok (.istore 7, 2) := by decide +kernel
theorem d_ZF_dateOf_29 : decode b_ZF_dateOf 29 = .ok (.iload_n 2, 1) := by decide +kernel
theorem d_ZF_dateOf_30 : decode b_ZF_dateOf 30 = .ok (.tableswitch 46 0 2 #[26, 28, 32], 26) := by decide +kernel
theorem d_ZF_dateOf_56 : decode b_ZF_dateOf 56 = .ok (.lload_n 3, 1) := by decide +kernel
theorem d_ZF_dateOf_57 : decode b_ZF_dateOf 57 = .ok (.lreturn, 1) := by decide +kernel
theorem d_ZF_dateOf_58 : decode b_ZF_dateOf 58 = .ok (.iload 7, 2) := by decide +kernel
theorem d_ZF_dateOf_60 : decode b_ZF_dateOf 60 = .ok (.i2l, 1) := by decide +kernel
theorem d_ZF_dateOf_61 : decode b_ZF_dateOf 61 = .ok (.lreturn, 1) := by decide +kernel
theorem d_ZF_dateOf_62 : decode b_ZF_dateOf 62 = .ok (.iload 5, 2) := by decide +kernel
theorem d_ZF_dateOf_64 : decode b_ZF_dateOf 64 = .ok (.iload 7, 2) := by decide +kernel
theorem d_ZF_dateOf_66 : decode b_ZF_dateOf 66 = .ok (.iload 6, 2) := by decide +kernel
theorem d_ZF_dateOf_68 : decode b_ZF_dateOf 68 = .ok (.invokestatic 270, 3) := by decide +kernel
theorem d_ZF_dateOf_71 : decode b_ZF_dateOf 71 = .ok (.isub, 1) := by decide +kernel
theorem d_ZF_dateOf_72 : decode b_ZF_dateOf 72 = .ok (.iconst 1, 1) := by decide +kernel
theorem d_ZF_dateOf_73 : decode b_ZF_dateOf 73 = .ok (.iadd, 1) := by decide +kernel
theorem d_ZF_dateOf_74 : decode b_ZF_dateOf 74 = .ok (.i2l, 1) := by decide +kernel
theorem d_ZF_dateOf_75 : decode b_ZF_dateOf 75 = .ok (.lreturn, 1) := by decide +kernel
theorem d_ZF_dateOf_76 : decode b_ZF_dateOf 76 = .ok (.iload 5, 2) := by decide +kernel
theorem d_ZF_dateOf_78 : decode b_ZF_dateOf 78 = .ok (.iconst 1, 1) := by decide +kernel
theorem d_ZF_dateOf_79 : decode b_ZF_dateOf 79 = .ok (.iadd, 1) := by decide +kernel
theorem d_ZF_dateOf_80 : decode b_ZF_dateOf 80 = .ok (.i2l, 1) := by decide +kernel
theorem d_ZF_dateOf_81 : decode b_ZF_dateOf 81 = .ok (.lreturn, 1) := by decide +kernel
abbrev b_RP_isSign : ByteArray := prog_10_method_12_code
def y_RP_isSign : MethodName := ⟨"ZoneFiles$RuleParser", "isSign", "(I)Z"⟩
theorem d_RP_isSign_0 : decode b_RP_isSign 0 = .ok (.iload_n 0, 1) := by decide +kernel
theorem d_RP_isSign_1 : decode b_RP_isSign 1 = .ok (.bipush 43, 2) := by decide +kernel
theorem d_RP_isSign_3 : decode b_RP_isSign 3 = .ok (.if_icmp .eq 9, 3) := by decide +kernel
theorem d_RP_isSign_6 : decode b_RP_isSign 6 = .ok (.iload_n 0, 1) := by decide +kernel
theorem d_RP_isSign_7 : decode b_RP_isSign 7 = .ok (.bipush 45, 2) := by decide +kernel
theorem d_RP_isSign_9 : decode b_RP_isSign 9 = .ok (.if_icmp .ne 7, 3) := by decide +kernel
theorem d_RP_isSign_12 : decode b_RP_isSign 12 = .ok (.iconst 1, 1) := by decide +kernel
theorem d_RP_isSign_13 : decode b_RP_isSign 13 = .ok (.goto 4, 3) := by decide +kernel
theorem d_RP_isSign_16 : decode b_RP_isSign 16 = .ok (.iconst 0, 1) := by decide +kernel
theorem d_RP_isSign_17 : decode b_RP_isSign 17 = .ok (.ireturn, 1) := by decide +kernel
abbrev b_TP_isBlank : ByteArray := prog_11_method_13_code
def y_TP_isBlank : MethodName := ⟨"ZoneFiles$TableParser", "isBlank", "(I)Z"⟩
theorem d_TP_isBlank_0 : decode b_TP_isBlank 0 = .ok (.iload_n 0, 1) := by decide +kernel
theorem d_TP_isBlank_1 : decode b_TP_isBlank 1 = .ok (.bipush 32, 2) := by decide +kernel
theorem d_TP_isBlank_3 : decode b_TP_isBlank 3 = .ok (.if_icmp .eq 9, 3) := by decide +kernel
theorem d_TP_isBlank_6 : decode b_TP_isBlank 6 = .ok (.iload_n 0, 1) := by decide +kernel
theorem d_TP_isBlank_7 : decode b_TP_isBlank 7 = .ok (.bipush 9, 2) := by decide +kernel
theorem d_TP_isBlank_9 : decode b_TP_isBlank 9 = .ok (.if_icmp .ne 7, 3) := by decide +kernel
theorem d_TP_isBlank_12 : decode b_TP_isBlank 12 = .ok (.iconst 1, 1) := by decide +kernel
theorem d_TP_isBlank_13 : decode b_TP_isBlank 13 = .ok (.goto 4, 3) := by decide +kernel
theorem d_TP_isBlank_16 : decode b_TP_isBlank 16 = .ok (.iconst 0, 1) := by decide +kernel
theorem d_TP_isBlank_17 : decode b_TP_isBlank 17 = .ok (.ireturn, 1) := by decide +kernel
-- ZoneFiles.isInstant(J)Z
def f_ZF_isInstant_21 (nf : Nat) (s0 : Int32) : Option (Int32) :=
  if s0 = 0 ∨ s0 = 1 then some s0 else none
def f_ZF_isInstant_20 (nf : Nat) : Option (Int32) :=
  f_ZF_isInstant_21 nf 0
def f_ZF_isInstant_0 (nf : Nat) (x0 : Int64) : Option (Int32) :=
  if x0 < (-1152921504606846975 : Int64) then
  f_ZF_isInstant_20 nf
  else
  if (1152921504606846975 : Int64) < x0 then
    f_ZF_isInstant_20 nf
    else
    f_ZF_isInstant_21 nf 1
def f_ZF_isInstant (nf : Nat) (p0 : Int64) : Option (Int32) :=
  f_ZF_isInstant_0 nf p0
section
variable {p : Program} {l : Launch} {e : Env} {R : Room} {s : State} {m : MethodId} {args : Array Value} {below : List Frame} {meth : Method} {c : Code} {Q : State → Prop} {dC : Nat → ClassId} {dI : Nat → Nat → Nat} {nf : Nat}
variable {r0 : Int32}
set_option maxHeartbeats 400000 in
set_option maxRecDepth 100000 in
theorem k_ZF_isInstant_21 (C0 : Cx p s m meth c args R b_ZF_isInstant "ZoneFiles" 2 (some .boolean) 0 0) (hST : ST (fun _ => False) s s.heap) (hK : va_K (dC, dI) classes [] s) (hE : ∀ (pc : Nat) (ls : Array Slot), decode b_ZF_isInstant pc = .ok (.ireturn, 1) → narrow .boolean (.int r0) = .int r0 → W p l e R s m args below meth c s.heap [] 0 0 Q (F0 m pc ls [.int r0])) {s0 : Int32} (hf : f_ZF_isInstant_21 nf s0 = some r0) {ls : Array Slot} (hl : lv_has ls 2 []) : W p l e R s m args below meth c s.heap [] 0 0 Q (F0 m 21 ls [.int s0]) := by
  obtain ⟨hx, hb, hr, hml, hown, hts, hlocks, hRf, hRl⟩ := id C0
  obtain ⟨tms, hZms, hTms, tmg, hZmg, hTmg, hNW⟩ := id hST
  unfold f_ZF_isInstant_21 at hf
  obtain ⟨c_2, hf⟩ := it_g hf
  have e := rs hf
  subst e
  exact hE _ _ d_ZF_isInstant_21 (nb_of c_2)
set_option maxHeartbeats 400000 in
set_option maxRecDepth 100000 in
theorem k_ZF_isInstant_20 (C0 : Cx p s m meth c args R b_ZF_isInstant "ZoneFiles" 2 (some .boolean) 0 0) (hST : ST (fun _ => False) s s.heap) (hK : va_K (dC, dI) classes [] s) (hE : ∀ (pc : Nat) (ls : Array Slot), decode b_ZF_isInstant pc = .ok (.ireturn, 1) → narrow .boolean (.int r0) = .int r0 → W p l e R s m args below meth c s.heap [] 0 0 Q (F0 m pc ls [.int r0])) (hf : f_ZF_isInstant_20 nf = some r0) {ls : Array Slot} (hl : lv_has ls 2 []) : W p l e R s m args below meth c s.heap [] 0 0 Q (F0 m 20 ls []) := by
  obtain ⟨hx, hb, hr, hml, hown, hts, hlocks, hRf, hRl⟩ := id C0
  obtain ⟨tms, hZms, hTms, tmg, hZmg, hTmg, hNW⟩ := id hST
  unfold f_ZF_isInstant_20 at hf
  refine lv_iconst (v := 0) hx hb d_ZF_isInstant_20 (by decide) ?_
  exact k_ZF_isInstant_21 C0 hST hK hE hf (lv_sub hl [] rfl)
set_option maxHeartbeats 400000 in
set_option maxRecDepth 100000 in
theorem k_ZF_isInstant_0 (C0 : Cx p s m meth c args R b_ZF_isInstant "ZoneFiles" 2 (some .boolean) 0 0) (hST : ST (fun _ => False) s s.heap) (hK : va_K (dC, dI) classes [] s) (hE : ∀ (pc : Nat) (ls : Array Slot), decode b_ZF_isInstant pc = .ok (.ireturn, 1) → narrow .boolean (.int r0) = .int r0 → W p l e R s m args below meth c s.heap [] 0 0 Q (F0 m pc ls [.int r0])) {x0 : Int64} (hf : f_ZF_isInstant_0 nf x0 = some r0) {ls : Array Slot} (hl : lv_has ls 2 [(0, .long x0)]) : W p l e R s m args below meth c s.heap [] 0 0 Q (F0 m 0 ls []) := by
  obtain ⟨hx, hb, hr, hml, hown, hts, hlocks, hRf, hRl⟩ := id C0
  obtain ⟨tms, hZms, hTms, tmg, hZmg, hTmg, hNW⟩ := id hST
  unfold f_ZF_isInstant_0 at hf
  refine lv_lload_n hx hb d_ZF_isInstant_0 rfl (lv_at hl 0 rfl) ?_
  refine lv_ldc2 (v := (-1152921504606846975)) hx hb hown (hts (.constantLong "ZoneFiles" 344 (-1152921504606846975)) m_3_235) d_ZF_isInstant_1 ?_
  refine lc_lt (tgt := 20) hx hb d_ZF_isInstant_4 d_ZF_isInstant_5 (by decide) (fun c_1 => ?_) (fun c_1 => ?_)
  · have hf := it_t c_1 hf
    exact k_ZF_isInstant_20 C0 hST hK hE hf (lv_sub hl [] rfl)
  · have hf := it_f c_1 hf
    refine lv_lload_n hx hb d_ZF_isInstant_8 rfl (lv_at hl 0 rfl) ?_
    refine lv_ldc2 (v := 1152921504606846975) hx hb hown (hts (.constantLong "ZoneFiles" 346 1152921504606846975) m_3_236) d_ZF_isInstant_9 ?_
    refine lc_gt (tgt := 20) hx hb d_ZF_isInstant_12 d_ZF_isInstant_13 (by decide) (fun c_3 => ?_) (fun c_3 => ?_)
    · have hf := it_t c_3 hf
      exact k_ZF_isInstant_20 C0 hST hK hE hf (lv_sub hl [] rfl)
    · have hf := it_f c_3 hf
      refine lv_iconst (v := 1) hx hb d_ZF_isInstant_16 (by decide) ?_
      refine lv_goto (tgt := 21) hx hb d_ZF_isInstant_17 (by decide) ?_
      exact k_ZF_isInstant_21 C0 hST hK hE hf (lv_sub hl [] rfl)
end
set_option maxHeartbeats 400000 in
set_option maxRecDepth 100000 in
theorem c_ZF_isInstant (l : Launch) (dC : Nat → ClassId) (dI : Nat → Nat → Nat) (nf : Nat) (p0 : Int64) {r0 : Int32} (hf : f_ZF_isInstant nf p0 = some r0) : Met l y_ZF_isInstant (wd y_ZF_isInstant b_ZF_isInstant 2 (some .boolean)) ({ frames := 0, cells := 0, slots := 0, locals := 0 }) (RO dC dI [] [] [.long p0]) (SV (some (.int r0))) 0 0 (fun _ => False) :=
  met_S (plainFor_of_name (by decide)) (Nat.le_of_ble_eq_true rfl) (fun p e R s m args below meth c ls C0 hST hK hP hl => by
    obtain ⟨hx, hb, hr, hml, hown, hts, hlocks, hRf, hRl⟩ := id C0
    unfold f_ZF_isInstant at hf
    exact k_ZF_isInstant_0 C0 hST hK (fun pc ls hd hn => W.zret hx hb hr hn (fun t ht hW => ⟨rfl, ht⟩) (fun q h => by cases h) hd) hf (lv_sub hl [0] rfl))
-- ZoneFiles.isDigit(I)Z
def f_ZF_isDigit_17 (nf : Nat) (s0 : Int32) : Option (Int32) :=
  if s0 = 0 ∨ s0 = 1 then some s0 else none
def f_ZF_isDigit_16 (nf : Nat) : Option (Int32) :=
  f_ZF_isDigit_17 nf 0
def f_ZF_isDigit_0 (nf : Nat) (x0 : Int32) : Option (Int32) :=
  if x0 < (48 : Int32) then
  f_ZF_isDigit_16 nf
  else
  if (57 : Int32) < x0 then
    f_ZF_isDigit_16 nf
    else
    f_ZF_isDigit_17 nf 1
def f_ZF_isDigit (nf : Nat) (p0 : Int32) : Option (Int32) :=
  f_ZF_isDigit_0 nf p0
section
variable {p : Program} {l : Launch} {e : Env} {R : Room} {s : State} {m : MethodId} {args : Array Value} {below : List Frame} {meth : Method} {c : Code} {Q : State → Prop} {dC : Nat → ClassId} {dI : Nat → Nat → Nat} {nf : Nat}
variable {r0 : Int32}
set_option maxHeartbeats 400000 in
set_option maxRecDepth 100000 in
theorem k_ZF_isDigit_17 (C0 : Cx p s m meth c args R b_ZF_isDigit "ZoneFiles" 1 (some .boolean) 0 0) (hST : ST (fun _ => False) s s.heap) (hK : va_K (dC, dI) classes [] s) (hE : ∀ (pc : Nat) (ls : Array Slot), decode b_ZF_isDigit pc = .ok (.ireturn, 1) → narrow .boolean (.int r0) = .int r0 → W p l e R s m args below meth c s.heap [] 0 0 Q (F0 m pc ls [.int r0])) {s0 : Int32} (hf : f_ZF_isDigit_17 nf s0 = some r0) {ls : Array Slot} (hl : lv_has ls 1 []) : W p l e R s m args below meth c s.heap [] 0 0 Q (F0 m 17 ls [.int s0]) := by
  obtain ⟨hx, hb, hr, hml, hown, hts, hlocks, hRf, hRl⟩ := id C0
  obtain ⟨tms, hZms, hTms, tmg, hZmg, hTmg, hNW⟩ := id hST
  unfold f_ZF_isDigit_17 at hf
  obtain ⟨c_2, hf⟩ := it_g hf
  have e := rs hf
  subst e
  exact hE _ _ d_ZF_isDigit_17 (nb_of c_2)
set_option maxHeartbeats 400000 in
set_option maxRecDepth 100000 in
theorem k_ZF_isDigit_16 (C0 : Cx p s m meth c args R b_ZF_isDigit "ZoneFiles" 1 (some .boolean) 0 0) (hST : ST (fun _ => False) s s.heap) (hK : va_K (dC, dI) classes [] s) (hE : ∀ (pc : Nat) (ls : Array Slot), decode b_ZF_isDigit pc = .ok (.ireturn, 1) → narrow .boolean (.int r0) = .int r0 → W p l e R s m args below meth c s.heap [] 0 0 Q (F0 m pc ls [.int r0])) (hf : f_ZF_isDigit_16 nf = some r0) {ls : Array Slot} (hl : lv_has ls 1 []) : W p l e R s m args below meth c s.heap [] 0 0 Q (F0 m 16 ls []) := by
  obtain ⟨hx, hb, hr, hml, hown, hts, hlocks, hRf, hRl⟩ := id C0
  obtain ⟨tms, hZms, hTms, tmg, hZmg, hTmg, hNW⟩ := id hST
  unfold f_ZF_isDigit_16 at hf
  refine lv_iconst (v := 0) hx hb d_ZF_isDigit_16 (by decide) ?_
  exact k_ZF_isDigit_17 C0 hST hK hE hf (lv_sub hl [] rfl)
set_option maxHeartbeats 400000 in
set_option maxRecDepth 100000 in
theorem k_ZF_isDigit_0 (C0 : Cx p s m meth c args R b_ZF_isDigit "ZoneFiles" 1 (some .boolean) 0 0) (hST : ST (fun _ => False) s s.heap) (hK : va_K (dC, dI) classes [] s) (hE : ∀ (pc : Nat) (ls : Array Slot), decode b_ZF_isDigit pc = .ok (.ireturn, 1) → narrow .boolean (.int r0) = .int r0 → W p l e R s m args below meth c s.heap [] 0 0 Q (F0 m pc ls [.int r0])) {x0 : Int32} (hf : f_ZF_isDigit_0 nf x0 = some r0) {ls : Array Slot} (hl : lv_has ls 1 [(0, .int x0)]) : W p l e R s m args below meth c s.heap [] 0 0 Q (F0 m 0 ls []) := by
  obtain ⟨hx, hb, hr, hml, hown, hts, hlocks, hRf, hRl⟩ := id C0
  obtain ⟨tms, hZms, hTms, tmg, hZmg, hTmg, hNW⟩ := id hST
  unfold f_ZF_isDigit_0 at hf
  refine lv_iload_n hx hb d_ZF_isDigit_0 rfl (lv_at hl 0 rfl) ?_
  refine lv_bipush (v := 48) hx hb d_ZF_isDigit_1 (by decide) ?_
  refine lv_icmp_lt (tgt := 16) hx hb d_ZF_isDigit_3 (by decide) (fun c_1 => ?_) (fun c_1 => ?_)
  · have hf := it_t c_1 hf
    exact k_ZF_isDigit_16 C0 hST hK hE hf (lv_sub hl [] rfl)
  · have hf := it_f c_1 hf
    refine lv_iload_n hx hb d_ZF_isDigit_6 rfl (lv_at hl 0 rfl) ?_
    refine lv_bipush (v := 57) hx hb d_ZF_isDigit_7 (by decide) ?_
    refine lv_icmp_gt (tgt := 16) hx hb d_ZF_isDigit_9 (by decide) (fun c_3 => ?_) (fun c_3 => ?_)
    · have hf := it_t c_3 hf
      exact k_ZF_isDigit_16 C0 hST hK hE hf (lv_sub hl [] rfl)
    · have hf := it_f c_3 hf
      refine lv_iconst (v := 1) hx hb d_ZF_isDigit_12 (by decide) ?_
      refine lv_goto (tgt := 17) hx hb d_ZF_isDigit_13 (by decide) ?_
      exact k_ZF_isDigit_17 C0 hST hK hE hf (lv_sub hl [] rfl)
end
set_option maxHeartbeats 400000 in
set_option maxRecDepth 100000 in
theorem c_ZF_isDigit (l : Launch) (dC : Nat → ClassId) (dI : Nat → Nat → Nat) (nf : Nat) (p0 : Int32) {r0 : Int32} (hf : f_ZF_isDigit nf p0 = some r0) : Met l y_ZF_isDigit (wd y_ZF_isDigit b_ZF_isDigit 1 (some .boolean)) ({ frames := 0, cells := 0, slots := 0, locals := 0 }) (RO dC dI [] [] [.int p0]) (SV (some (.int r0))) 0 0 (fun _ => False) :=
  met_S (plainFor_of_name (by decide)) (Nat.le_of_ble_eq_true rfl) (fun p e R s m args below meth c ls C0 hST hK hP hl => by
    obtain ⟨hx, hb, hr, hml, hown, hts, hlocks, hRf, hRl⟩ := id C0
    unfold f_ZF_isDigit at hf
    exact k_ZF_isDigit_0 C0 hST hK (fun pc ls hd hn => W.zret hx hb hr hn (fun t ht hW => ⟨rfl, ht⟩) (fun q h => by cases h) hd) hf (lv_sub hl [0] rfl))
-- ZoneFiles.isLetter(I)Z
def f_ZF_isLetter_29 (nf : Nat) (s0 : Int32) : Option (Int32) :=
  if s0 = 0 ∨ s0 = 1 then some s0 else none
def f_ZF_isLetter_28 (nf : Nat) : Option (Int32) :=
  f_ZF_isLetter_29 nf 0
def f_ZF_isLetter_24 (nf : Nat) : Option (Int32) :=
  f_ZF_isLetter_29 nf 1
def f_ZF_isLetter_12 (nf : Nat) (x0 : Int32) : Option (Int32) :=
  if x0 < (97 : Int32) then
  f_ZF_isLetter_28 nf
  else
  if (122 : Int32) < x0 then
    f_ZF_isLetter_28 nf
    else
    f_ZF_isLetter_24 nf
def f_ZF_isLetter_0 (nf : Nat) (x0 : Int32) : Option (Int32) :=
  if x0 < (65 : Int32) then
  f_ZF_isLetter_12 nf x0
  else
  if x0 ≤ (90 : Int32) then
    f_ZF_isLetter_24 nf
    else
    f_ZF_isLetter_12 nf x0
def f_ZF_isLetter (nf : Nat) (p0 : Int32) : Option (Int32) :=
  f_ZF_isLetter_0 nf p0
section
variable {p : Program} {l : Launch} {e : Env} {R : Room} {s : State} {m : MethodId} {args : Array Value} {below : List Frame} {meth : Method} {c : Code} {Q : State → Prop} {dC : Nat → ClassId} {dI : Nat → Nat → Nat} {nf : Nat}
variable {r0 : Int32}
set_option maxHeartbeats 400000 in
set_option maxRecDepth 100000 in
theorem k_ZF_isLetter_29 (C0 : Cx p s m meth c args R b_ZF_isLetter "ZoneFiles" 1 (some .boolean) 0 0) (hST : ST (fun _ => False) s s.heap) (hK : va_K (dC, dI) classes [] s) (hE : ∀ (pc : Nat) (ls : Array Slot), decode b_ZF_isLetter pc = .ok (.ireturn, 1) → narrow .boolean (.int r0) = .int r0 → W p l e R s m args below meth c s.heap [] 0 0 Q (F0 m pc ls [.int r0])) {s0 : Int32} (hf : f_ZF_isLetter_29 nf s0 = some r0) {ls : Array Slot} (hl : lv_has ls 1 []) : W p l e R s m args below meth c s.heap [] 0 0 Q (F0 m 29 ls [.int s0]) := by
  obtain ⟨hx, hb, hr, hml, hown, hts, hlocks, hRf, hRl⟩ := id C0
  obtain ⟨tms, hZms, hTms, tmg, hZmg, hTmg, hNW⟩ := id hST
  unfold f_ZF_isLetter_29 at hf
  obtain ⟨c_3, hf⟩ := it_g hf
  have e := rs hf
  subst e
  exact hE _ _ d_ZF_isLetter_29 (nb_of c_3)
set_option maxHeartbeats 400000 in
set_option maxRecDepth 100000 in
theorem k_ZF_isLetter_28 (C0 : Cx p s m meth c args R b_ZF_isLetter "ZoneFiles" 1 (some .boolean) 0 0) (hST : ST (fun _ => False) s s.heap) (hK : va_K (dC, dI) classes [] s) (hE : ∀ (pc : Nat) (ls : Array Slot), decode b_ZF_isLetter pc = .ok (.ireturn, 1) → narrow .boolean (.int r0) = .int r0 → W p l e R s m args below meth c s.heap [] 0 0 Q (F0 m pc ls [.int r0])) (hf : f_ZF_isLetter_28 nf = some r0) {ls : Array Slot} (hl : lv_has ls 1 []) : W p l e R s m args below meth c s.heap [] 0 0 Q (F0 m 28 ls []) := by
  obtain ⟨hx, hb, hr, hml, hown, hts, hlocks, hRf, hRl⟩ := id C0
  obtain ⟨tms, hZms, hTms, tmg, hZmg, hTmg, hNW⟩ := id hST
  unfold f_ZF_isLetter_28 at hf
  refine lv_iconst (v := 0) hx hb d_ZF_isLetter_28 (by decide) ?_
  exact k_ZF_isLetter_29 C0 hST hK hE hf (lv_sub hl [] rfl)
set_option maxHeartbeats 400000 in
set_option maxRecDepth 100000 in
theorem k_ZF_isLetter_24 (C0 : Cx p s m meth c args R b_ZF_isLetter "ZoneFiles" 1 (some .boolean) 0 0) (hST : ST (fun _ => False) s s.heap) (hK : va_K (dC, dI) classes [] s) (hE : ∀ (pc : Nat) (ls : Array Slot), decode b_ZF_isLetter pc = .ok (.ireturn, 1) → narrow .boolean (.int r0) = .int r0 → W p l e R s m args below meth c s.heap [] 0 0 Q (F0 m pc ls [.int r0])) (hf : f_ZF_isLetter_24 nf = some r0) {ls : Array Slot} (hl : lv_has ls 1 []) : W p l e R s m args below meth c s.heap [] 0 0 Q (F0 m 24 ls []) := by
  obtain ⟨hx, hb, hr, hml, hown, hts, hlocks, hRf, hRl⟩ := id C0
  obtain ⟨tms, hZms, hTms, tmg, hZmg, hTmg, hNW⟩ := id hST
  unfold f_ZF_isLetter_24 at hf
  refine lv_iconst (v := 1) hx hb d_ZF_isLetter_24 (by decide) ?_
  refine lv_goto (tgt := 29) hx hb d_ZF_isLetter_25 (by decide) ?_
  exact k_ZF_isLetter_29 C0 hST hK hE hf (lv_sub hl [] rfl)
set_option maxHeartbeats 400000 in
set_option maxRecDepth 100000 in
theorem k_ZF_isLetter_12 (C0 : Cx p s m meth c args R b_ZF_isLetter "ZoneFiles" 1 (some .boolean) 0 0) (hST : ST (fun _ => False) s s.heap) (hK : va_K (dC, dI) classes [] s) (hE : ∀ (pc : Nat) (ls : Array Slot), decode b_ZF_isLetter pc = .ok (.ireturn, 1) → narrow .boolean (.int r0) = .int r0 → W p l e R s m args below meth c s.heap [] 0 0 Q (F0 m pc ls [.int r0])) {x0 : Int32} (hf : f_ZF_isLetter_12 nf x0 = some r0) {ls : Array Slot} (hl : lv_has ls 1 [(0, .int x0)]) : W p l e R s m args below meth c s.heap [] 0 0 Q (F0 m 12 ls []) := by
  obtain ⟨hx, hb, hr, hml, hown, hts, hlocks, hRf, hRl⟩ := id C0
  obtain ⟨tms, hZms, hTms, tmg, hZmg, hTmg, hNW⟩ := id hST
  unfold f_ZF_isLetter_12 at hf
  refine lv_iload_n hx hb d_ZF_isLetter_12 rfl (lv_at hl 0 rfl) ?_
  refine lv_bipush (v := 97) hx hb d_ZF_isLetter_13 (by decide) ?_
  refine lv_icmp_lt (tgt := 28) hx hb d_ZF_isLetter_15 (by decide) (fun c_2 => ?_) (fun c_2 => ?_)
  · have hf := it_t c_2 hf
    exact k_ZF_isLetter_28 C0 hST hK hE hf (lv_sub hl [] rfl)
  · have hf := it_f c_2 hf
    refine lv_iload_n hx hb d_ZF_isLetter_18 rfl (lv_at hl 0 rfl) ?_
    refine lv_bipush (v := 122) hx hb d_ZF_isLetter_19 (by decide) ?_
    refine lv_icmp_gt (tgt := 28) hx hb d_ZF_isLetter_21 (by decide) (fun c_4 => ?_) (fun c_4 => ?_)
    · have hf := it_t c_4 hf
      exact k_ZF_isLetter_28 C0 hST hK hE hf (lv_sub hl [] rfl)
    · have hf := it_f c_4 hf
      exact k_ZF_isLetter_24 C0 hST hK hE hf (lv_sub hl [] rfl)
set_option maxHeartbeats 400000 in
set_option maxRecDepth 100000 in
theorem k_ZF_isLetter_0 (C0 : Cx p s m meth c args R b_ZF_isLetter "ZoneFiles" 1 (some .boolean) 0 0) (hST : ST (fun _ => False) s s.heap) (hK : va_K (dC, dI) classes [] s) (hE : ∀ (pc : Nat) (ls : Array Slot), decode b_ZF_isLetter pc = .ok (.ireturn, 1) → narrow .boolean (.int r0) = .int r0 → W p l e R s m args below meth c s.heap [] 0 0 Q (F0 m pc ls [.int r0])) {x0 : Int32} (hf : f_ZF_isLetter_0 nf x0 = some r0) {ls : Array Slot} (hl : lv_has ls 1 [(0, .int x0)]) : W p l e R s m args below meth c s.heap [] 0 0 Q (F0 m 0 ls []) := by
  obtain ⟨hx, hb, hr, hml, hown, hts, hlocks, hRf, hRl⟩ := id C0
  obtain ⟨tms, hZms, hTms, tmg, hZmg, hTmg, hNW⟩ := id hST
  unfold f_ZF_isLetter_0 at hf
  refine lv_iload_n hx hb d_ZF_isLetter_0 rfl (lv_at hl 0 rfl) ?_
  refine lv_bipush (v := 65) hx hb d_ZF_isLetter_1 (by decide) ?_
  refine lv_icmp_lt (tgt := 12) hx hb d_ZF_isLetter_3 (by decide) (fun c_1 => ?_) (fun c_1 => ?_)
  · have hf := it_t c_1 hf
    exact k_ZF_isLetter_12 C0 hST hK hE hf (lv_sub hl [0] rfl)
  · have hf := it_f c_1 hf
    refine lv_iload_n hx hb d_ZF_isLetter_6 rfl (lv_at hl 0 rfl) ?_
    refine lv_bipush (v := 90) hx hb d_ZF_isLetter_7 (by decide) ?_
    refine lv_icmp_le (tgt := 24) hx hb d_ZF_isLetter_9 (by decide) (fun c_5 => ?_) (fun c_5 => ?_)
    · have hf := it_t c_5 hf
      exact k_ZF_isLetter_24 C0 hST hK hE hf (lv_sub hl [] rfl)
    · have hf := it_f c_5 hf
      exact k_ZF_isLetter_12 C0 hST hK hE hf (lv_sub hl [0] rfl)
end
set_option maxHeartbeats 400000 in
set_option maxRecDepth 100000 in
theorem c_ZF_isLetter (l : Launch) (dC : Nat → ClassId) (dI : Nat → Nat → Nat) (nf : Nat) (p0 : Int32) {r0 : Int32} (hf : f_ZF_isLetter nf p0 = some r0) : Met l y_ZF_isLetter (wd y_ZF_isLetter b_ZF_isLetter 1 (some .boolean)) ({ frames := 0, cells := 0, slots := 0, locals := 0 }) (RO dC dI [] [] [.int p0]) (SV (some (.int r0))) 0 0 (fun _ => False) :=
  met_S (plainFor_of_name (by decide)) (Nat.le_of_ble_eq_true rfl) (fun p e R s m args below meth c ls C0 hST hK hP hl => by
    obtain ⟨hx, hb, hr, hml, hown, hts, hlocks, hRf, hRl⟩ := id C0
    unfold f_ZF_isLetter at hf
    exact k_ZF_isLetter_0 C0 hST hK (fun pc ls hd hn => W.zret hx hb hr hn (fun t ht hW => ⟨rfl, ht⟩) (fun q h => by cases h) hd) hf (lv_sub hl [0] rfl))
-- ZoneFiles.isNameByte(I)Z
def f_ZF_isNameByte_31 (nf : Nat) (s0 : Int32) : Option (Int32) :=
  if s0 = 0 ∨ s0 = 1 then some s0 else none
def f_ZF_isNameByte_26 (nf : Nat) : Option (Int32) :=
  f_ZF_isNameByte_31 nf 1
def f_ZF_isNameByte_0 (nf : Nat) (x0 : Int32) : Option (Int32) :=
  (f_ZF_isLetter nf x0).bind fun r_1 =>
  if r_1 = 0 then
  (f_ZF_isDigit nf x0).bind fun r_4 =>
    if r_4 = 0 then
    if x0 = (43 : Int32) then
      f_ZF_isNameByte_26 nf
      else
      if x0 = (45 : Int32) then
        f_ZF_isNameByte_26 nf
        else
        f_ZF_isNameByte_31 nf 0
    else
    f_ZF_isNameByte_26 nf
  else
  f_ZF_isNameByte_26 nf
def f_ZF_isNameByte (nf : Nat) (p0 : Int32) : Option (Int32) :=
  f_ZF_isNameByte_0 nf p0
section
variable {p : Program} {l : Launch} {e : Env} {R : Room} {s : State} {m : MethodId} {args : Array Value} {below : List Frame} {meth : Method} {c : Code} {Q : State → Prop} {dC : Nat → ClassId} {dI : Nat → Nat → Nat} {nf : Nat}
variable {r0 : Int32}
set_option maxHeartbeats 400000 in
set_option maxRecDepth 100000 in
theorem k_ZF_isNameByte_31 (C0 : Cx p s m meth c args R b_ZF_isNameByte "ZoneFiles" 1 (some .boolean) 1 20) (hST : ST (fun _ => False) s s.heap) (hK : va_K (dC, dI) classes [] s) (hE : ∀ (pc : Nat) (ls : Array Slot), decode b_ZF_isNameByte pc = .ok (.ireturn, 1) → narrow .boolean (.int r0) = .int r0 → W p l e R s m args below meth c s.heap [] 0 0 Q (F0 m pc ls [.int r0])) {s0 : Int32} (hf : f_ZF_isNameByte_31 nf s0 = some r0) {ls : Array Slot} (hl : lv_has ls 1 []) : W p l e R s m args below meth c s.heap [] 0 0 Q (F0 m 31 ls [.int s0]) := by
  obtain ⟨hx, hb, hr, hml, hown, hts, hlocks, hRf, hRl⟩ := id C0
  obtain ⟨tms, hZms, hTms, tmg, hZmg, hTmg, hNW⟩ := id hST
  unfold f_ZF_isNameByte_31 at hf
  obtain ⟨c_3, hf⟩ := it_g hf
  have e := rs hf
  subst e
  exact hE _ _ d_ZF_isNameByte_31 (nb_of c_3)
set_option maxHeartbeats 400000 in
set_option maxRecDepth 100000 in
theorem k_ZF_isNameByte_26 (C0 : Cx p s m meth c args R b_ZF_isNameByte "ZoneFiles" 1 (some .boolean) 1 20) (hST : ST (fun _ => False) s s.heap) (hK : va_K (dC, dI) classes [] s) (hE : ∀ (pc : Nat) (ls : Array Slot), decode b_ZF_isNameByte pc = .ok (.ireturn, 1) → narrow .boolean (.int r0) = .int r0 → W p l e R s m args below meth c s.heap [] 0 0 Q (F0 m pc ls [.int r0])) (hf : f_ZF_isNameByte_26 nf = some r0) {ls : Array Slot} (hl : lv_has ls 1 []) : W p l e R s m args below meth c s.heap [] 0 0 Q (F0 m 26 ls []) := by
  obtain ⟨hx, hb, hr, hml, hown, hts, hlocks, hRf, hRl⟩ := id C0
  obtain ⟨tms, hZms, hTms, tmg, hZmg, hTmg, hNW⟩ := id hST
  unfold f_ZF_isNameByte_26 at hf
  refine lv_iconst (v := 1) hx hb d_ZF_isNameByte_26 (by decide) ?_
  refine lv_goto (tgt := 31) hx hb d_ZF_isNameByte_27 (by decide) ?_
  exact k_ZF_isNameByte_31 C0 hST hK hE hf (lv_sub hl [] rfl)
set_option maxHeartbeats 400000 in
set_option maxRecDepth 100000 in
theorem k_ZF_isNameByte_0 (C0 : Cx p s m meth c args R b_ZF_isNameByte "ZoneFiles" 1 (some .boolean) 1 20) (hST : ST (fun _ => False) s s.heap) (hK : va_K (dC, dI) classes [] s) (hE : ∀ (pc : Nat) (ls : Array Slot), decode b_ZF_isNameByte pc = .ok (.ireturn, 1) → narrow .boolean (.int r0) = .int r0 → W p l e R s m args below meth c s.heap [] 0 0 Q (F0 m pc ls [.int r0])) {x0 : Int32} (hf : f_ZF_isNameByte_0 nf x0 = some r0) {ls : Array Slot} (hl : lv_has ls 1 [(0, .int x0)]) : W p l e R s m args below meth c s.heap [] 0 0 Q (F0 m 0 ls []) := by
  obtain ⟨hx, hb, hr, hml, hown, hts, hlocks, hRf, hRl⟩ := id C0
  obtain ⟨tms, hZms, hTms, tmg, hZmg, hTmg, hNW⟩ := id hST
  unfold f_ZF_isNameByte_0 at hf
  refine lv_iload_n hx hb d_ZF_isNameByte_0 rfl (lv_at hl 0 rfl) ?_
  obtain ⟨r_1, hc, hf⟩ := ob hf
  refine cl_S (v := (some (.int r_1))) (st1 := [.int r_1]) (va_runS (As := [.int x0]) (rest := []) ⟨hx, hb, hml, hown, hts⟩ (c_ZF_isLetter l dC dI nf x0 hc) (va_cwS 1 hts (gdS m_4_22 m_4_23 m_1_1 m_4_24) rfl rfl rfl (by decide +kernel) ⟨Nat.le_trans (Nat.le_of_ble_eq_true rfl) hRf, Nat.le_trans (Nat.le_of_ble_eq_true rfl) hRl⟩) (RO.pre0 hK hST).sta rfl rfl hl.1 rfl (lv_room (Nat.le_of_ble_eq_true rfl)) d_ZF_isNameByte_1 ⟨Nat.zero_le _, Nat.zero_le _⟩) rfl ?_
  refine lv_if_ne (tgt := 26) hx hb d_ZF_isNameByte_4 (by decide) (fun c_2 => ?_) (fun c_2 => ?_)
  · have hf := it_f c_2 hf
    exact k_ZF_isNameByte_26 C0 hST hK hE hf (lv_sub hl [] rfl)
  · have hf := it_t c_2 hf
    refine lv_iload_n hx hb d_ZF_isNameByte_7 rfl (lv_at hl 0 rfl) ?_
    obtain ⟨r_4, hc, hf⟩ := ob hf
    refine cl_S (v := (some (.int r_4))) (st1 := [.int r_4]) (va_runS (As := [.int x0]) (rest := []) ⟨hx, hb, hml, hown, hts⟩ (c_ZF_isDigit l dC dI nf x0 hc) (va_cwS 1 hts (gdS m_4_25 m_2_201 m_1_1 m_2_202) rfl rfl rfl (by decide +kernel) ⟨Nat.le_trans (Nat.le_of_ble_eq_true rfl) hRf, Nat.le_trans (Nat.le_of_ble_eq_true rfl) hRl⟩) (RO.pre0 hK hST).sta rfl rfl hl.1 rfl (lv_room (Nat.le_of_ble_eq_true rfl)) d_ZF_isNameByte_8 ⟨Nat.zero_le _, Nat.zero_le _⟩) rfl ?_
    refine lv_if_ne (tgt := 26) hx hb d_ZF_isNameByte_11 (by decide) (fun c_5 => ?_) (fun c_5 => ?_)
    · have hf := it_f c_5 hf
      exact k_ZF_isNameByte_26 C0 hST hK hE hf (lv_sub hl [] rfl)
    · have hf := it_t c_5 hf
      refine lv_iload_n hx hb d_ZF_isNameByte_14 rfl (lv_at hl 0 rfl) ?_
      refine lv_bipush (v := 43) hx hb d_ZF_isNameByte_15 (by decide) ?_
      refine lv_icmp_eq (tgt := 26) hx hb d_ZF_isNameByte_17 (by decide) (fun c_6 => ?_) (fun c_6 => ?_)
      · have hf := it_t c_6 hf
        exact k_ZF_isNameByte_26 C0 hST hK hE hf (lv_sub hl [] rfl)
      · have hf := it_f c_6 hf
        refine lv_iload_n hx hb d_ZF_isNameByte_20 rfl (lv_at hl 0 rfl) ?_
        refine lv_bipush (v := 45) hx hb d_ZF_isNameByte_21 (by decide) ?_
        refine lv_icmp_ne (tgt := 30) hx hb d_ZF_isNameByte_23 (by decide) (fun c_7 => ?_) (fun c_7 => ?_)
        · have hf := it_f c_7 hf
          refine lv_iconst (v := 0) hx hb d_ZF_isNameByte_30 (by decide) ?_
          exact k_ZF_isNameByte_31 C0 hST hK hE hf (lv_sub hl [] rfl)
        · have hf := it_t c_7 hf
          exact k_ZF_isNameByte_26 C0 hST hK hE hf (lv_sub hl [] rfl)
end
set_option maxHeartbeats 400000 in
set_option maxRecDepth 100000 in
theorem c_ZF_isNameByte (l : Launch) (dC : Nat → ClassId) (dI : Nat → Nat → Nat) (nf : Nat) (p0 : Int32) {r0 : Int32} (hf : f_ZF_isNameByte nf p0 = some r0) : Met l y_ZF_isNameByte (wd y_ZF_isNameByte b_ZF_isNameByte 1 (some .boolean)) ({ frames := 1, cells := 0, slots := 0, locals := 20 }) (RO dC dI [] [] [.int p0]) (SV (some (.int r0))) 0 0 (fun _ => False) :=
  met_S (plainFor_of_name (by decide)) (Nat.le_of_ble_eq_true rfl) (fun p e R s m args below meth c ls C0 hST hK hP hl => by
    obtain ⟨hx, hb, hr, hml, hown, hts, hlocks, hRf, hRl⟩ := id C0
    unfold f_ZF_isNameByte at hf
    exact k_ZF_isNameByte_0 C0 hST hK (fun pc ls hd hn => W.zret hx hb hr hn (fun t ht hW => ⟨rfl, ht⟩) (fun q h => by cases h) hd) hf (lv_sub hl [0] rfl))
-- ZoneFiles.dateOf(JI)J
def f_ZF_dateOf_0 (nf : Nat) (x0 : Int64) (x2 : Int32) : Option (Int64) :=
  (f_Cal_yearOf nf x0).bind fun r_1 =>
  (f_Cal_yearStart nf r_1).bind fun r_2 =>
  (f_Cal_isLongYear nf r_1).bind fun r_3 =>
  (f_Cal_monthOf nf ((x0 - r_2).toInt32) r_3).bind fun r_4 =>
  if x2 = 0 then
  some r_1
  else
  if x2 = 1 then
    some r_4.toInt64
    else
    if x2 = 2 then
      (f_Cal_monthStart nf r_4 r_3).bind fun r_8 =>
        some (((((x0 - r_2).toInt32) - r_8) + 1).toInt64)
      else
      some ((((x0 - r_2).toInt32) + 1).toInt64)
def f_ZF_dateOf (nf : Nat) (p0 : Int64) (p1 : Int32) : Option (Int64) :=
  f_ZF_dateOf_0 nf p0 p1
section
variable {p : Program} {l : Launch} {e : Env} {R : Room} {s : State} {m : MethodId} {args : Array Value} {below : List Frame} {meth : Method} {c : Code} {Q : State → Prop} {dC : Nat → ClassId} {dI : Nat → Nat → Nat} {nf : Nat}
variable {r0 : Int64}
set_option maxHeartbeats 400000 in
set_option maxRecDepth 100000 in
theorem k_ZF_dateOf_0 (C0 : Cx p s m meth c args R b_ZF_dateOf "ZoneFiles" 8 (some .long) 3 77) (hST : ST (fun _ => False) s s.heap) (hK : va_K (dC, dI) classes [] s) (hE : ∀ (pc : Nat) (ls : Array Slot), decode b_ZF_dateOf pc = .ok (.lreturn, 1) → W p l e R s m args below meth c s.heap [] 0 0 Q (F0 m pc ls [.long r0])) {x0 : Int64} {x2 : Int32} (hf : f_ZF_dateOf_0 nf x0 x2 = some r0) {ls : Array Slot} (hl : lv_has ls 8 [(0, .long x0), (2, .int x2)]) : W p l e R s m args below meth c s.heap [] 0 0 Q (F0 m 0 ls []) := by
  obtain ⟨hx, hb, hr, hml, hown, hts, hlocks, hRf, hRl⟩ := id C0
  obtain ⟨tms, hZms, hTms, tmg, hZmg, hTmg, hNW⟩ := id hST
  unfold f_ZF_dateOf_0 at hf
  refine lv_lload_n hx hb d_ZF_dateOf_0 rfl (lv_at hl 0 rfl) ?_
  obtain ⟨r_1, hc, hf⟩ := ob hf
  refine cl_S (v := (some (.long r_1))) (st1 := [.long r_1]) (va_runS (As := [.long x0]) (rest := []) ⟨hx, hb, hml, hown, hts⟩ (c_Cal_yearOf l dC dI nf x0 hc) (va_cwS 1 hts (gdS m_5_87 m_4_163 m_1_18 m_4_164) rfl rfl rfl (by decide +kernel) ⟨Nat.le_trans (Nat.le_of_ble_eq_true rfl) hRf, Nat.le_trans (Nat.le_of_ble_eq_true rfl) hRl⟩) (RO.pre0 hK hST).sta rfl rfl hl.1 rfl (lv_room (Nat.le_of_ble_eq_true rfl)) d_ZF_dateOf_1 ⟨Nat.zero_le _, Nat.zero_le _⟩) rfl ?_
  refine lv_lstore_n (lv' := [(3, .long r_1), (0, .long x0), (2, .int x2)]) hx hb d_ZF_dateOf_4 rfl hl (by decide) rfl (fun ls hl => ?_)
  refine lv_lload_n hx hb d_ZF_dateOf_5 rfl (lv_at hl 1 rfl) ?_
  refine lv_lload_n hx hb d_ZF_dateOf_6 rfl (lv_at hl 0 rfl) ?_
  obtain ⟨r_2, hc, hf⟩ := ob hf
  refine cl_S (v := (some (.long r_2))) (st1 := [.long r_2, .long x0]) (va_runS (As := [.long r_1]) (rest := [.long x0]) ⟨hx, hb, hml, hown, hts⟩ (c_Cal_yearStart l dC dI nf r_1 hc) (va_cwS 1 hts (gdS m_5_88 m_4_171 m_1_18 m_4_172) rfl rfl rfl (by decide +kernel) ⟨Nat.le_trans (Nat.le_of_ble_eq_true rfl) hRf, Nat.le_trans (Nat.le_of_ble_eq_true rfl) hRl⟩) (RO.pre0 hK hST).sta rfl rfl hl.1 rfl (lv_room (Nat.le_of_ble_eq_true rfl)) d_ZF_dateOf_7 ⟨Nat.zero_le _, Nat.zero_le _⟩) rfl ?_
  refine lv_lsub hx hb d_ZF_dateOf_10 ?_
  refine lv_l2i hx hb d_ZF_dateOf_11 rfl ?_
  refine lv_istore (lv' := [(5, .int ((x0 - r_2).toInt32)), (3, .long r_1), (0, .long x0), (2, .int x2)]) hx hb d_ZF_dateOf_12 hl (by decide) rfl (fun ls hl => ?_)
  refine lv_lload_n hx hb d_ZF_dateOf_14 rfl (lv_at hl 1 rfl) ?_
  obtain ⟨r_3, hc, hf⟩ := ob hf
  refine cl_S (v := (some (.int r_3))) (st1 := [.int r_3]) (va_runS (As := [.long r_1]) (rest := []) ⟨hx, hb, hml, hown, hts⟩ (c_Cal_isLongYear l dC dI nf r_1 hc) (va_cwS 1 hts (gdS m_5_89 m_4_187 m_1_18 m_4_188) rfl rfl rfl (by decide +kernel) ⟨Nat.le_trans (Nat.le_of_ble_eq_true rfl) hRf, Nat.le_trans (Nat.le_of_ble_eq_true rfl) hRl⟩) (RO.pre0 hK hST).sta rfl rfl hl.1 rfl (lv_room (Nat.le_of_ble_eq_true rfl)) d_ZF_dateOf_15 ⟨Nat.zero_le _, Nat.zero_le _⟩) rfl ?_
  refine lv_istore (lv' := [(6, .int r_3), (5, .int ((x0 - r_2).toInt32)), (3, .long r_1), (0, .long x0), (2, .int x2)]) hx hb d_ZF_dateOf_18 hl (by decide) rfl (fun ls hl => ?_)
  refine lv_iload hx hb d_ZF_dateOf_20 (lv_at hl 1 rfl) ?_
  refine lv_iload hx hb d_ZF_dateOf_22 (lv_at hl 0 rfl) ?_
  obtain ⟨r_4, hc, hf⟩ := ob hf
  refine cl_S (v := (some (.int r_4))) (st1 := [.int r_4]) (va_runS (As := [.int ((x0 - r_2).toInt32), .int r_3]) (rest := []) ⟨hx, hb, hml, hown, hts⟩ (c_Cal_monthOf l dC dI nf ((x0 - r_2).toInt32) r_3 hc) (va_cwS 2 hts (gdS m_5_90 m_5_91 m_1_18 m_5_92) rfl rfl rfl (by decide +kernel) ⟨Nat.le_trans (Nat.le_of_ble_eq_true rfl) hRf, Nat.le_trans (Nat.le_of_ble_eq_true rfl) hRl⟩) (RO.pre0 hK hST).sta rfl rfl hl.1 rfl (lv_room (Nat.le_of_ble_eq_true rfl)) d_ZF_dateOf_24 ⟨Nat.zero_le _, Nat.zero_le _⟩) rfl ?_
  refine lv_istore (lv' := [(7, .int r_4), (6, .int r_3), (5, .int ((x0 - r_2).toInt32)), (3, .long r_1), (0, .long x0), (2, .int x2)]) hx hb d_ZF_dateOf_27 hl (by decide) rfl (fun ls hl => ?_)
  refine lv_iload_n hx hb d_ZF_dateOf_29 rfl (lv_at hl 5 rfl) ?_
  by_cases c_5 : x2 = 0
  · have hf := it_t c_5 hf
    refine lv_tableIn (tgt := 56) hx hb d_ZF_dateOf_30 (by rw [c_5]; decide) (by rw [c_5]; decide) (by rw [c_5]; rfl) (by decide) ?_
    refine lv_lload_n hx hb d_ZF_dateOf_56 rfl (lv_at hl 3 rfl) ?_
    have e := rs hf
    subst e
    exact hE _ _ d_ZF_dateOf_57
  · have hf := it_f c_5 hf
    by_cases c_6 : x2 = 1
    · have hf := it_t c_6 hf
      refine lv_tableIn (tgt := 58) hx hb d_ZF_dateOf_30 (by rw [c_6]; decide) (by rw [c_6]; decide) (by rw [c_6]; rfl) (by decide) ?_
      refine lv_iload hx hb d_ZF_dateOf_58 (lv_at hl 0 rfl) ?_
      refine lv_i2l hx hb d_ZF_dateOf_60 rfl ?_
      have e := rs hf
      subst e
      exact hE _ _ d_ZF_dateOf_61
    · have hf := it_f c_6 hf
      by_cases c_7 : x2 = 2
      · have hf := it_t c_7 hf
        refine lv_tableIn (tgt := 62) hx hb d_ZF_dateOf_30 (by rw [c_7]; decide) (by rw [c_7]; decide) (by rw [c_7]; rfl) (by decide) ?_
        refine lv_iload hx hb d_ZF_dateOf_62 (lv_at hl 2 rfl) ?_
        refine lv_iload hx hb d_ZF_dateOf_64 (lv_at hl 0 rfl) ?_
        refine lv_iload hx hb d_ZF_dateOf_66 (lv_at hl 1 rfl) ?_
        obtain ⟨r_8, hc, hf⟩ := ob hf
        refine cl_S (v := (some (.int r_8))) (st1 := [.int r_8, .int ((x0 - r_2).toInt32)]) (va_runS (As := [.int r_4, .int r_3]) (rest := [.int ((x0 - r_2).toInt32)]) ⟨hx, hb, hml, hown, hts⟩ (c_Cal_monthStart l dC dI nf r_4 r_3 hc) (va_cwS 2 hts (gdS m_5_94 m_4_190 m_1_18 m_4_191) rfl rfl rfl (by decide +kernel) ⟨Nat.le_trans (Nat.le_of_ble_eq_true rfl) hRf, Nat.le_trans (Nat.le_of_ble_eq_true rfl) hRl⟩) (RO.pre0 hK hST).sta rfl rfl hl.1 rfl (lv_room (Nat.le_of_ble_eq_true rfl)) d_ZF_dateOf_68 ⟨Nat.zero_le _, Nat.zero_le _⟩) rfl ?_
        refine lv_isub hx hb d_ZF_dateOf_71 ?_
        refine lv_iconst (v := 1) hx hb d_ZF_dateOf_72 (by decide) ?_
        refine lv_iadd hx hb d_ZF_dateOf_73 ?_
        refine lv_i2l hx hb d_ZF_dateOf_74 rfl ?_
        have e := rs hf
        subst e
        exact hE _ _ d_ZF_dateOf_75
      · have hf := it_f c_7 hf
        have hsw : x2.toInt < 0 ∨ 2 < x2.toInt := by
          have hsw0 := lv_neT c_5 (a := 0) rfl
          have hsw1 := lv_neT c_6 (a := 1) rfl
          have hsw2 := lv_neT c_7 (a := 2) rfl
          omega
        refine lv_tableOut (tgt := 76) hx hb d_ZF_dateOf_30 hsw (by decide) ?_
        refine lv_iload hx hb d_ZF_dateOf_76 (lv_at hl 2 rfl) ?_
        refine lv_iconst (v := 1) hx hb d_ZF_dateOf_78 (by decide) ?_
        refine lv_iadd hx hb d_ZF_dateOf_79 ?_
        refine lv_i2l hx hb d_ZF_dateOf_80 rfl ?_
        have e := rs hf
        subst e
        exact hE _ _ d_ZF_dateOf_81
end
set_option maxHeartbeats 400000 in
set_option maxRecDepth 100000 in
theorem c_ZF_dateOf (l : Launch) (dC : Nat → ClassId) (dI : Nat → Nat → Nat) (nf : Nat) (p0 : Int64) (p1 : Int32) {r0 : Int64} (hf : f_ZF_dateOf nf p0 p1 = some r0) : Met l y_ZF_dateOf (wd y_ZF_dateOf b_ZF_dateOf 8 (some .long)) ({ frames := 3, cells := 0, slots := 0, locals := 77 }) (RO dC dI [] [] [.long p0, .int p1]) (SV (some (.long r0))) 0 0 (fun _ => False) :=
  met_S (plainFor_of_name (by decide)) (Nat.le_of_ble_eq_true rfl) (fun p e R s m args below meth c ls C0 hST hK hP hl => by
    obtain ⟨hx, hb, hr, hml, hown, hts, hlocks, hRf, hRl⟩ := id C0
    unfold f_ZF_dateOf at hf
    exact k_ZF_dateOf_0 C0 hST hK (fun pc ls hd => W.lret hx hb hr (fun t ht hW => ⟨rfl, ht⟩) (fun q h => by cases h) hd) hf (lv_sub hl [0, 1] rfl))
-- ZoneFiles$RuleParser.isSign(I)Z
def f_RP_isSign_17 (nf : Nat) (s0 : Int32) : Option (Int32) :=
  if s0 = 0 ∨ s0 = 1 then some s0 else none
def f_RP_isSign_12 (nf : Nat) : Option (Int32) :=
  f_RP_isSign_17 nf 1
def f_RP_isSign_0 (nf : Nat) (x0 : Int32) : Option (Int32) :=
  if x0 = (43 : Int32) then
  f_RP_isSign_12 nf
  else
  if x0 = (45 : Int32) then
    f_RP_isSign_12 nf
    else
    f_RP_isSign_17 nf 0
def f_RP_isSign (nf : Nat) (p0 : Int32) : Option (Int32) :=
  f_RP_isSign_0 nf p0
section
variable {p : Program} {l : Launch} {e : Env} {R : Room} {s : State} {m : MethodId} {args : Array Value} {below : List Frame} {meth : Method} {c : Code} {Q : State → Prop} {dC : Nat → ClassId} {dI : Nat → Nat → Nat} {nf : Nat}
variable {r0 : Int32}
set_option maxHeartbeats 400000 in
set_option maxRecDepth 100000 in
theorem k_RP_isSign_17 (C0 : Cx p s m meth c args R b_RP_isSign "ZoneFiles$RuleParser" 1 (some .boolean) 0 0) (hST : ST (fun _ => False) s s.heap) (hK : va_K (dC, dI) classes [] s) (hE : ∀ (pc : Nat) (ls : Array Slot), decode b_RP_isSign pc = .ok (.ireturn, 1) → narrow .boolean (.int r0) = .int r0 → W p l e R s m args below meth c s.heap [] 0 0 Q (F0 m pc ls [.int r0])) {s0 : Int32} (hf : f_RP_isSign_17 nf s0 = some r0) {ls : Array Slot} (hl : lv_has ls 1 []) : W p l e R s m args below meth c s.heap [] 0 0 Q (F0 m 17 ls [.int s0]) := by
  obtain ⟨hx, hb, hr, hml, hown, hts, hlocks, hRf, hRl⟩ := id C0
  obtain ⟨tms, hZms, hTms, tmg, hZmg, hTmg, hNW⟩ := id hST
  unfold f_RP_isSign_17 at hf
  obtain ⟨c_2, hf⟩ := it_g hf
  have e := rs hf
  subst e
  exact hE _ _ d_RP_isSign_17 (nb_of c_2)
set_option maxHeartbeats 400000 in
set_option maxRecDepth 100000 in
theorem k_RP_isSign_12 (C0 : Cx p s m meth c args R b_RP_isSign "ZoneFiles$RuleParser" 1 (some .boolean) 0 0) (hST : ST (fun _ => False) s s.heap) (hK : va_K (dC, dI) classes [] s) (hE : ∀ (pc : Nat) (ls : Array Slot), decode b_RP_isSign pc = .ok (.ireturn, 1) → narrow .boolean (.int r0) = .int r0 → W p l e R s m args below meth c s.heap [] 0 0 Q (F0 m pc ls [.int r0])) (hf : f_RP_isSign_12 nf = some r0) {ls : Array Slot} (hl : lv_has ls 1 []) : W p l e R s m args below meth c s.heap [] 0 0 Q (F0 m 12 ls []) := by
  obtain ⟨hx, hb, hr, hml, hown, hts, hlocks, hRf, hRl⟩ := id C0
  obtain ⟨tms, hZms, hTms, tmg, hZmg, hTmg, hNW⟩ := id hST
  unfold f_RP_isSign_12 at hf
  refine lv_iconst (v := 1) hx hb d_RP_isSign_12 (by decide) ?_
  refine lv_goto (tgt := 17) hx hb d_RP_isSign_13 (by decide) ?_
  exact k_RP_isSign_17 C0 hST hK hE hf (lv_sub hl [] rfl)
set_option maxHeartbeats 400000 in
set_option maxRecDepth 100000 in
theorem k_RP_isSign_0 (C0 : Cx p s m meth c args R b_RP_isSign "ZoneFiles$RuleParser" 1 (some .boolean) 0 0) (hST : ST (fun _ => False) s s.heap) (hK : va_K (dC, dI) classes [] s) (hE : ∀ (pc : Nat) (ls : Array Slot), decode b_RP_isSign pc = .ok (.ireturn, 1) → narrow .boolean (.int r0) = .int r0 → W p l e R s m args below meth c s.heap [] 0 0 Q (F0 m pc ls [.int r0])) {x0 : Int32} (hf : f_RP_isSign_0 nf x0 = some r0) {ls : Array Slot} (hl : lv_has ls 1 [(0, .int x0)]) : W p l e R s m args below meth c s.heap [] 0 0 Q (F0 m 0 ls []) := by
  obtain ⟨hx, hb, hr, hml, hown, hts, hlocks, hRf, hRl⟩ := id C0
  obtain ⟨tms, hZms, hTms, tmg, hZmg, hTmg, hNW⟩ := id hST
  unfold f_RP_isSign_0 at hf
  refine lv_iload_n hx hb d_RP_isSign_0 rfl (lv_at hl 0 rfl) ?_
  refine lv_bipush (v := 43) hx hb d_RP_isSign_1 (by decide) ?_
  refine lv_icmp_eq (tgt := 12) hx hb d_RP_isSign_3 (by decide) (fun c_1 => ?_) (fun c_1 => ?_)
  · have hf := it_t c_1 hf
    exact k_RP_isSign_12 C0 hST hK hE hf (lv_sub hl [] rfl)
  · have hf := it_f c_1 hf
    refine lv_iload_n hx hb d_RP_isSign_6 rfl (lv_at hl 0 rfl) ?_
    refine lv_bipush (v := 45) hx hb d_RP_isSign_7 (by decide) ?_
    refine lv_icmp_ne (tgt := 16) hx hb d_RP_isSign_9 (by decide) (fun c_3 => ?_) (fun c_3 => ?_)
    · have hf := it_f c_3 hf
      refine lv_iconst (v := 0) hx hb d_RP_isSign_16 (by decide) ?_
      exact k_RP_isSign_17 C0 hST hK hE hf (lv_sub hl [] rfl)
    · have hf := it_t c_3 hf
      exact k_RP_isSign_12 C0 hST hK hE hf (lv_sub hl [] rfl)
end
set_option maxHeartbeats 400000 in
set_option maxRecDepth 100000 in
theorem c_RP_isSign (l : Launch) (dC : Nat → ClassId) (dI : Nat → Nat → Nat) (nf : Nat) (p0 : Int32) {r0 : Int32} (hf : f_RP_isSign nf p0 = some r0) : Met l y_RP_isSign (wd y_RP_isSign b_RP_isSign 1 (some .boolean)) ({ frames := 0, cells := 0, slots := 0, locals := 0 }) (RO dC dI [] [] [.int p0]) (SV (some (.int r0))) 0 0 (fun _ => False) :=
  met_S (plainFor_of_name (by decide)) (Nat.le_of_ble_eq_true rfl) (fun p e R s m args below meth c ls C0 hST hK hP hl => by
    obtain ⟨hx, hb, hr, hml, hown, hts, hlocks, hRf, hRl⟩ := id C0
    unfold f_RP_isSign at hf
    exact k_RP_isSign_0 C0 hST hK (fun pc ls hd hn => W.zret hx hb hr hn (fun t ht hW => ⟨rfl, ht⟩) (fun q h => by cases h) hd) hf (lv_sub hl [0] rfl))
-- ZoneFiles$TableParser.isBlank(I)Z
def f_TP_isBlank_17 (nf : Nat) (s0 : Int32) : Option (Int32) :=
  if s0 = 0 ∨ s0 = 1 then some s0 else none
def f_TP_isBlank_12 (nf : Nat) : Option (Int32) :=
  f_TP_isBlank_17 nf 1
def f_TP_isBlank_0 (nf : Nat) (x0 : Int32) : Option (Int32) :=
  if x0 = (32 : Int32) then
  f_TP_isBlank_12 nf
  else
  if x0 = (9 : Int32) then
    f_TP_isBlank_12 nf
    else
    f_TP_isBlank_17 nf 0
def f_TP_isBlank (nf : Nat) (p0 : Int32) : Option (Int32) :=
  f_TP_isBlank_0 nf p0
section
variable {p : Program} {l : Launch} {e : Env} {R : Room} {s : State} {m : MethodId} {args : Array Value} {below : List Frame} {meth : Method} {c : Code} {Q : State → Prop} {dC : Nat → ClassId} {dI : Nat → Nat → Nat} {nf : Nat}
variable {r0 : Int32}
set_option maxHeartbeats 400000 in
set_option maxRecDepth 100000 in
theorem k_TP_isBlank_17 (C0 : Cx p s m meth c args R b_TP_isBlank "ZoneFiles$TableParser" 1 (some .boolean) 0 0) (hST : ST (fun _ => False) s s.heap) (hK : va_K (dC, dI) classes [] s) (hE : ∀ (pc : Nat) (ls : Array Slot), decode b_TP_isBlank pc = .ok (.ireturn, 1) → narrow .boolean (.int r0) = .int r0 → W p l e R s m args below meth c s.heap [] 0 0 Q (F0 m pc ls [.int r0])) {s0 : Int32} (hf : f_TP_isBlank_17 nf s0 = some r0) {ls : Array Slot} (hl : lv_has ls 1 []) : W p l e R s m args below meth c s.heap [] 0 0 Q (F0 m 17 ls [.int s0]) := by
  obtain ⟨hx, hb, hr, hml, hown, hts, hlocks, hRf, hRl⟩ := id C0
  obtain ⟨tms, hZms, hTms, tmg, hZmg, hTmg, hNW⟩ := id hST
  unfold f_TP_isBlank_17 at hf
  obtain ⟨c_2, hf⟩ := it_g hf
  have e := rs hf
  subst e
  exact hE _ _ d_TP_isBlank_17 (nb_of c_2)
set_option maxHeartbeats 400000 in
set_option maxRecDepth 100000 in
theorem k_TP_isBlank_12 (C0 : Cx p s m meth c args R b_TP_isBlank "ZoneFiles$TableParser" 1 (some .boolean) 0 0) (hST : ST (fun _ => False) s s.heap) (hK : va_K (dC, dI) classes [] s) (hE : ∀ (pc : Nat) (ls : Array Slot), decode b_TP_isBlank pc = .ok (.ireturn, 1) → narrow .boolean (.int r0) = .int r0 → W p l e R s m args below meth c s.heap [] 0 0 Q (F0 m pc ls [.int r0])) (hf : f_TP_isBlank_12 nf = some r0) {ls : Array Slot} (hl : lv_has ls 1 []) : W p l e R s m args below meth c s.heap [] 0 0 Q (F0 m 12 ls []) := by
  obtain ⟨hx, hb, hr, hml, hown, hts, hlocks, hRf, hRl⟩ := id C0
  obtain ⟨tms, hZms, hTms, tmg, hZmg, hTmg, hNW⟩ := id hST
  unfold f_TP_isBlank_12 at hf
  refine lv_iconst (v := 1) hx hb d_TP_isBlank_12 (by decide) ?_
  refine lv_goto (tgt := 17) hx hb d_TP_isBlank_13 (by decide) ?_
  exact k_TP_isBlank_17 C0 hST hK hE hf (lv_sub hl [] rfl)
set_option maxHeartbeats 400000 in
set_option maxRecDepth 100000 in
theorem k_TP_isBlank_0 (C0 : Cx p s m meth c args R b_TP_isBlank "ZoneFiles$TableParser" 1 (some .boolean) 0 0) (hST : ST (fun _ => False) s s.heap) (hK : va_K (dC, dI) classes [] s) (hE : ∀ (pc : Nat) (ls : Array Slot), decode b_TP_isBlank pc = .ok (.ireturn, 1) → narrow .boolean (.int r0) = .int r0 → W p l e R s m args below meth c s.heap [] 0 0 Q (F0 m pc ls [.int r0])) {x0 : Int32} (hf : f_TP_isBlank_0 nf x0 = some r0) {ls : Array Slot} (hl : lv_has ls 1 [(0, .int x0)]) : W p l e R s m args below meth c s.heap [] 0 0 Q (F0 m 0 ls []) := by
  obtain ⟨hx, hb, hr, hml, hown, hts, hlocks, hRf, hRl⟩ := id C0
  obtain ⟨tms, hZms, hTms, tmg, hZmg, hTmg, hNW⟩ := id hST
  unfold f_TP_isBlank_0 at hf
  refine lv_iload_n hx hb d_TP_isBlank_0 rfl (lv_at hl 0 rfl) ?_
  refine lv_bipush (v := 32) hx hb d_TP_isBlank_1 (by decide) ?_
  refine lv_icmp_eq (tgt := 12) hx hb d_TP_isBlank_3 (by decide) (fun c_1 => ?_) (fun c_1 => ?_)
  · have hf := it_t c_1 hf
    exact k_TP_isBlank_12 C0 hST hK hE hf (lv_sub hl [] rfl)
  · have hf := it_f c_1 hf
    refine lv_iload_n hx hb d_TP_isBlank_6 rfl (lv_at hl 0 rfl) ?_
    refine lv_bipush (v := 9) hx hb d_TP_isBlank_7 (by decide) ?_
    refine lv_icmp_ne (tgt := 16) hx hb d_TP_isBlank_9 (by decide) (fun c_3 => ?_) (fun c_3 => ?_)
    · have hf := it_f c_3 hf
      refine lv_iconst (v := 0) hx hb d_TP_isBlank_16 (by decide) ?_
      exact k_TP_isBlank_17 C0 hST hK hE hf (lv_sub hl [] rfl)
    · have hf := it_t c_3 hf
      exact k_TP_isBlank_12 C0 hST hK hE hf (lv_sub hl [] rfl)
end
set_option maxHeartbeats 400000 in
set_option maxRecDepth 100000 in
theorem c_TP_isBlank (l : Launch) (dC : Nat → ClassId) (dI : Nat → Nat → Nat) (nf : Nat) (p0 : Int32) {r0 : Int32} (hf : f_TP_isBlank nf p0 = some r0) : Met l y_TP_isBlank (wd y_TP_isBlank b_TP_isBlank 1 (some .boolean)) ({ frames := 0, cells := 0, slots := 0, locals := 0 }) (RO dC dI [] [] [.int p0]) (SV (some (.int r0))) 0 0 (fun _ => False) :=
  met_S (plainFor_of_name (by decide)) (Nat.le_of_ble_eq_true rfl) (fun p e R s m args below meth c ls C0 hST hK hP hl => by
    obtain ⟨hx, hb, hr, hml, hown, hts, hlocks, hRf, hRl⟩ := id C0
    unfold f_TP_isBlank at hf
    exact k_TP_isBlank_0 C0 hST hK (fun pc ls hd hn => W.zret hx hb hr hn (fun t ht hW => ⟨rfl, ht⟩) (fun q h => by cases h) hd) hf (lv_sub hl [0] rfl))
