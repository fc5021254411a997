theorem m_1_7 : Cond.initialized "java/lang/Math" ∈ T0 := tb_1 7 rfl rfl
theorem m_1_18 : Cond.initialized "ZoneFiles$Calendar" ∈ T0 := tb_1 18 rfl rfl
theorem m_4_160 : Cond.static ⟨"java/lang/Math", "floorDiv", "(JJ)J"⟩ ∈ T0 := tb_4 160 rfl rfl
theorem m_4_161 : Cond.code ⟨"java/lang/Math", "floorDiv", "(JJ)J"⟩ prog_20_method_49_code 6 (some .long) ∈ T0 := tb_4 161 rfl rfl
theorem m_4_165 : Cond.constantLong "ZoneFiles$Calendar" 27 (-719528) ∈ T0 := tb_4 165 rfl rfl
theorem m_4_166 : Cond.constantLong "ZoneFiles$Calendar" 29 146097 ∈ T0 := tb_4 166 rfl rfl
theorem m_4_167 : Cond.methodLink "ZoneFiles$Calendar" 13 ⟨"java/lang/Math", "floorDiv", "(JJ)J"⟩ ∈ T0 := tb_4 167 rfl rfl
theorem m_4_168 : Cond.constantLong "ZoneFiles$Calendar" 11 400 ∈ T0 := tb_4 168 rfl rfl
theorem m_4_169 : Cond.constantLong "ZoneFiles$Calendar" 19 365 ∈ T0 := tb_4 169 rfl rfl
theorem m_4_170 : Cond.methodLink "ZoneFiles$Calendar" 31 ⟨"ZoneFiles$Calendar", "yearStart", "(J)J"⟩ ∈ T0 := tb_4 170 rfl rfl
theorem m_4_171 : Cond.static ⟨"ZoneFiles$Calendar", "yearStart", "(J)J"⟩ ∈ T0 := tb_4 171 rfl rfl
theorem m_4_172 : Cond.code ⟨"ZoneFiles$Calendar", "yearStart", "(J)J"⟩ prog_3_method_3_code 6 (some .long) ∈ T0 := tb_4 172 rfl rfl
theorem m_4_173 : Cond.constantLong "ZoneFiles$Calendar" 7 4 ∈ T0 := tb_4 173 rfl rfl
theorem m_4_174 : Cond.constantLong "ZoneFiles$Calendar" 9 100 ∈ T0 := tb_4 174 rfl rfl
theorem m_4_175 : Cond.constantLong "ZoneFiles$Calendar" 21 1970 ∈ T0 := tb_4 175 rfl rfl
theorem m_4_176 : Cond.constantLong "ZoneFiles$Calendar" 25 477 ∈ T0 := tb_4 176 rfl rfl
theorem m_4_190 : Cond.static ⟨"ZoneFiles$Calendar", "monthStart", "(IZ)I"⟩ ∈ T0 := tb_4 190 rfl rfl
theorem m_4_191 : Cond.code ⟨"ZoneFiles$Calendar", "monthStart", "(IZ)I"⟩ prog_3_method_5_code 2 (some .int) ∈ T0 := tb_4 191 rfl rfl
theorem m_4_192 : Cond.fieldLink "ZoneFiles$Calendar" 35 "ZoneFiles$Calendar" "MONTH_STARTS" "[I" ∈ T0 := tb_4 192 rfl rfl
theorem m_4_197 : Cond.static ⟨"java/lang/Math", "floorMod", "(JJ)J"⟩ ∈ T0 := tb_4 197 rfl rfl
theorem m_4_198 : Cond.code ⟨"java/lang/Math", "floorMod", "(JJ)J"⟩ prog_20_method_52_code 6 (some .long) ∈ T0 := tb_4 198 rfl rfl
theorem m_5_82 : Cond.constantLong "ZoneFiles$Calendar" 43 7 ∈ T0 := tb_5 82 rfl rfl
theorem m_5_83 : Cond.methodLink "ZoneFiles$Calendar" 45 ⟨"java/lang/Math", "floorMod", "(JJ)J"⟩ ∈ T0 := tb_5 83 rfl rfl
theorem m_5_93 : Cond.methodLink "ZoneFiles$Calendar" 39 ⟨"ZoneFiles$Calendar", "monthStart", "(IZ)I"⟩ ∈ T0 := tb_5 93 rfl rfl
abbrev b_Math_floorDiv : ByteArray := prog_20_method_49_code
def y_Math_floorDiv : MethodName := ⟨"java/lang/Math", "floorDiv", "(JJ)J"⟩
theorem d_Math_floorDiv_0 : decode b_Math_floorDiv 0 = .ok (.lload_n 0, 1) := by decide +kernel
theorem d_Math_floorDiv_1 : decode b_Math_floorDiv 1 = .ok (.lload_n 2, 1) := by decide +kernel
theorem d_Math_floorDiv_2 : decode b_Math_floorDiv 2 = .ok (.ldiv, 1) := by decide +kernel
theorem d_Math_floorDiv_3 : decode b_Math_floorDiv 3 = .ok (.lstore 4, 2) := by decide +kernel
theorem d_Math_floorDiv_5 : decode b_Math_floorDiv 5 = .ok (.lload_n 0, 1) := by decide +kernel
theorem d_Math_floorDiv_6 : decode b_Math_floorDiv 6 = .ok (.lload_n 2, 1) := by decide +kernel
theorem d_Math_floorDiv_7 : decode b_Math_floorDiv 7 = .ok (.lxor, 1) := by decide +kernel
theorem d_Math_floorDiv_8 : decode b_Math_floorDiv 8 = .ok (.lconst 0, 1) := by decide +kernel
theorem d_Math_floorDiv_9 : decode b_Math_floorDiv 9 = .ok (.lcmp, 1) := by decide +kernel
theorem d_Math_floorDiv_10 : decode b_Math_floorDiv 10 = .ok (.ifCond .ge 17, 3) := by decide +kernel
theorem d_Math_floorDiv_13 : decode b_Math_floorDiv 13 = .ok (.lload 4, 2) := by decide +kernel
theorem d_Math_floorDiv_15 : decode b_Math_floorDiv 15 = .ok (.lload_n 2, 1) := by decide +kernel
theorem d_Math_floorDiv_16 : decode b_Math_floorDiv 16 = .ok (.lmul, 1) := by decide +kernel
theorem d_Math_floorDiv_17 : decode b_Math_floorDiv 17 = .ok (.lload_n 0, 1) := by decide +kernel
theorem d_Math_floorDiv_18 : decode b_Math_floorDiv 18 = .ok (.lcmp, 1) := by decide +kernel
theorem d_Math_floorDiv_19 : decode b_Math_floorDiv 19 = .ok (.ifCond .eq 8, 3) := by decide +kernel
theorem d_Math_floorDiv_22 : decode b_Math_floorDiv 22 = .ok (.lload 4, 2) := by decide +kernel
theorem d_Math_floorDiv_24 : decode b_Math_floorDiv 24 = .ok (.lconst 1, 1) := by decide +kernel
theorem d_Math_floorDiv_25 : decode b_Math_floorDiv 25 = .ok (.lsub, 1) := by decide +kernel
theorem d_Math_floorDiv_26 : decode b_Math_floorDiv 26 = .ok (.lreturn, 1) := by decide +kernel
theorem d_Math_floorDiv_27 : decode b_Math_floorDiv 27 = .ok (.lload 4, 2) := by decide +kernel
theorem d_Math_floorDiv_29 : decode b_Math_floorDiv 29 = .ok (.lreturn, 1) := by decide +kernel
abbrev b_Math_floorMod : ByteArray := prog_20_method_52_code
def y_Math_floorMod : MethodName := ⟨"java/lang/Math", "floorMod", "(JJ)J"⟩
theorem d_Math_floorMod_0 : decode b_Math_floorMod 0 = .ok (.lload_n 0, 1) := by decide +kernel
theorem d_Math_floorMod_1 : decode b_Math_floorMod 1 = .ok (.lload_n 2, 1) := by decide +kernel
theorem d_Math_floorMod_2 : decode b_Math_floorMod 2 = .ok (.lrem, 1) := by decide +kernel
theorem d_Math_floorMod_3 : decode b_Math_floorMod 3 = .ok (.lstore 4, 2) := by decide +kernel
theorem d_Math_floorMod_5 : decode b_Math_floorMod 5 = .ok (.lload_n 0, 1) := by decide +kernel
theorem d_Math_floorMod_6 : decode b_Math_floorMod 6 = .ok (.lload_n 2, 1) := by decide +kernel
theorem d_Math_floorMod_7 : decode b_Math_floorMod 7 = .ok (.lxor, 1) := by decide +kernel
theorem d_Math_floorMod_8 : decode b_Math_floorMod 8 = .ok (.lconst 0, 1) := by decide +kernel
theorem d_Math_floorMod_9 : decode b_Math_floorMod 9 = .ok (.lcmp, 1) := by decide +kernel
theorem d_Math_floorMod_10 : decode b_Math_floorMod 10 = .ok (.ifCond .ge 15, 3) := by decide +kernel
theorem d_Math_floorMod_13 : decode b_Math_floorMod 13 = .ok (.lload 4, 2) := by decide +kernel
theorem d_Math_floorMod_15 : decode b_Math_floorMod 15 = .ok (.lconst 0, 1) := by decide +kernel
theorem d_Math_floorMod_16 : decode b_Math_floorMod 16 = .ok (.lcmp, 1) := by decide +kernel
theorem d_Math_floorMod_17 : decode b_Math_floorMod 17 = .ok (.ifCond .eq 8, 3) := by decide +kernel
theorem d_Math_floorMod_20 : decode b_Math_floorMod 20 = .ok (.lload 4, 2) := by decide +kernel
theorem d_Math_floorMod_22 : decode b_Math_floorMod 22 = .ok (.lload_n 2, 1) := by decide +kernel
theorem d_Math_floorMod_23 : decode b_Math_floorMod 23 = .ok (.ladd, 1) := by decide +kernel
theorem d_Math_floorMod_24 : decode b_Math_floorMod 24 = .ok (.lreturn, 1) := by decide +kernel
theorem d_Math_floorMod_25 : decode b_Math_floorMod 25 = .ok (.lload 4, 2) := by decide +kernel
theorem d_Math_floorMod_27 : decode b_Math_floorMod 27 = .ok (.lreturn, 1) := by decide +kernel
abbrev b_Cal_isLongYear : ByteArray := prog_3_method_2_code
def y_Cal_isLongYear : MethodName := ⟨"ZoneFiles$Calendar", "isLongYear", "(J)Z"⟩
theorem d_Cal_isLongYear_0 : decode b_Cal_isLongYear 0 = .ok (.lload_n 0, 1) := by decide +kernel
theorem d_Cal_isLongYear_1 : decode b_Cal_isLongYear 1 = .ok (.ldc2_w 7, 3) := by decide +kernel
theorem d_Cal_isLongYear_4 : decode b_Cal_isLongYear 4 = .ok (.lrem, 1) := by decide +kernel
theorem d_Cal_isLongYear_5 : decode b_Cal_isLongYear 5 = .ok (.lconst 0, 1) := by decide +kernel
theorem d_Cal_isLongYear_6 : decode b_Cal_isLongYear 6 = .ok (.lcmp, 1) := by decide +kernel
theorem d_Cal_isLongYear_7 : decode b_Cal_isLongYear 7 = .ok (.ifCond .ne 27, 3) := by decide +kernel
theorem d_Cal_isLongYear_10 : decode b_Cal_isLongYear 10 = .ok (.lload_n 0, 1) := by decide +kernel
theorem d_Cal_isLongYear_11 : decode b_Cal_isLongYear 11 = .ok (.ldc2_w 9, 3) := by decide +kernel
theorem d_Cal_isLongYear_14 : decode b_Cal_isLongYear 14 = .ok (.lrem, 1) := by decide +kernel
theorem d_Cal_isLongYear_15 : decode b_Cal_isLongYear 15 = .ok (.lconst 0, 1) := by decide +kernel
theorem d_Cal_isLongYear_16 : decode b_Cal_isLongYear 16 = .ok (.lcmp, 1) := by decide +kernel
theorem d_Cal_isLongYear_17 : decode b_Cal_isLongYear 17 = .ok (.ifCond .ne 13, 3) := by decide +kernel
theorem d_Cal_isLongYear_20 : decode b_Cal_isLongYear 20 = .ok (.lload_n 0, 1) := by decide +kernel
theorem d_Cal_isLongYear_21 : decode b_Cal_isLongYear 21 = .ok (.ldc2_w 11, 3) := by decide +kernel
theorem d_Cal_isLongYear_24 : decode b_Cal_isLongYear 24 = .ok (.lrem, 1) := by decide +kernel
theorem d_Cal_isLongYear_25 : decode b_Cal_isLongYear 25 = .ok (.lconst 0, 1) := by decide +kernel
theorem d_Cal_isLongYear_26 : decode b_Cal_isLongYear 26 = .ok (.lcmp, 1) := by decide +kernel
theorem d_Cal_isLongYear_27 : decode b_Cal_isLongYear 27 = .ok (.ifCond .ne 7, 3) := by decide +kernel
theorem d_Cal_isLongYear_30 : decode b_Cal_isLongYear 30 = .ok (.iconst 1, 1) := by decide +kernel
theorem d_Cal_isLongYear_31 : decode b_Cal_isLongYear 31 = .ok (.goto 4, 3) := by decide +kernel
theorem d_Cal_isLongYear_34 : decode b_Cal_isLongYear 34 = .ok (.iconst 0, 1) := by decide +kernel
theorem d_Cal_isLongYear_35 : decode b_Cal_isLongYear 35 = .ok (.ireturn, 1) := by decide +kernel
abbrev b_Cal_yearStart : ByteArray := prog_3_method_3_code
def y_Cal_yearStart : MethodName := ⟨"ZoneFiles$Calendar", "yearStart", "(J)J"⟩
theorem d_Cal_yearStart_0 : decode b_Cal_yearStart 0 = .ok (.lload_n 0, 1) := by decide +kernel
theorem d_Cal_yearStart_1 : decode b_Cal_yearStart 1 = .ok (.lconst 1, 1) := by decide +kernel
theorem d_Cal_yearStart_2 : decode b_Cal_yearStart 2 = .ok (.lsub, 1) := by decide +kernel
theorem d_Cal_yearStart_3 : decode b_Cal_yearStart 3 = .ok (.lstore_n 2, 1) := by decide +kernel
theorem d_Cal_yearStart_4 : decode b_Cal_yearStart 4 = .ok (.lload_n 2, 1) := by decide +kernel
theorem d_Cal_yearStart_5 : decode b_Cal_yearStart 5 = .ok (.ldc2_w 7, 3) := by decide +kernel
theorem d_Cal_yearStart_8 : decode b_Cal_yearStart 8 = .ok (.invokestatic 13, 3) := by decide +kernel
theorem d_Cal_yearStart_11 : decode b_Cal_yearStart 11 = .ok (.lload_n 2, 1) := by decide +kernel
theorem d_Cal_yearStart_12 : decode b_Cal_yearStart 12 = .ok (.ldc2_w 9, 3) := by decide +kernel
theorem d_Cal_yearStart_15 : decode b_Cal_yearStart 15 = .ok (.invokestatic 13, 3) := by decide +kernel
theorem d_Cal_yearStart_18 : decode b_Cal_yearStart 18 = .ok (.lsub, 1) := by decide +kernel
theorem d_Cal_yearStart_19 : decode b_Cal_yearStart 19 = .ok (.lload_n 2, 1) := by decide +kernel
theorem d_Cal_yearStart_20 : decode b_Cal_yearStart 20 = .ok (.ldc2_w 11, 3) := by decide +kernel
theorem d_Cal_yearStart_23 : decode b_Cal_yearStart 23 = .ok (.invokestatic 13, 3) := by decide +kernel
theorem d_Cal_yearStart_26 : decode b_Cal_yearStart 26 = .ok (.ladd, 1) := by decide +kernel
theorem d_Cal_yearStart_27 : decode b_Cal_yearStart 27 = .ok (.lstore 4, 2) := by decide +kernel
theorem d_Cal_yearStart_29 : decode b_Cal_yearStart 29 = .ok (.ldc2_w 19, 3) := by decide +kernel
theorem d_Cal_yearStart_32 : decode b_Cal_yearStart 32 = .ok (.lload_n 0, 1) := by decide +kernel
theorem d_Cal_yearStart_33 : decode b_Cal_yearStart 33 = .ok (.ldc2_w 21, 3) := by decide +kernel
theorem d_Cal_yearStart_36 : decode b_Cal_yearStart 36 = .ok (.lsub, 1) := by decide +kernel
theorem d_Cal_yearStart_37 : decode b_Cal_yearStart 37 = .ok (.lmul, 1) := by decide +kernel
theorem d_Cal_yearStart_38 : decode b_Cal_yearStart 38 = .ok (.lload 4, 2) := by decide +kernel
theorem d_Cal_yearStart_40 : decode b_Cal_yearStart 40 = .ok (.ladd, 1) := by decide +kernel
theorem d_Cal_yearStart_41 : decode b_Cal_yearStart 41 = .ok (.ldc2_w 25, 3) := by decide +kernel
theorem d_Cal_yearStart_44 : decode b_Cal_yearStart 44 = .ok (.lsub, 1) := by decide +kernel
theorem d_Cal_yearStart_45 : decode b_Cal_yearStart 45 = .ok (.lreturn, 1) := by decide +kernel
abbrev b_Cal_yearOf : ByteArray := prog_3_method_4_code
def y_Cal_yearOf : MethodName := ⟨"ZoneFiles$Calendar", "yearOf", "(J)J"⟩
theorem d_Cal_yearOf_0 : decode b_Cal_yearOf 0 = .ok (.lload_n 0, 1) := by decide +kernel
theorem d_Cal_yearOf_1 : decode b_Cal_yearOf 1 = .ok (.ldc2_w 27, 3) := by decide +kernel
theorem d_Cal_yearOf_4 : decode b_Cal_yearOf 4 = .ok (.lsub, 1) := by decide +kernel
theorem d_Cal_yearOf_5 : decode b_Cal_yearOf 5 = .ok (.lstore_n 2, 1) := by decide +kernel
theorem d_Cal_yearOf_6 : decode b_Cal_yearOf 6 = .ok (.lload_n 2, 1) := by decide +kernel
theorem d_Cal_yearOf_7 : decode b_Cal_yearOf 7 = .ok (.ldc2_w 29, 3) := by decide +kernel
theorem d_Cal_yearOf_10 : decode b_Cal_yearOf 10 = .ok (.invokestatic 13, 3) := by decide +kernel
theorem d_Cal_yearOf_13 : decode b_Cal_yearOf 13 = .ok (.lstore 4, 2) := by decide +kernel
theorem d_Cal_yearOf_15 : decode b_Cal_yearOf 15 = .ok (.ldc2_w 11, 3) := by decide +kernel
theorem d_Cal_yearOf_18 : decode b_Cal_yearOf 18 = .ok (.lload 4, 2) := by decide +kernel
theorem d_Cal_yearOf_20 : decode b_Cal_yearOf 20 = .ok (.lmul, 1) := by decide +kernel
theorem d_Cal_yearOf_21 : decode b_Cal_yearOf 21 = .ok (.lload_n 2, 1) := by decide +kernel
theorem d_Cal_yearOf_22 : decode b_Cal_yearOf 22 = .ok (.lload 4, 2) := by decide +kernel
theorem d_Cal_yearOf_24 : decode b_Cal_yearOf 24 = .ok (.ldc2_w 29, 3) := by decide +kernel
theorem d_Cal_yearOf_27 : decode b_Cal_yearOf 27 = .ok (.lmul, 1) := by decide +kernel
theorem d_Cal_yearOf_28 : decode b_Cal_yearOf 28 = .ok (.lsub, 1) := by decide +kernel
theorem d_Cal_yearOf_29 : decode b_Cal_yearOf 29 = .ok (.ldc2_w 19, 3) := by decide +kernel
theorem d_Cal_yearOf_32 : decode b_Cal_yearOf 32 = .ok (.ldiv, 1) := by decide +kernel
theorem d_Cal_yearOf_33 : decode b_Cal_yearOf 33 = .ok (.ladd, 1) := by decide +kernel
theorem d_Cal_yearOf_34 : decode b_Cal_yearOf 34 = .ok (.lstore 6, 2) := by decide +kernel
theorem d_Cal_yearOf_36 : decode b_Cal_yearOf 36 = .ok (.lload 6, 2) := by decide +kernel
theorem d_Cal_yearOf_38 : decode b_Cal_yearOf 38 = .ok (.invokestatic 31, 3) := by decide +kernel
theorem d_Cal_yearOf_41 : decode b_Cal_yearOf 41 = .ok (.lload_n 0, 1) := by decide +kernel
theorem d_Cal_yearOf_42 : decode b_Cal_yearOf 42 = .ok (.lcmp, 1) := by decide +kernel
theorem d_Cal_yearOf_43 : decode b_Cal_yearOf 43 = .ok (.ifCond .le 10, 3) := by decide +kernel
theorem d_Cal_yearOf_46 : decode b_Cal_yearOf 46 = .ok (.lload 6, 2) := by decide +kernel
theorem d_Cal_yearOf_48 : decode b_Cal_yearOf 48 = .ok (.lconst 1, 1) := by decide +kernel
theorem d_Cal_yearOf_49 : decode b_Cal_yearOf 49 = .ok (.lsub, 1) := by decide +kernel
theorem d_Cal_yearOf_50 : decode b_Cal_yearOf 50 = .ok (.goto 5, 3) := by decide +kernel
theorem d_Cal_yearOf_53 : decode b_Cal_yearOf 53 = .ok (.lload 6, 2) := by decide +kernel
theorem d_Cal_yearOf_55 : decode b_Cal_yearOf 55 = .ok (.lreturn, 1) := by decide +kernel
abbrev b_Cal_monthStart : ByteArray := prog_3_method_5_code
def y_Cal_monthStart : MethodName := ⟨"ZoneFiles$Calendar", "monthStart", "(IZ)I"⟩
theorem d_Cal_monthStart_0 : decode b_Cal_monthStart 0 = .ok (.iload_n 0, 1) := by decide +kernel
theorem d_Cal_monthStart_1 : decode b_Cal_monthStart 1 = .ok (.iconst 1, 1) := by decide +kernel
theorem d_Cal_monthStart_2 : decode b_Cal_monthStart 2 = .ok (.if_icmp .lt 11, 3) := by decide +kernel
theorem d_Cal_monthStart_5 : decode b_Cal_monthStart 5 = .ok (.iload_n 0, 1) := by decide +kernel
theorem d_Cal_monthStart_6 : decode b_Cal_monthStart 6 = .ok (.getstatic 35, 3) := by decide +kernel
theorem d_Cal_monthStart_9 : decode b_Cal_monthStart 9 = .ok (.arraylength, 1) := by decide +kernel
theorem d_Cal_monthStart_10 : decode b_Cal_monthStart 10 = .ok (.if_icmp .le 5, 3) := by decide +kernel
theorem d_Cal_monthStart_13 : decode b_Cal_monthStart 13 = .ok (.iconst 0, 1) := by decide +kernel
theorem d_Cal_monthStart_14 : decode b_Cal_monthStart 14 = .ok (.ireturn, 1) := by decide +kernel
theorem d_Cal_monthStart_15 : decode b_Cal_monthStart 15 = .ok (.getstatic 35, 3) := by decide +kernel
theorem d_Cal_monthStart_18 : decode b_Cal_monthStart 18 = .ok (.iload_n 0, 1) := by decide +kernel
theorem d_Cal_monthStart_19 : decode b_Cal_monthStart 19 = .ok (.iconst 1, 1) := by decide +kernel
theorem d_Cal_monthStart_20 : decode b_Cal_monthStart 20 = .ok (.isub, 1) := by decide +kernel
theorem d_Cal_monthStart_21 : decode b_Cal_monthStart 21 = .ok (.iaload, 1) := by decide +kernel
theorem d_Cal_monthStart_22 : decode b_Cal_monthStart 22 = .ok (.iload_n 1, 1) := by decide +kernel
theorem d_Cal_monthStart_23 : decode b_Cal_monthStart 23 = .ok (.ifCond .eq 12, 3) := by decide +kernel
theorem d_Cal_monthStart_26 : decode b_Cal_monthStart 26 = .ok (.iload_n 0, 1) := by decide +kernel
theorem d_Cal_monthStart_27 : decode b_Cal_monthStart 27 = .ok (.iconst 2, 1) := by decide +kernel
theorem d_Cal_monthStart_28 : decode b_Cal_monthStart 28 = .ok (.if_icmp .le 7, 3) := by decide +kernel
theorem d_Cal_monthStart_31 : decode b_Cal_monthStart 31 = .ok (.iconst 1, 1) := by decide +kernel
theorem d_Cal_monthStart_32 : decode b_Cal_monthStart 32 = .ok (.goto 4, 3) := by decide +kernel
theorem d_Cal_monthStart_35 : decode b_Cal_monthStart 35 = .ok (.iconst 0, 1) := by decide +kernel
theorem d_Cal_monthStart_36 : decode b_Cal_monthStart 36 = .ok (.iadd, 1) := by decide +kernel
theorem d_Cal_monthStart_37 : decode b_Cal_monthStart 37 = .ok (.ireturn, 1) := by decide +kernel
abbrev b_Cal_monthSize : ByteArray := prog_3_method_6_code
def y_Cal_monthSize : MethodName := ⟨"ZoneFiles$Calendar", "monthSize", "(IZ)I"⟩
theorem d_Cal_monthSize_0 : decode b_Cal_monthSize 0 = .ok (.iload_n 0, 1) := by decide +kernel
theorem d_Cal_monthSize_1 : decode b_Cal_monthSize 1 = .ok (.iconst 1, 1) := by decide +kernel
theorem d_Cal_monthSize_2 : decode b_Cal_monthSize 2 = .ok (.iadd, 1) := by decide +kernel
theorem d_Cal_monthSize_3 : decode b_Cal_monthSize 3 = .ok (.iload_n 1, 1) := by decide +kernel
theorem d_Cal_monthSize_4 : decode b_Cal_monthSize 4 = .ok (.invokestatic 39, 3) := by decide +kernel
theorem d_Cal_monthSize_7 : decode b_Cal_monthSize 7 = .ok (.iload_n 0, 1) := by decide +kernel
theorem d_Cal_monthSize_8 : decode b_Cal_monthSize 8 = .ok (.iload_n 1, 1) := by decide +kernel
theorem d_Cal_monthSize_9 : decode b_Cal_monthSize 9 = .ok (.invokestatic 39, 3) := by decide +kernel
theorem d_Cal_monthSize_12 : decode b_Cal_monthSize 12 = .ok (.isub, 1) := by decide +kernel
theorem d_Cal_monthSize_13 : decode b_Cal_monthSize 13 = .ok (.ireturn, 1) := by decide +kernel
abbrev b_Cal_monthOf : ByteArray := prog_3_method_7_code
def y_Cal_monthOf : MethodName := ⟨"ZoneFiles$Calendar", "monthOf", "(IZ)I"⟩
theorem d_Cal_monthOf_0 : decode b_Cal_monthOf 0 = .ok (.bipush 12, 2) := by decide +kernel
theorem d_Cal_monthOf_2 : decode b_Cal_monthOf 2 = .ok (.istore_n 2, 1) := by decide +kernel
theorem d_Cal_monthOf_3 : decode b_Cal_monthOf 3 = .ok (.iconst 0, 1) := by decide +kernel
theorem d_Cal_monthOf_4 : decode b_Cal_monthOf 4 = .ok (.istore_n 3, 1) := by decide +kernel
theorem d_Cal_monthOf_5 : decode b_Cal_monthOf 5 = .ok (.iload_n 3, 1) := by decide +kernel
theorem d_Cal_monthOf_6 : decode b_Cal_monthOf 6 = .ok (.bipush 11, 2) := by decide +kernel
theorem d_Cal_monthOf_8 : decode b_Cal_monthOf 8 = .ok (.if_icmp .ge 21, 3) := by decide +kernel
theorem d_Cal_monthOf_11 : decode b_Cal_monthOf 11 = .ok (.iload_n 2, 1) := by decide +kernel
theorem d_Cal_monthOf_12 : decode b_Cal_monthOf 12 = .ok (.iload_n 1, 1) := by decide +kernel
theorem d_Cal_monthOf_13 : decode b_Cal_monthOf 13 = .ok (.invokestatic 39, 3) := by decide +kernel
theorem d_Cal_monthOf_16 : decode b_Cal_monthOf 16 = .ok (.iload_n 0, 1) := by decide +kernel
theorem d_Cal_monthOf_17 : decode b_Cal_monthOf 17 = .ok (.if_icmp .le 12, 3) := by decide +kernel
theorem d_Cal_monthOf_20 : decode b_Cal_monthOf 20 = .ok (.iinc 2 (-1), 3) := by decide +kernel
theorem d_Cal_monthOf_23 : decode b_Cal_monthOf 23 = .ok (.iinc 3 1, 3) := by decide +kernel
theorem d_Cal_monthOf_26 : decode b_Cal_monthOf 26 = .ok (.goto (-21), 3) := by decide +kernel
theorem d_Cal_monthOf_29 : decode b_Cal_monthOf 29 = .ok (.iload_n 2, 1) := by decide +kernel
theorem d_Cal_monthOf_30 : decode b_Cal_monthOf 30 = .ok (.ireturn, 1) := by decide +kernel
abbrev b_Cal_weekday : ByteArray := prog_3_method_8_code
def y_Cal_weekday : MethodName := ⟨"ZoneFiles$Calendar", "weekday", "(J)I"⟩
theorem d_Cal_weekday_0 : decode b_Cal_weekday 0 = .ok (.lload_n 0, 1) := by decide +kernel
theorem d_Cal_weekday_1 : decode b_Cal_weekday 1 = .ok (.ldc2_w 7, 3) := by decide +kernel
theorem d_Cal_weekday_4 : decode b_Cal_weekday 4 = .ok (.ladd, 1) := by decide +kernel
theorem d_Cal_weekday_5 : decode b_Cal_weekday 5 = .ok (.ldc2_w 43, 3) := by decide +kernel
theorem d_Cal_weekday_8 : decode b_Cal_weekday 8 = .ok (.invokestatic 45, 3) := by decide +kernel
theorem d_Cal_weekday_11 : decode b_Cal_weekday 11 = .ok (.l2i, 1) := by decide +kernel
theorem d_Cal_weekday_12 : decode b_Cal_weekday 12 = .ok (.ireturn, 1) := by decide +kernel
-- java/lang/Math.floorDiv(JJ)J
def f_Math_floorDiv_27 (nf : Nat) (x4 : Int64) : Option (Int64) :=
  some x4
def f_Math_floorDiv_0 (nf : Nat) (x0 : Int64) (x2 : Int64) : Option (Int64) :=
  if x2 = 0 then none else
  if (0 : Int64) ≤ (x0 ^^^ x2) then
  f_Math_floorDiv_27 nf (x0 / x2)
  else
  if ((x0 / x2) * x2) = x0 then
    f_Math_floorDiv_27 nf (x0 / x2)
    else
    some ((x0 / x2) - 1)
def f_Math_floorDiv (nf : Nat) (p0 : Int64) (p1 : Int64) : Option (Int64) :=
  f_Math_floorDiv_0 nf p0 p1
section
variable {p : Program} {l : Launch} {e : Env} {R : Room} {s : State} {m : MethodId} {args : Array Value} {below : List Frame} {meth : Method} {c : Code} {Q : State → Prop} {dC : Nat → ClassId} {dI : Nat → Nat → Nat} {nf : Nat}
variable {r0 : Int64}
set_option maxHeartbeats 400000 in
set_option maxRecDepth 100000 in
theorem k_Math_floorDiv_27 (C0 : Cx p s m meth c args R b_Math_floorDiv "java/lang/Math" 6 (some .long) 0 0) (hST : ST (fun _ => False) s s.heap) (hK : va_K (dC, dI) classes [] s) (hE : ∀ (pc : Nat) (ls : Array Slot), decode b_Math_floorDiv pc = .ok (.lreturn, 1) → W p l e R s m args below meth c s.heap [] 0 0 Q (F0 m pc ls [.long r0])) {x4 : Int64} (hf : f_Math_floorDiv_27 nf x4 = some r0) {ls : Array Slot} (hl : lv_has ls 6 [(4, .long x4)]) : W p l e R s m args below meth c s.heap [] 0 0 Q (F0 m 27 ls []) := by
  obtain ⟨hx, hb, hr, hml, hown, hts, hlocks, hRf, hRl⟩ := id C0
  obtain ⟨tms, hZms, hTms, tmg, hZmg, hTmg, hNW⟩ := id hST
  unfold f_Math_floorDiv_27 at hf
  refine lv_lload hx hb d_Math_floorDiv_27 (lv_at hl 0 rfl) ?_
  have e := rs hf
  subst e
  exact hE _ _ d_Math_floorDiv_29
set_option maxHeartbeats 400000 in
set_option maxRecDepth 100000 in
theorem k_Math_floorDiv_0 (C0 : Cx p s m meth c args R b_Math_floorDiv "java/lang/Math" 6 (some .long) 0 0) (hST : ST (fun _ => False) s s.heap) (hK : va_K (dC, dI) classes [] s) (hE : ∀ (pc : Nat) (ls : Array Slot), decode b_Math_floorDiv pc = .ok (.lreturn, 1) → W p l e R s m args below meth c s.heap [] 0 0 Q (F0 m pc ls [.long r0])) {x0 : Int64} {x2 : Int64} (hf : f_Math_floorDiv_0 nf x0 x2 = some r0) {ls : Array Slot} (hl : lv_has ls 6 [(0, .long x0), (2, .long x2)]) : W p l e R s m args below meth c s.heap [] 0 0 Q (F0 m 0 ls []) := by
  obtain ⟨hx, hb, hr, hml, hown, hts, hlocks, hRf, hRl⟩ := id C0
  obtain ⟨tms, hZms, hTms, tmg, hZmg, hTmg, hNW⟩ := id hST
  unfold f_Math_floorDiv_0 at hf
  refine lv_lload_n hx hb d_Math_floorDiv_0 rfl (lv_at hl 0 rfl) ?_
  refine lv_lload_n hx hb d_Math_floorDiv_1 rfl (lv_at hl 1 rfl) ?_
  obtain ⟨c_1, hf⟩ := it_n hf
  refine lv_ldiv hx hb d_Math_floorDiv_2 c_1 ?_
  refine lv_lstore (lv' := [(4, .long (x0 / x2)), (0, .long x0), (2, .long x2)]) hx hb d_Math_floorDiv_3 hl (by decide) rfl (fun ls hl => ?_)
  refine lv_lload_n hx hb d_Math_floorDiv_5 rfl (lv_at hl 1 rfl) ?_
  refine lv_lload_n hx hb d_Math_floorDiv_6 rfl (lv_at hl 2 rfl) ?_
  refine lv_lxor hx hb d_Math_floorDiv_7 ?_
  refine lv_lconst (v := 0) hx hb d_Math_floorDiv_8 (by decide) ?_
  refine lc_ge (tgt := 27) hx hb d_Math_floorDiv_9 d_Math_floorDiv_10 (by decide) (fun c_2 => ?_) (fun c_2 => ?_)
  · have hf := it_t c_2 hf
    exact k_Math_floorDiv_27 C0 hST hK hE hf (lv_sub hl [0] rfl)
  · have hf := it_f c_2 hf
    refine lv_lload hx hb d_Math_floorDiv_13 (lv_at hl 0 rfl) ?_
    refine lv_lload_n hx hb d_Math_floorDiv_15 rfl (lv_at hl 2 rfl) ?_
    refine lv_lmul hx hb d_Math_floorDiv_16 ?_
    refine lv_lload_n hx hb d_Math_floorDiv_17 rfl (lv_at hl 1 rfl) ?_
    refine lc_eq (tgt := 27) hx hb d_Math_floorDiv_18 d_Math_floorDiv_19 (by decide) (fun c_3 => ?_) (fun c_3 => ?_)
    · have hf := it_t c_3 hf
      exact k_Math_floorDiv_27 C0 hST hK hE hf (lv_sub hl [0] rfl)
    · have hf := it_f c_3 hf
      refine lv_lload hx hb d_Math_floorDiv_22 (lv_at hl 0 rfl) ?_
      refine lv_lconst (v := 1) hx hb d_Math_floorDiv_24 (by decide) ?_
      refine lv_lsub hx hb d_Math_floorDiv_25 ?_
      have e := rs hf
      subst e
      exact hE _ _ d_Math_floorDiv_26
end
set_option maxHeartbeats 400000 in
set_option maxRecDepth 100000 in
theorem c_Math_floorDiv (l : Launch) (dC : Nat → ClassId) (dI : Nat → Nat → Nat) (nf : Nat) (p0 : Int64) (p1 : Int64) {r0 : Int64} (hf : f_Math_floorDiv nf p0 p1 = some r0) : Met l y_Math_floorDiv (wd y_Math_floorDiv b_Math_floorDiv 6 (some .long)) ({ frames := 0, cells := 0, slots := 0, locals := 0 }) (RO dC dI [] [] [.long p0, .long p1]) (SV (some (.long r0))) 0 0 (fun _ => False) :=
  met_S (by decide +kernel) (Nat.le_of_ble_eq_true rfl) (fun p e R s m args below meth c ls C0 hST hK hP hl => by
    obtain ⟨hx, hb, hr, hml, hown, hts, hlocks, hRf, hRl⟩ := id C0
    unfold f_Math_floorDiv at hf
    exact k_Math_floorDiv_0 C0 hST hK (fun pc ls hd => W.lret hx hb hr (fun t ht hW => ⟨rfl, ht⟩) (fun q h => by cases h) hd) hf (lv_sub hl [0, 1] rfl))
-- java/lang/Math.floorMod(JJ)J
def f_Math_floorMod_25 (nf : Nat) (x4 : Int64) : Option (Int64) :=
  some x4
def f_Math_floorMod_0 (nf : Nat) (x0 : Int64) (x2 : Int64) : Option (Int64) :=
  if x2 = 0 then none else
  if (0 : Int64) ≤ (x0 ^^^ x2) then
  f_Math_floorMod_25 nf (x0 - x0 / x2 * x2)
  else
  if (x0 - x0 / x2 * x2) = (0 : Int64) then
    f_Math_floorMod_25 nf (x0 - x0 / x2 * x2)
    else
    some ((x0 - x0 / x2 * x2) + x2)
def f_Math_floorMod (nf : Nat) (p0 : Int64) (p1 : Int64) : Option (Int64) :=
  f_Math_floorMod_0 nf p0 p1
section
variable {p : Program} {l : Launch} {e : Env} {R : Room} {s : State} {m : MethodId} {args : Array Value} {below : List Frame} {meth : Method} {c : Code} {Q : State → Prop} {dC : Nat → ClassId} {dI : Nat → Nat → Nat} {nf : Nat}
variable {r0 : Int64}
set_option maxHeartbeats 400000 in
set_option maxRecDepth 100000 in
theorem k_Math_floorMod_25 (C0 : Cx p s m meth c args R b_Math_floorMod "java/lang/Math" 6 (some .long) 0 0) (hST : ST (fun _ => False) s s.heap) (hK : va_K (dC, dI) classes [] s) (hE : ∀ (pc : Nat) (ls : Array Slot), decode b_Math_floorMod pc = .ok (.lreturn, 1) → W p l e R s m args below meth c s.heap [] 0 0 Q (F0 m pc ls [.long r0])) {x4 : Int64} (hf : f_Math_floorMod_25 nf x4 = some r0) {ls : Array Slot} (hl : lv_has ls 6 [(4, .long x4)]) : W p l e R s m args below meth c s.heap [] 0 0 Q (F0 m 25 ls []) := by
  obtain ⟨hx, hb, hr, hml, hown, hts, hlocks, hRf, hRl⟩ := id C0
  obtain ⟨tms, hZms, hTms, tmg, hZmg, hTmg, hNW⟩ := id hST
  unfold f_Math_floorMod_25 at hf
  refine lv_lload hx hb d_Math_floorMod_25 (lv_at hl 0 rfl) ?_
  have e := rs hf
  subst e
  exact hE _ _ d_Math_floorMod_27
set_option maxHeartbeats 400000 in
set_option maxRecDepth 100000 in
theorem k_Math_floorMod_0 (C0 : Cx p s m meth c args R b_Math_floorMod "java/lang/Math" 6 (some .long) 0 0) (hST : ST (fun _ => False) s s.heap) (hK : va_K (dC, dI) classes [] s) (hE : ∀ (pc : Nat) (ls : Array Slot), decode b_Math_floorMod pc = .ok (.lreturn, 1) → W p l e R s m args below meth c s.heap [] 0 0 Q (F0 m pc ls [.long r0])) {x0 : Int64} {x2 : Int64} (hf : f_Math_floorMod_0 nf x0 x2 = some r0) {ls : Array Slot} (hl : lv_has ls 6 [(0, .long x0), (2, .long x2)]) : W p l e R s m args below meth c s.heap [] 0 0 Q (F0 m 0 ls []) := by
  obtain ⟨hx, hb, hr, hml, hown, hts, hlocks, hRf, hRl⟩ := id C0
  obtain ⟨tms, hZms, hTms, tmg, hZmg, hTmg, hNW⟩ := id hST
  unfold f_Math_floorMod_0 at hf
  refine lv_lload_n hx hb d_Math_floorMod_0 rfl (lv_at hl 0 rfl) ?_
  refine lv_lload_n hx hb d_Math_floorMod_1 rfl (lv_at hl 1 rfl) ?_
  obtain ⟨c_1, hf⟩ := it_n hf
  refine lv_lrem hx hb d_Math_floorMod_2 c_1 ?_
  refine lv_lstore (lv' := [(4, .long (x0 - x0 / x2 * x2)), (0, .long x0), (2, .long x2)]) hx hb d_Math_floorMod_3 hl (by decide) rfl (fun ls hl => ?_)
  refine lv_lload_n hx hb d_Math_floorMod_5 rfl (lv_at hl 1 rfl) ?_
  refine lv_lload_n hx hb d_Math_floorMod_6 rfl (lv_at hl 2 rfl) ?_
  refine lv_lxor hx hb d_Math_floorMod_7 ?_
  refine lv_lconst (v := 0) hx hb d_Math_floorMod_8 (by decide) ?_
  refine lc_ge (tgt := 25) hx hb d_Math_floorMod_9 d_Math_floorMod_10 (by decide) (fun c_2 => ?_) (fun c_2 => ?_)
  · have hf := it_t c_2 hf
    exact k_Math_floorMod_25 C0 hST hK hE hf (lv_sub hl [0] rfl)
  · have hf := it_f c_2 hf
    refine lv_lload hx hb d_Math_floorMod_13 (lv_at hl 0 rfl) ?_
    refine lv_lconst (v := 0) hx hb d_Math_floorMod_15 (by decide) ?_
    refine lc_eq (tgt := 25) hx hb d_Math_floorMod_16 d_Math_floorMod_17 (by decide) (fun c_3 => ?_) (fun c_3 => ?_)
    · have hf := it_t c_3 hf
      exact k_Math_floorMod_25 C0 hST hK hE hf (lv_sub hl [0] rfl)
    · have hf := it_f c_3 hf
      refine lv_lload hx hb d_Math_floorMod_20 (lv_at hl 0 rfl) ?_
      refine lv_lload_n hx hb d_Math_floorMod_22 rfl (lv_at hl 2 rfl) ?_
      refine lv_ladd hx hb d_Math_floorMod_23 ?_
      have e := rs hf
      subst e
      exact hE _ _ d_Math_floorMod_24
end
set_option maxHeartbeats 400000 in
set_option maxRecDepth 100000 in
theorem c_Math_floorMod (l : Launch) (dC : Nat → ClassId) (dI : Nat → Nat → Nat) (nf : Nat) (p0 : Int64) (p1 : Int64) {r0 : Int64} (hf : f_Math_floorMod nf p0 p1 = some r0) : Met l y_Math_floorMod (wd y_Math_floorMod b_Math_floorMod 6 (some .long)) ({ frames := 0, cells := 0, slots := 0, locals := 0 }) (RO dC dI [] [] [.long p0, .long p1]) (SV (some (.long r0))) 0 0 (fun _ => False) :=
  met_S (by decide +kernel) (Nat.le_of_ble_eq_true rfl) (fun p e R s m args below meth c ls C0 hST hK hP hl => by
    obtain ⟨hx, hb, hr, hml, hown, hts, hlocks, hRf, hRl⟩ := id C0
    unfold f_Math_floorMod at hf
    exact k_Math_floorMod_0 C0 hST hK (fun pc ls hd => W.lret hx hb hr (fun t ht hW => ⟨rfl, ht⟩) (fun q h => by cases h) hd) hf (lv_sub hl [0, 1] rfl))
-- ZoneFiles$Calendar.isLongYear(J)Z
def f_Cal_isLongYear_35 (nf : Nat) (s0 : Int32) : Option (Int32) :=
  if s0 = 0 ∨ s0 = 1 then some s0 else none
def f_Cal_isLongYear_34 (nf : Nat) : Option (Int32) :=
  f_Cal_isLongYear_35 nf 0
def f_Cal_isLongYear_30 (nf : Nat) : Option (Int32) :=
  f_Cal_isLongYear_35 nf 1
def f_Cal_isLongYear_0 (nf : Nat) (x0 : Int64) : Option (Int32) :=
  if (x0 - x0 / 4 * 4) = (0 : Int64) then
  if (x0 - x0 / 100 * 100) = (0 : Int64) then
    if (x0 - x0 / 400 * 400) = (0 : Int64) then
      f_Cal_isLongYear_30 nf
      else
      f_Cal_isLongYear_34 nf
    else
    f_Cal_isLongYear_30 nf
  else
  f_Cal_isLongYear_34 nf
def f_Cal_isLongYear (nf : Nat) (p0 : Int64) : Option (Int32) :=
  f_Cal_isLongYear_0 nf p0
section
variable {p : Program} {l : Launch} {e : Env} {R : Room} {s : State} {m : MethodId} {args : Array Value} {below : List Frame} {meth : Method} {c : Code} {Q : State → Prop} {dC : Nat → ClassId} {dI : Nat → Nat → Nat} {nf : Nat}
variable {r0 : Int32}
set_option maxHeartbeats 400000 in
set_option maxRecDepth 100000 in
theorem k_Cal_isLongYear_35 (C0 : Cx p s m meth c args R b_Cal_isLongYear "ZoneFiles$Calendar" 2 (some .boolean) 0 0) (hST : ST (fun _ => False) s s.heap) (hK : va_K (dC, dI) classes [] s) (hE : ∀ (pc : Nat) (ls : Array Slot), decode b_Cal_isLongYear pc = .ok (.ireturn, 1) → narrow .boolean (.int r0) = .int r0 → W p l e R s m args below meth c s.heap [] 0 0 Q (F0 m pc ls [.int r0])) {s0 : Int32} (hf : f_Cal_isLongYear_35 nf s0 = some r0) {ls : Array Slot} (hl : lv_has ls 2 []) : W p l e R s m args below meth c s.heap [] 0 0 Q (F0 m 35 ls [.int s0]) := by
  obtain ⟨hx, hb, hr, hml, hown, hts, hlocks, hRf, hRl⟩ := id C0
  obtain ⟨tms, hZms, hTms, tmg, hZmg, hTmg, hNW⟩ := id hST
  unfold f_Cal_isLongYear_35 at hf
  obtain ⟨c_2, hf⟩ := it_g hf
  have e := rs hf
  subst e
  exact hE _ _ d_Cal_isLongYear_35 (nb_of c_2)
set_option maxHeartbeats 400000 in
set_option maxRecDepth 100000 in
theorem k_Cal_isLongYear_34 (C0 : Cx p s m meth c args R b_Cal_isLongYear "ZoneFiles$Calendar" 2 (some .boolean) 0 0) (hST : ST (fun _ => False) s s.heap) (hK : va_K (dC, dI) classes [] s) (hE : ∀ (pc : Nat) (ls : Array Slot), decode b_Cal_isLongYear pc = .ok (.ireturn, 1) → narrow .boolean (.int r0) = .int r0 → W p l e R s m args below meth c s.heap [] 0 0 Q (F0 m pc ls [.int r0])) (hf : f_Cal_isLongYear_34 nf = some r0) {ls : Array Slot} (hl : lv_has ls 2 []) : W p l e R s m args below meth c s.heap [] 0 0 Q (F0 m 34 ls []) := by
  obtain ⟨hx, hb, hr, hml, hown, hts, hlocks, hRf, hRl⟩ := id C0
  obtain ⟨tms, hZms, hTms, tmg, hZmg, hTmg, hNW⟩ := id hST
  unfold f_Cal_isLongYear_34 at hf
  refine lv_iconst (v := 0) hx hb d_Cal_isLongYear_34 (by decide) ?_
  exact k_Cal_isLongYear_35 C0 hST hK hE hf (lv_sub hl [] rfl)
set_option maxHeartbeats 400000 in
set_option maxRecDepth 100000 in
theorem k_Cal_isLongYear_30 (C0 : Cx p s m meth c args R b_Cal_isLongYear "ZoneFiles$Calendar" 2 (some .boolean) 0 0) (hST : ST (fun _ => False) s s.heap) (hK : va_K (dC, dI) classes [] s) (hE : ∀ (pc : Nat) (ls : Array Slot), decode b_Cal_isLongYear pc = .ok (.ireturn, 1) → narrow .boolean (.int r0) = .int r0 → W p l e R s m args below meth c s.heap [] 0 0 Q (F0 m pc ls [.int r0])) (hf : f_Cal_isLongYear_30 nf = some r0) {ls : Array Slot} (hl : lv_has ls 2 []) : W p l e R s m args below meth c s.heap [] 0 0 Q (F0 m 30 ls []) := by
  obtain ⟨hx, hb, hr, hml, hown, hts, hlocks, hRf, hRl⟩ := id C0
  obtain ⟨tms, hZms, hTms, tmg, hZmg, hTmg, hNW⟩ := id hST
  unfold f_Cal_isLongYear_30 at hf
  refine lv_iconst (v := 1) hx hb d_Cal_isLongYear_30 (by decide) ?_
  refine lv_goto (tgt := 35) hx hb d_Cal_isLongYear_31 (by decide) ?_
  exact k_Cal_isLongYear_35 C0 hST hK hE hf (lv_sub hl [] rfl)
set_option maxHeartbeats 400000 in
set_option maxRecDepth 100000 in
theorem k_Cal_isLongYear_0 (C0 : Cx p s m meth c args R b_Cal_isLongYear "ZoneFiles$Calendar" 2 (some .boolean) 0 0) (hST : ST (fun _ => False) s s.heap) (hK : va_K (dC, dI) classes [] s) (hE : ∀ (pc : Nat) (ls : Array Slot), decode b_Cal_isLongYear pc = .ok (.ireturn, 1) → narrow .boolean (.int r0) = .int r0 → W p l e R s m args below meth c s.heap [] 0 0 Q (F0 m pc ls [.int r0])) {x0 : Int64} (hf : f_Cal_isLongYear_0 nf x0 = some r0) {ls : Array Slot} (hl : lv_has ls 2 [(0, .long x0)]) : W p l e R s m args below meth c s.heap [] 0 0 Q (F0 m 0 ls []) := by
  obtain ⟨hx, hb, hr, hml, hown, hts, hlocks, hRf, hRl⟩ := id C0
  obtain ⟨tms, hZms, hTms, tmg, hZmg, hTmg, hNW⟩ := id hST
  unfold f_Cal_isLongYear_0 at hf
  refine lv_lload_n hx hb d_Cal_isLongYear_0 rfl (lv_at hl 0 rfl) ?_
  refine lv_ldc2 (v := 4) hx hb hown (hts (.constantLong "ZoneFiles$Calendar" 7 4) m_4_173) d_Cal_isLongYear_1 ?_
  refine lv_lrem hx hb d_Cal_isLongYear_4 (by decide) ?_
  refine lv_lconst (v := 0) hx hb d_Cal_isLongYear_5 (by decide) ?_
  refine lc_ne (tgt := 34) hx hb d_Cal_isLongYear_6 d_Cal_isLongYear_7 (by decide) (fun c_1 => ?_) (fun c_1 => ?_)
  · have hf := it_f c_1 hf
    exact k_Cal_isLongYear_34 C0 hST hK hE hf (lv_sub hl [] rfl)
  · have hf := it_t c_1 hf
    refine lv_lload_n hx hb d_Cal_isLongYear_10 rfl (lv_at hl 0 rfl) ?_
    refine lv_ldc2 (v := 100) hx hb hown (hts (.constantLong "ZoneFiles$Calendar" 9 100) m_4_174) d_Cal_isLongYear_11 ?_
    refine lv_lrem hx hb d_Cal_isLongYear_14 (by decide) ?_
    refine lv_lconst (v := 0) hx hb d_Cal_isLongYear_15 (by decide) ?_
    refine lc_ne (tgt := 30) hx hb d_Cal_isLongYear_16 d_Cal_isLongYear_17 (by decide) (fun c_3 => ?_) (fun c_3 => ?_)
    · have hf := it_f c_3 hf
      exact k_Cal_isLongYear_30 C0 hST hK hE hf (lv_sub hl [] rfl)
    · have hf := it_t c_3 hf
      refine lv_lload_n hx hb d_Cal_isLongYear_20 rfl (lv_at hl 0 rfl) ?_
      refine lv_ldc2 (v := 400) hx hb hown (hts (.constantLong "ZoneFiles$Calendar" 11 400) m_4_168) d_Cal_isLongYear_21 ?_
      refine lv_lrem hx hb d_Cal_isLongYear_24 (by decide) ?_
      refine lv_lconst (v := 0) hx hb d_Cal_isLongYear_25 (by decide) ?_
      refine lc_ne (tgt := 34) hx hb d_Cal_isLongYear_26 d_Cal_isLongYear_27 (by decide) (fun c_4 => ?_) (fun c_4 => ?_)
      · have hf := it_f c_4 hf
        exact k_Cal_isLongYear_34 C0 hST hK hE hf (lv_sub hl [] rfl)
      · have hf := it_t c_4 hf
        exact k_Cal_isLongYear_30 C0 hST hK hE hf (lv_sub hl [] rfl)
end
set_option maxHeartbeats 400000 in
set_option maxRecDepth 100000 in
theorem c_Cal_isLongYear (l : Launch) (dC : Nat → ClassId) (dI : Nat → Nat → Nat) (nf : Nat) (p0 : Int64) {r0 : Int32} (hf : f_Cal_isLongYear nf p0 = some r0) : Met l y_Cal_isLongYear (wd y_Cal_isLongYear b_Cal_isLongYear 2 (some .boolean)) ({ frames := 0, cells := 0, slots := 0, locals := 0 }) (RO dC dI [] [] [.long p0]) (SV (some (.int r0))) 0 0 (fun _ => False) :=
  met_S (plainFor_of_name (by decide)) (Nat.le_of_ble_eq_true rfl) (fun p e R s m args below meth c ls C0 hST hK hP hl => by
    obtain ⟨hx, hb, hr, hml, hown, hts, hlocks, hRf, hRl⟩ := id C0
    unfold f_Cal_isLongYear at hf
    exact k_Cal_isLongYear_0 C0 hST hK (fun pc ls hd hn => W.zret hx hb hr hn (fun t ht hW => ⟨rfl, ht⟩) (fun q h => by cases h) hd) hf (lv_sub hl [0] rfl))
-- ZoneFiles$Calendar.yearStart(J)J
def f_Cal_yearStart_0 (nf : Nat) (x0 : Int64) : Option (Int64) :=
  (f_Math_floorDiv nf (x0 - 1) 4).bind fun r_1 =>
  (f_Math_floorDiv nf (x0 - 1) 100).bind fun r_2 =>
  (f_Math_floorDiv nf (x0 - 1) 400).bind fun r_3 =>
  some (((365 * (x0 - 1970)) + ((r_1 - r_2) + r_3)) - 477)
def f_Cal_yearStart (nf : Nat) (p0 : Int64) : Option (Int64) :=
  f_Cal_yearStart_0 nf p0
section
variable {p : Program} {l : Launch} {e : Env} {R : Room} {s : State} {m : MethodId} {args : Array Value} {below : List Frame} {meth : Method} {c : Code} {Q : State → Prop} {dC : Nat → ClassId} {dI : Nat → Nat → Nat} {nf : Nat}
variable {r0 : Int64}
set_option maxHeartbeats 400000 in
set_option maxRecDepth 100000 in
theorem k_Cal_yearStart_0 (C0 : Cx p s m meth c args R b_Cal_yearStart "ZoneFiles$Calendar" 6 (some .long) 1 25) (hST : ST (fun _ => False) s s.heap) (hK : va_K (dC, dI) classes [] s) (hE : ∀ (pc : Nat) (ls : Array Slot), decode b_Cal_yearStart pc = .ok (.lreturn, 1) → W p l e R s m args below meth c s.heap [] 0 0 Q (F0 m pc ls [.long r0])) {x0 : Int64} (hf : f_Cal_yearStart_0 nf x0 = some r0) {ls : Array Slot} (hl : lv_has ls 6 [(0, .long x0)]) : W p l e R s m args below meth c s.heap [] 0 0 Q (F0 m 0 ls []) := by
  obtain ⟨hx, hb, hr, hml, hown, hts, hlocks, hRf, hRl⟩ := id C0
  obtain ⟨tms, hZms, hTms, tmg, hZmg, hTmg, hNW⟩ := id hST
  unfold f_Cal_yearStart_0 at hf
  refine lv_lload_n hx hb d_Cal_yearStart_0 rfl (lv_at hl 0 rfl) ?_
  refine lv_lconst (v := 1) hx hb d_Cal_yearStart_1 (by decide) ?_
  refine lv_lsub hx hb d_Cal_yearStart_2 ?_
  refine lv_lstore_n (lv' := [(2, .long (x0 - 1)), (0, .long x0)]) hx hb d_Cal_yearStart_3 rfl hl (by decide) rfl (fun ls hl => ?_)
  refine lv_lload_n hx hb d_Cal_yearStart_4 rfl (lv_at hl 0 rfl) ?_
  refine lv_ldc2 (v := 4) hx hb hown (hts (.constantLong "ZoneFiles$Calendar" 7 4) m_4_173) d_Cal_yearStart_5 ?_
  obtain ⟨r_1, hc, hf⟩ := ob hf
  refine cl_S (v := (some (.long r_1))) (st1 := [.long r_1]) (va_runS (As := [.long (x0 - 1), .long 4]) (rest := []) ⟨hx, hb, hml, hown, hts⟩ (c_Math_floorDiv l dC dI nf (x0 - 1) 4 hc) (va_cwS 2 hts (gdS m_4_167 m_4_160 m_1_7 m_4_161) rfl rfl rfl (by decide +kernel) ⟨Nat.le_trans (Nat.le_of_ble_eq_true rfl) hRf, Nat.le_trans (Nat.le_of_ble_eq_true rfl) hRl⟩) (RO.pre0 hK hST).sta rfl rfl hl.1 rfl (lv_room (Nat.le_of_ble_eq_true rfl)) d_Cal_yearStart_8 ⟨Nat.zero_le _, Nat.zero_le _⟩) rfl ?_
  refine lv_lload_n hx hb d_Cal_yearStart_11 rfl (lv_at hl 0 rfl) ?_
  refine lv_ldc2 (v := 100) hx hb hown (hts (.constantLong "ZoneFiles$Calendar" 9 100) m_4_174) d_Cal_yearStart_12 ?_
  obtain ⟨r_2, hc, hf⟩ := ob hf
  refine cl_S (v := (some (.long r_2))) (st1 := [.long r_2, .long r_1]) (va_runS (As := [.long (x0 - 1), .long 100]) (rest := [.long r_1]) ⟨hx, hb, hml, hown, hts⟩ (c_Math_floorDiv l dC dI nf (x0 - 1) 100 hc) (va_cwS 2 hts (gdS m_4_167 m_4_160 m_1_7 m_4_161) rfl rfl rfl (by decide +kernel) ⟨Nat.le_trans (Nat.le_of_ble_eq_true rfl) hRf, Nat.le_trans (Nat.le_of_ble_eq_true rfl) hRl⟩) (RO.pre0 hK hST).sta rfl rfl hl.1 rfl (lv_room (Nat.le_of_ble_eq_true rfl)) d_Cal_yearStart_15 ⟨Nat.zero_le _, Nat.zero_le _⟩) rfl ?_
  refine lv_lsub hx hb d_Cal_yearStart_18 ?_
  refine lv_lload_n hx hb d_Cal_yearStart_19 rfl (lv_at hl 0 rfl) ?_
  refine lv_ldc2 (v := 400) hx hb hown (hts (.constantLong "ZoneFiles$Calendar" 11 400) m_4_168) d_Cal_yearStart_20 ?_
  obtain ⟨r_3, hc, hf⟩ := ob hf
  refine cl_S (v := (some (.long r_3))) (st1 := [.long r_3, .long (r_1 - r_2)]) (va_runS (As := [.long (x0 - 1), .long 400]) (rest := [.long (r_1 - r_2)]) ⟨hx, hb, hml, hown, hts⟩ (c_Math_floorDiv l dC dI nf (x0 - 1) 400 hc) (va_cwS 2 hts (gdS m_4_167 m_4_160 m_1_7 m_4_161) rfl rfl rfl (by decide +kernel) ⟨Nat.le_trans (Nat.le_of_ble_eq_true rfl) hRf, Nat.le_trans (Nat.le_of_ble_eq_true rfl) hRl⟩) (RO.pre0 hK hST).sta rfl rfl hl.1 rfl (lv_room (Nat.le_of_ble_eq_true rfl)) d_Cal_yearStart_23 ⟨Nat.zero_le _, Nat.zero_le _⟩) rfl ?_
  refine lv_ladd hx hb d_Cal_yearStart_26 ?_
  refine lv_lstore (lv' := [(4, .long ((r_1 - r_2) + r_3)), (2, .long (x0 - 1)), (0, .long x0)]) hx hb d_Cal_yearStart_27 hl (by decide) rfl (fun ls hl => ?_)
  refine lv_ldc2 (v := 365) hx hb hown (hts (.constantLong "ZoneFiles$Calendar" 19 365) m_4_169) d_Cal_yearStart_29 ?_
  refine lv_lload_n hx hb d_Cal_yearStart_32 rfl (lv_at hl 2 rfl) ?_
  refine lv_ldc2 (v := 1970) hx hb hown (hts (.constantLong "ZoneFiles$Calendar" 21 1970) m_4_175) d_Cal_yearStart_33 ?_
  refine lv_lsub hx hb d_Cal_yearStart_36 ?_
  refine lv_lmul hx hb d_Cal_yearStart_37 ?_
  refine lv_lload hx hb d_Cal_yearStart_38 (lv_at hl 0 rfl) ?_
  refine lv_ladd hx hb d_Cal_yearStart_40 ?_
  refine lv_ldc2 (v := 477) hx hb hown (hts (.constantLong "ZoneFiles$Calendar" 25 477) m_4_176) d_Cal_yearStart_41 ?_
  refine lv_lsub hx hb d_Cal_yearStart_44 ?_
  have e := rs hf
  subst e
  exact hE _ _ d_Cal_yearStart_45
end
set_option maxHeartbeats 400000 in
set_option maxRecDepth 100000 in
theorem c_Cal_yearStart (l : Launch) (dC : Nat → ClassId) (dI : Nat → Nat → Nat) (nf : Nat) (p0 : Int64) {r0 : Int64} (hf : f_Cal_yearStart nf p0 = some r0) : Met l y_Cal_yearStart (wd y_Cal_yearStart b_Cal_yearStart 6 (some .long)) ({ frames := 1, cells := 0, slots := 0, locals := 25 }) (RO dC dI [] [] [.long p0]) (SV (some (.long r0))) 0 0 (fun _ => False) :=
  met_S (plainFor_of_name (by decide)) (Nat.le_of_ble_eq_true rfl) (fun p e R s m args below meth c ls C0 hST hK hP hl => by
    obtain ⟨hx, hb, hr, hml, hown, hts, hlocks, hRf, hRl⟩ := id C0
    unfold f_Cal_yearStart at hf
    exact k_Cal_yearStart_0 C0 hST hK (fun pc ls hd => W.lret hx hb hr (fun t ht hW => ⟨rfl, ht⟩) (fun q h => by cases h) hd) hf (lv_sub hl [0] rfl))
-- ZoneFiles$Calendar.yearOf(J)J
def f_Cal_yearOf_55 (nf : Nat) (s0 : Int64) : Option (Int64) :=
  some s0
def f_Cal_yearOf_0 (nf : Nat) (x0 : Int64) : Option (Int64) :=
  (f_Math_floorDiv nf (x0 - (-719528)) 146097).bind fun r_1 =>
  (f_Cal_yearStart nf ((400 * r_1) + (((x0 - (-719528)) - (r_1 * 146097)) / 365))).bind fun r_2 =>
  if r_2 ≤ x0 then
  f_Cal_yearOf_55 nf ((400 * r_1) + (((x0 - (-719528)) - (r_1 * 146097)) / 365))
  else
  f_Cal_yearOf_55 nf (((400 * r_1) + (((x0 - (-719528)) - (r_1 * 146097)) / 365)) - 1)
def f_Cal_yearOf (nf : Nat) (p0 : Int64) : Option (Int64) :=
  f_Cal_yearOf_0 nf p0
section
variable {p : Program} {l : Launch} {e : Env} {R : Room} {s : State} {m : MethodId} {args : Array Value} {below : List Frame} {meth : Method} {c : Code} {Q : State → Prop} {dC : Nat → ClassId} {dI : Nat → Nat → Nat} {nf : Nat}
variable {r0 : Int64}
set_option maxHeartbeats 400000 in
set_option maxRecDepth 100000 in
theorem k_Cal_yearOf_55 (C0 : Cx p s m meth c args R b_Cal_yearOf "ZoneFiles$Calendar" 8 (some .long) 2 50) (hST : ST (fun _ => False) s s.heap) (hK : va_K (dC, dI) classes [] s) (hE : ∀ (pc : Nat) (ls : Array Slot), decode b_Cal_yearOf pc = .ok (.lreturn, 1) → W p l e R s m args below meth c s.heap [] 0 0 Q (F0 m pc ls [.long r0])) {s0 : Int64} (hf : f_Cal_yearOf_55 nf s0 = some r0) {ls : Array Slot} (hl : lv_has ls 8 []) : W p l e R s m args below meth c s.heap [] 0 0 Q (F0 m 55 ls [.long s0]) := by
  obtain ⟨hx, hb, hr, hml, hown, hts, hlocks, hRf, hRl⟩ := id C0
  obtain ⟨tms, hZms, hTms, tmg, hZmg, hTmg, hNW⟩ := id hST
  unfold f_Cal_yearOf_55 at hf
  have e := rs hf
  subst e
  exact hE _ _ d_Cal_yearOf_55
set_option maxHeartbeats 400000 in
set_option maxRecDepth 100000 in
theorem k_Cal_yearOf_0 (C0 : Cx p s m meth c args R b_Cal_yearOf "ZoneFiles$Calendar" 8 (some .long) 2 50) (hST : ST (fun _ => False) s s.heap) (hK : va_K (dC, dI) classes [] s) (hE : ∀ (pc : Nat) (ls : Array Slot), decode b_Cal_yearOf pc = .ok (.lreturn, 1) → W p l e R s m args below meth c s.heap [] 0 0 Q (F0 m pc ls [.long r0])) {x0 : Int64} (hf : f_Cal_yearOf_0 nf x0 = some r0) {ls : Array Slot} (hl : lv_has ls 8 [(0, .long x0)]) : W p l e R s m args below meth c s.heap [] 0 0 Q (F0 m 0 ls []) := by
  obtain ⟨hx, hb, hr, hml, hown, hts, hlocks, hRf, hRl⟩ := id C0
  obtain ⟨tms, hZms, hTms, tmg, hZmg, hTmg, hNW⟩ := id hST
  unfold f_Cal_yearOf_0 at hf
  refine lv_lload_n hx hb d_Cal_yearOf_0 rfl (lv_at hl 0 rfl) ?_
  refine lv_ldc2 (v := (-719528)) hx hb hown (hts (.constantLong "ZoneFiles$Calendar" 27 (-719528)) m_4_165) d_Cal_yearOf_1 ?_
  refine lv_lsub hx hb d_Cal_yearOf_4 ?_
  refine lv_lstore_n (lv' := [(2, .long (x0 - (-719528))), (0, .long x0)]) hx hb d_Cal_yearOf_5 rfl hl (by decide) rfl (fun ls hl => ?_)
  refine lv_lload_n hx hb d_Cal_yearOf_6 rfl (lv_at hl 0 rfl) ?_
  refine lv_ldc2 (v := 146097) hx hb hown (hts (.constantLong "ZoneFiles$Calendar" 29 146097) m_4_166) d_Cal_yearOf_7 ?_
  obtain ⟨r_1, hc, hf⟩ := ob hf
  refine cl_S (v := (some (.long r_1))) (st1 := [.long r_1]) (va_runS (As := [.long (x0 - (-719528)), .long 146097]) (rest := []) ⟨hx, hb, hml, hown, hts⟩ (c_Math_floorDiv l dC dI nf (x0 - (-719528)) 146097 hc) (va_cwS 2 hts (gdS m_4_167 m_4_160 m_1_7 m_4_161) rfl rfl rfl (by decide +kernel) ⟨Nat.le_trans (Nat.le_of_ble_eq_true rfl) hRf, Nat.le_trans (Nat.le_of_ble_eq_true rfl) hRl⟩) (RO.pre0 hK hST).sta rfl rfl hl.1 rfl (lv_room (Nat.le_of_ble_eq_true rfl)) d_Cal_yearOf_10 ⟨Nat.zero_le _, Nat.zero_le _⟩) rfl ?_
  refine lv_lstore (lv' := [(4, .long r_1), (2, .long (x0 - (-719528))), (0, .long x0)]) hx hb d_Cal_yearOf_13 hl (by decide) rfl (fun ls hl => ?_)
  refine lv_ldc2 (v := 400) hx hb hown (hts (.constantLong "ZoneFiles$Calendar" 11 400) m_4_168) d_Cal_yearOf_15 ?_
  refine lv_lload hx hb d_Cal_yearOf_18 (lv_at hl 0 rfl) ?_
  refine lv_lmul hx hb d_Cal_yearOf_20 ?_
  refine lv_lload_n hx hb d_Cal_yearOf_21 rfl (lv_at hl 1 rfl) ?_
  refine lv_lload hx hb d_Cal_yearOf_22 (lv_at hl 0 rfl) ?_
  refine lv_ldc2 (v := 146097) hx hb hown (hts (.constantLong "ZoneFiles$Calendar" 29 146097) m_4_166) d_Cal_yearOf_24 ?_
  refine lv_lmul hx hb d_Cal_yearOf_27 ?_
  refine lv_lsub hx hb d_Cal_yearOf_28 ?_
  refine lv_ldc2 (v := 365) hx hb hown (hts (.constantLong "ZoneFiles$Calendar" 19 365) m_4_169) d_Cal_yearOf_29 ?_
  refine lv_ldiv hx hb d_Cal_yearOf_32 (by decide) ?_
  refine lv_ladd hx hb d_Cal_yearOf_33 ?_
  refine lv_lstore (lv' := [(6, .long ((400 * r_1) + (((x0 - (-719528)) - (r_1 * 146097)) / 365))), (4, .long r_1), (2, .long (x0 - (-719528))), (0, .long x0)]) hx hb d_Cal_yearOf_34 hl (by decide) rfl (fun ls hl => ?_)
  refine lv_lload hx hb d_Cal_yearOf_36 (lv_at hl 0 rfl) ?_
  obtain ⟨r_2, hc, hf⟩ := ob hf
  refine cl_S (v := (some (.long r_2))) (st1 := [.long r_2]) (va_runS (As := [.long ((400 * r_1) + (((x0 - (-719528)) - (r_1 * 146097)) / 365))]) (rest := []) ⟨hx, hb, hml, hown, hts⟩ (c_Cal_yearStart l dC dI nf ((400 * r_1) + (((x0 - (-719528)) - (r_1 * 146097)) / 365)) hc) (va_cwS 1 hts (gdS m_4_170 m_4_171 m_1_18 m_4_172) rfl rfl rfl (by decide +kernel) ⟨Nat.le_trans (Nat.le_of_ble_eq_true rfl) hRf, Nat.le_trans (Nat.le_of_ble_eq_true rfl) hRl⟩) (RO.pre0 hK hST).sta rfl rfl hl.1 rfl (lv_room (Nat.le_of_ble_eq_true rfl)) d_Cal_yearOf_38 ⟨Nat.zero_le _, Nat.zero_le _⟩) rfl ?_
  refine lv_lload_n hx hb d_Cal_yearOf_41 rfl (lv_at hl 3 rfl) ?_
  refine lc_le (tgt := 53) hx hb d_Cal_yearOf_42 d_Cal_yearOf_43 (by decide) (fun c_3 => ?_) (fun c_3 => ?_)
  · have hf := it_t c_3 hf
    refine lv_lload hx hb d_Cal_yearOf_53 (lv_at hl 0 rfl) ?_
    exact k_Cal_yearOf_55 C0 hST hK hE hf (lv_sub hl [] rfl)
  · have hf := it_f c_3 hf
    refine lv_lload hx hb d_Cal_yearOf_46 (lv_at hl 0 rfl) ?_
    refine lv_lconst (v := 1) hx hb d_Cal_yearOf_48 (by decide) ?_
    refine lv_lsub hx hb d_Cal_yearOf_49 ?_
    refine lv_goto (tgt := 55) hx hb d_Cal_yearOf_50 (by decide) ?_
    exact k_Cal_yearOf_55 C0 hST hK hE hf (lv_sub hl [] rfl)
end
set_option maxHeartbeats 400000 in
set_option maxRecDepth 100000 in
theorem c_Cal_yearOf (l : Launch) (dC : Nat → ClassId) (dI : Nat → Nat → Nat) (nf : Nat) (p0 : Int64) {r0 : Int64} (hf : f_Cal_yearOf nf p0 = some r0) : Met l y_Cal_yearOf (wd y_Cal_yearOf b_Cal_yearOf 8 (some .long)) ({ frames := 2, cells := 0, slots := 0, locals := 50 }) (RO dC dI [] [] [.long p0]) (SV (some (.long r0))) 0 0 (fun _ => False) :=
  met_S (plainFor_of_name (by decide)) (Nat.le_of_ble_eq_true rfl) (fun p e R s m args below meth c ls C0 hST hK hP hl => by
    obtain ⟨hx, hb, hr, hml, hown, hts, hlocks, hRf, hRl⟩ := id C0
    unfold f_Cal_yearOf at hf
    exact k_Cal_yearOf_0 C0 hST hK (fun pc ls hd => W.lret hx hb hr (fun t ht hW => ⟨rfl, ht⟩) (fun q h => by cases h) hd) hf (lv_sub hl [0] rfl))
-- ZoneFiles$Calendar.monthStart(IZ)I
def f_Cal_monthStart_13 (nf : Nat) : Option (Int32) :=
  some 0
def f_Cal_monthStart_36 (nf : Nat) (s0 : Int32) (s1 : Int32) : Option (Int32) :=
  some (s1 + s0)
def f_Cal_monthStart_35 (nf : Nat) (s0 : Int32) : Option (Int32) :=
  f_Cal_monthStart_36 nf 0 s0
def f_Cal_monthStart_0 (nf : Nat) (x0 : Int32) (x1 : Int32) : Option (Int32) :=
  if x0 < (1 : Int32) then
  f_Cal_monthStart_13 nf
  else
  if x0 ≤ (13 : Int32) then
    if (x0 - 1) < 0 ∨ 13 ≤ (x0 - 1).toNatClampNeg then none else
      if x1 = 0 then
      f_Cal_monthStart_35 nf (ms_v (x0 - 1).toNatClampNeg)
      else
      if x0 ≤ (2 : Int32) then
        f_Cal_monthStart_35 nf (ms_v (x0 - 1).toNatClampNeg)
        else
        f_Cal_monthStart_36 nf 1 (ms_v (x0 - 1).toNatClampNeg)
    else
    f_Cal_monthStart_13 nf
def f_Cal_monthStart (nf : Nat) (p0 : Int32) (p1 : Int32) : Option (Int32) :=
  f_Cal_monthStart_0 nf p0 p1
section
variable {p : Program} {l : Launch} {e : Env} {R : Room} {s : State} {m : MethodId} {args : Array Value} {below : List Frame} {meth : Method} {c : Code} {Q : State → Prop} {dC : Nat → ClassId} {dI : Nat → Nat → Nat} {nf : Nat}
variable {r0 : Int32}
set_option maxHeartbeats 400000 in
set_option maxRecDepth 100000 in
theorem k_Cal_monthStart_13 (C0 : Cx p s m meth c args R b_Cal_monthStart "ZoneFiles$Calendar" 2 (some .int) 0 0) (hST : ST (fun _ => False) s s.heap) (hK : va_K (dC, dI) classes [] s) (hE : ∀ (pc : Nat) (ls : Array Slot), decode b_Cal_monthStart pc = .ok (.ireturn, 1) → narrow .int (.int r0) = .int r0 → W p l e R s m args below meth c s.heap [] 0 0 Q (F0 m pc ls [.int r0])) (hf : f_Cal_monthStart_13 nf = some r0) {ls : Array Slot} (hl : lv_has ls 2 []) : W p l e R s m args below meth c s.heap [] 0 0 Q (F0 m 13 ls []) := by
  obtain ⟨hx, hb, hr, hml, hown, hts, hlocks, hRf, hRl⟩ := id C0
  obtain ⟨tms, hZms, hTms, tmg, hZmg, hTmg, hNW⟩ := id hST
  unfold f_Cal_monthStart_13 at hf
  refine lv_iconst (v := 0) hx hb d_Cal_monthStart_13 (by decide) ?_
  have e := rs hf
  subst e
  exact hE _ _ d_Cal_monthStart_14 rfl
set_option maxHeartbeats 400000 in
set_option maxRecDepth 100000 in
theorem k_Cal_monthStart_36 (C0 : Cx p s m meth c args R b_Cal_monthStart "ZoneFiles$Calendar" 2 (some .int) 0 0) (hST : ST (fun _ => False) s s.heap) (hK : va_K (dC, dI) classes [] s) (hE : ∀ (pc : Nat) (ls : Array Slot), decode b_Cal_monthStart pc = .ok (.ireturn, 1) → narrow .int (.int r0) = .int r0 → W p l e R s m args below meth c s.heap [] 0 0 Q (F0 m pc ls [.int r0])) {s0 : Int32} {s1 : Int32} (hf : f_Cal_monthStart_36 nf s0 s1 = some r0) {ls : Array Slot} (hl : lv_has ls 2 []) : W p l e R s m args below meth c s.heap [] 0 0 Q (F0 m 36 ls [.int s0, .int s1]) := by
  obtain ⟨hx, hb, hr, hml, hown, hts, hlocks, hRf, hRl⟩ := id C0
  obtain ⟨tms, hZms, hTms, tmg, hZmg, hTmg, hNW⟩ := id hST
  unfold f_Cal_monthStart_36 at hf
  refine lv_iadd hx hb d_Cal_monthStart_36 ?_
  have e := rs hf
  subst e
  exact hE _ _ d_Cal_monthStart_37 rfl
set_option maxHeartbeats 400000 in
set_option maxRecDepth 100000 in
theorem k_Cal_monthStart_35 (C0 : Cx p s m meth c args R b_Cal_monthStart "ZoneFiles$Calendar" 2 (some .int) 0 0) (hST : ST (fun _ => False) s s.heap) (hK : va_K (dC, dI) classes [] s) (hE : ∀ (pc : Nat) (ls : Array Slot), decode b_Cal_monthStart pc = .ok (.ireturn, 1) → narrow .int (.int r0) = .int r0 → W p l e R s m args below meth c s.heap [] 0 0 Q (F0 m pc ls [.int r0])) {s0 : Int32} (hf : f_Cal_monthStart_35 nf s0 = some r0) {ls : Array Slot} (hl : lv_has ls 2 []) : W p l e R s m args below meth c s.heap [] 0 0 Q (F0 m 35 ls [.int s0]) := by
  obtain ⟨hx, hb, hr, hml, hown, hts, hlocks, hRf, hRl⟩ := id C0
  obtain ⟨tms, hZms, hTms, tmg, hZmg, hTmg, hNW⟩ := id hST
  unfold f_Cal_monthStart_35 at hf
  refine lv_iconst (v := 0) hx hb d_Cal_monthStart_35 (by decide) ?_
  exact k_Cal_monthStart_36 C0 hST hK hE hf (lv_sub hl [] rfl)
set_option maxHeartbeats 400000 in
set_option maxRecDepth 100000 in
theorem k_Cal_monthStart_0 (C0 : Cx p s m meth c args R b_Cal_monthStart "ZoneFiles$Calendar" 2 (some .int) 0 0) (hST : ST (fun _ => False) s s.heap) (hK : va_K (dC, dI) classes [] s) (hE : ∀ (pc : Nat) (ls : Array Slot), decode b_Cal_monthStart pc = .ok (.ireturn, 1) → narrow .int (.int r0) = .int r0 → W p l e R s m args below meth c s.heap [] 0 0 Q (F0 m pc ls [.int r0])) {x0 : Int32} {x1 : Int32} (hf : f_Cal_monthStart_0 nf x0 x1 = some r0) {ls : Array Slot} (hl : lv_has ls 2 [(0, .int x0), (1, .int x1)]) : W p l e R s m args below meth c s.heap [] 0 0 Q (F0 m 0 ls []) := by
  obtain ⟨hx, hb, hr, hml, hown, hts, hlocks, hRf, hRl⟩ := id C0
  obtain ⟨tms, hZms, hTms, tmg, hZmg, hTmg, hNW⟩ := id hST
  unfold f_Cal_monthStart_0 at hf
  refine lv_iload_n hx hb d_Cal_monthStart_0 rfl (lv_at hl 0 rfl) ?_
  refine lv_iconst (v := 1) hx hb d_Cal_monthStart_1 (by decide) ?_
  refine lv_icmp_lt (tgt := 13) hx hb d_Cal_monthStart_2 (by decide) (fun c_1 => ?_) (fun c_1 => ?_)
  · have hf := it_t c_1 hf
    exact k_Cal_monthStart_13 C0 hST hK hE hf (lv_sub hl [] rfl)
  · have hf := it_f c_1 hf
    refine lv_iload_n hx hb d_Cal_monthStart_5 rfl (lv_at hl 0 rfl) ?_
    refine va_gets hx hb hZms (va_S.rf (A := fun _ => False)) hown (hts (.fieldLink "ZoneFiles$Calendar" 35 "ZoneFiles$Calendar" "MONTH_STARTS" "[I") m_4_192) (fun _ h9 => h9) d_Cal_monthStart_6 ?_
    refine va_tlen (v := 13) hx hb hTms (va_S.rf (A := fun _ => False)) rfl d_Cal_monthStart_9 ?_
    refine lv_icmp_le (tgt := 15) hx hb d_Cal_monthStart_10 (by decide) (fun c_2 => ?_) (fun c_2 => ?_)
    · have hf := it_t c_2 hf
      refine va_gets hx hb hZms (va_S.rf (A := fun _ => False)) hown (hts (.fieldLink "ZoneFiles$Calendar" 35 "ZoneFiles$Calendar" "MONTH_STARTS" "[I") m_4_192) (fun _ h9 => h9) d_Cal_monthStart_15 ?_
      refine lv_iload_n hx hb d_Cal_monthStart_18 rfl (lv_at hl 0 rfl) ?_
      refine lv_iconst (v := 1) hx hb d_Cal_monthStart_19 (by decide) ?_
      refine lv_isub hx hb d_Cal_monthStart_20 ?_
      obtain ⟨c_3, hf⟩ := it_n hf
      refine va_ti (v := .int (ms_v (x0 - 1).toNatClampNeg)) hx hb hTms (va_S.rf (A := fun _ => False)) c_3 rfl d_Cal_monthStart_21 ?_
      refine lv_iload_n hx hb d_Cal_monthStart_22 rfl (lv_at hl 1 rfl) ?_
      refine lv_if_eq (tgt := 35) hx hb d_Cal_monthStart_23 (by decide) (fun c_4 => ?_) (fun c_4 => ?_)
      · have hf := it_t c_4 hf
        exact k_Cal_monthStart_35 C0 hST hK hE hf (lv_sub hl [] rfl)
      · have hf := it_f c_4 hf
        refine lv_iload_n hx hb d_Cal_monthStart_26 rfl (lv_at hl 0 rfl) ?_
        refine lv_iconst (v := 2) hx hb d_Cal_monthStart_27 (by decide) ?_
        refine lv_icmp_le (tgt := 35) hx hb d_Cal_monthStart_28 (by decide) (fun c_5 => ?_) (fun c_5 => ?_)
        · have hf := it_t c_5 hf
          exact k_Cal_monthStart_35 C0 hST hK hE hf (lv_sub hl [] rfl)
        · have hf := it_f c_5 hf
          refine lv_iconst (v := 1) hx hb d_Cal_monthStart_31 (by decide) ?_
          refine lv_goto (tgt := 36) hx hb d_Cal_monthStart_32 (by decide) ?_
          exact k_Cal_monthStart_36 C0 hST hK hE hf (lv_sub hl [] rfl)
    · have hf := it_f c_2 hf
      exact k_Cal_monthStart_13 C0 hST hK hE hf (lv_sub hl [] rfl)
end
set_option maxHeartbeats 400000 in
set_option maxRecDepth 100000 in
theorem c_Cal_monthStart (l : Launch) (dC : Nat → ClassId) (dI : Nat → Nat → Nat) (nf : Nat) (p0 : Int32) (p1 : Int32) {r0 : Int32} (hf : f_Cal_monthStart nf p0 p1 = some r0) : Met l y_Cal_monthStart (wd y_Cal_monthStart b_Cal_monthStart 2 (some .int)) ({ frames := 0, cells := 0, slots := 0, locals := 0 }) (RO dC dI [] [] [.int p0, .int p1]) (SV (some (.int r0))) 0 0 (fun _ => False) :=
  met_S (plainFor_of_name (by decide)) (Nat.le_of_ble_eq_true rfl) (fun p e R s m args below meth c ls C0 hST hK hP hl => by
    obtain ⟨hx, hb, hr, hml, hown, hts, hlocks, hRf, hRl⟩ := id C0
    unfold f_Cal_monthStart at hf
    exact k_Cal_monthStart_0 C0 hST hK (fun pc ls hd hn => W.zret hx hb hr hn (fun t ht hW => ⟨rfl, ht⟩) (fun q h => by cases h) hd) hf (lv_sub hl [0, 1] rfl))
-- ZoneFiles$Calendar.monthSize(IZ)I
def f_Cal_monthSize_0 (nf : Nat) (x0 : Int32) (x1 : Int32) : Option (Int32) :=
  (f_Cal_monthStart nf (x0 + 1) x1).bind fun r_1 =>
  (f_Cal_monthStart nf x0 x1).bind fun r_2 =>
  some (r_1 - r_2)
def f_Cal_monthSize (nf : Nat) (p0 : Int32) (p1 : Int32) : Option (Int32) :=
  f_Cal_monthSize_0 nf p0 p1
section
variable {p : Program} {l : Launch} {e : Env} {R : Room} {s : State} {m : MethodId} {args : Array Value} {below : List Frame} {meth : Method} {c : Code} {Q : State → Prop} {dC : Nat → ClassId} {dI : Nat → Nat → Nat} {nf : Nat}
variable {r0 : Int32}
set_option maxHeartbeats 400000 in
set_option maxRecDepth 100000 in
theorem k_Cal_monthSize_0 (C0 : Cx p s m meth c args R b_Cal_monthSize "ZoneFiles$Calendar" 2 (some .int) 1 21) (hST : ST (fun _ => False) s s.heap) (hK : va_K (dC, dI) classes [] s) (hE : ∀ (pc : Nat) (ls : Array Slot), decode b_Cal_monthSize pc = .ok (.ireturn, 1) → narrow .int (.int r0) = .int r0 → W p l e R s m args below meth c s.heap [] 0 0 Q (F0 m pc ls [.int r0])) {x0 : Int32} {x1 : Int32} (hf : f_Cal_monthSize_0 nf x0 x1 = some r0) {ls : Array Slot} (hl : lv_has ls 2 [(0, .int x0), (1, .int x1)]) : W p l e R s m args below meth c s.heap [] 0 0 Q (F0 m 0 ls []) := by
  obtain ⟨hx, hb, hr, hml, hown, hts, hlocks, hRf, hRl⟩ := id C0
  obtain ⟨tms, hZms, hTms, tmg, hZmg, hTmg, hNW⟩ := id hST
  unfold f_Cal_monthSize_0 at hf
  refine lv_iload_n hx hb d_Cal_monthSize_0 rfl (lv_at hl 0 rfl) ?_
  refine lv_iconst (v := 1) hx hb d_Cal_monthSize_1 (by decide) ?_
  refine lv_iadd hx hb d_Cal_monthSize_2 ?_
  refine lv_iload_n hx hb d_Cal_monthSize_3 rfl (lv_at hl 1 rfl) ?_
  obtain ⟨r_1, hc, hf⟩ := ob hf
  refine cl_S (v := (some (.int r_1))) (st1 := [.int r_1]) (va_runS (As := [.int (x0 + 1), .int x1]) (rest := []) ⟨hx, hb, hml, hown, hts⟩ (c_Cal_monthStart l dC dI nf (x0 + 1) x1 hc) (va_cwS 2 hts (gdS m_5_93 m_4_190 m_1_18 m_4_191) rfl rfl rfl (by decide +kernel) ⟨Nat.le_trans (Nat.le_of_ble_eq_true rfl) hRf, Nat.le_trans (Nat.le_of_ble_eq_true rfl) hRl⟩) (RO.pre0 hK hST).sta rfl rfl hl.1 rfl (lv_room (Nat.le_of_ble_eq_true rfl)) d_Cal_monthSize_4 ⟨Nat.zero_le _, Nat.zero_le _⟩) rfl ?_
  refine lv_iload_n hx hb d_Cal_monthSize_7 rfl (lv_at hl 0 rfl) ?_
  refine lv_iload_n hx hb d_Cal_monthSize_8 rfl (lv_at hl 1 rfl) ?_
  obtain ⟨r_2, hc, hf⟩ := ob hf
  refine cl_S (v := (some (.int r_2))) (st1 := [.int r_2, .int r_1]) (va_runS (As := [.int x0, .int x1]) (rest := [.int r_1]) ⟨hx, hb, hml, hown, hts⟩ (c_Cal_monthStart l dC dI nf x0 x1 hc) (va_cwS 2 hts (gdS m_5_93 m_4_190 m_1_18 m_4_191) rfl rfl rfl (by decide +kernel) ⟨Nat.le_trans (Nat.le_of_ble_eq_true rfl) hRf, Nat.le_trans (Nat.le_of_ble_eq_true rfl) hRl⟩) (RO.pre0 hK hST).sta rfl rfl hl.1 rfl (lv_room (Nat.le_of_ble_eq_true rfl)) d_Cal_monthSize_9 ⟨Nat.zero_le _, Nat.zero_le _⟩) rfl ?_
  refine lv_isub hx hb d_Cal_monthSize_12 ?_
  have e := rs hf
  subst e
  exact hE _ _ d_Cal_monthSize_13 rfl
end
set_option maxHeartbeats 400000 in
set_option maxRecDepth 100000 in
theorem c_Cal_monthSize (l : Launch) (dC : Nat → ClassId) (dI : Nat → Nat → Nat) (nf : Nat) (p0 : Int32) (p1 : Int32) {r0 : Int32} (hf : f_Cal_monthSize nf p0 p1 = some r0) : Met l y_Cal_monthSize (wd y_Cal_monthSize b_Cal_monthSize 2 (some .int)) ({ frames := 1, cells := 0, slots := 0, locals := 21 }) (RO dC dI [] [] [.int p0, .int p1]) (SV (some (.int r0))) 0 0 (fun _ => False) :=
  met_S (plainFor_of_name (by decide)) (Nat.le_of_ble_eq_true rfl) (fun p e R s m args below meth c ls C0 hST hK hP hl => by
    obtain ⟨hx, hb, hr, hml, hown, hts, hlocks, hRf, hRl⟩ := id C0
    unfold f_Cal_monthSize at hf
    exact k_Cal_monthSize_0 C0 hST hK (fun pc ls hd hn => W.zret hx hb hr hn (fun t ht hW => ⟨rfl, ht⟩) (fun q h => by cases h) hd) hf (lv_sub hl [0, 1] rfl))
-- ZoneFiles$Calendar.monthOf(IZ)I
def f_Cal_monthOf_29 (nf : Nat) (x2 : Int32) : Option (Int32) :=
  some x2
def f_Cal_monthOf_5 (nf : Nat) : Nat → Int32 → Int32 → Int32 → Int32 → Option (Int32)
  | 0, _, _, _, _ => none
  | n + 1, x3, x2, x0, x1 =>
    if (11 : Int32) ≤ x3 then
    f_Cal_monthOf_29 nf x2
    else
    (f_Cal_monthStart nf x2 x1).bind fun r_2 =>
      if r_2 ≤ x0 then
      f_Cal_monthOf_29 nf x2
      else
      f_Cal_monthOf_5 nf n (x3 + 1) (x2 + (-1)) x0 x1
def f_Cal_monthOf_0 (nf : Nat) (x0 : Int32) (x1 : Int32) : Option (Int32) :=
  f_Cal_monthOf_5 nf nf 0 12 x0 x1
def f_Cal_monthOf (nf : Nat) (p0 : Int32) (p1 : Int32) : Option (Int32) :=
  f_Cal_monthOf_0 nf p0 p1
section
variable {p : Program} {l : Launch} {e : Env} {R : Room} {s : State} {m : MethodId} {args : Array Value} {below : List Frame} {meth : Method} {c : Code} {Q : State → Prop} {dC : Nat → ClassId} {dI : Nat → Nat → Nat} {nf : Nat}
variable {r0 : Int32}
set_option maxHeartbeats 400000 in
set_option maxRecDepth 100000 in
theorem k_Cal_monthOf_29 (C0 : Cx p s m meth c args R b_Cal_monthOf "ZoneFiles$Calendar" 4 (some .int) 1 21) (hST : ST (fun _ => False) s s.heap) (hK : va_K (dC, dI) classes [] s) (hE : ∀ (pc : Nat) (ls : Array Slot), decode b_Cal_monthOf pc = .ok (.ireturn, 1) → narrow .int (.int r0) = .int r0 → W p l e R s m args below meth c s.heap [] 0 0 Q (F0 m pc ls [.int r0])) {x2 : Int32} (hf : f_Cal_monthOf_29 nf x2 = some r0) {ls : Array Slot} (hl : lv_has ls 4 [(2, .int x2)]) : W p l e R s m args below meth c s.heap [] 0 0 Q (F0 m 29 ls []) := by
  obtain ⟨hx, hb, hr, hml, hown, hts, hlocks, hRf, hRl⟩ := id C0
  obtain ⟨tms, hZms, hTms, tmg, hZmg, hTmg, hNW⟩ := id hST
  unfold f_Cal_monthOf_29 at hf
  refine lv_iload_n hx hb d_Cal_monthOf_29 rfl (lv_at hl 0 rfl) ?_
  have e := rs hf
  subst e
  exact hE _ _ d_Cal_monthOf_30 rfl
set_option maxHeartbeats 400000 in
set_option maxRecDepth 100000 in
theorem k_Cal_monthOf_5 (C0 : Cx p s m meth c args R b_Cal_monthOf "ZoneFiles$Calendar" 4 (some .int) 1 21) (hST : ST (fun _ => False) s s.heap) (hK : va_K (dC, dI) classes [] s) (hE : ∀ (pc : Nat) (ls : Array Slot), decode b_Cal_monthOf pc = .ok (.ireturn, 1) → narrow .int (.int r0) = .int r0 → W p l e R s m args below meth c s.heap [] 0 0 Q (F0 m pc ls [.int r0])) : ∀ (n : Nat) {x3 : Int32} {x2 : Int32} {x0 : Int32} {x1 : Int32}, f_Cal_monthOf_5 nf n x3 x2 x0 x1 = some r0 → ∀ {ls : Array Slot}, lv_has ls 4 [(3, .int x3), (2, .int x2), (0, .int x0), (1, .int x1)] → W p l e R s m args below meth c s.heap [] 0 0 Q (F0 m 5 ls []) := by
  obtain ⟨hx, hb, hr, hml, hown, hts, hlocks, hRf, hRl⟩ := id C0
  obtain ⟨tms, hZms, hTms, tmg, hZmg, hTmg, hNW⟩ := id hST
  intro n
  induction n with
  | zero =>
    intro x3 x2 x0 x1 hf
    exact absurd hf (by simp [f_Cal_monthOf_5])
  | succ n ih =>
    intro x3 x2 x0 x1 hf ls hl
    unfold f_Cal_monthOf_5 at hf
    refine lv_iload_n hx hb d_Cal_monthOf_5 rfl (lv_at hl 0 rfl) ?_
    refine lv_bipush (v := 11) hx hb d_Cal_monthOf_6 (by decide) ?_
    refine lv_icmp_ge (tgt := 29) hx hb d_Cal_monthOf_8 (by decide) (fun c_1 => ?_) (fun c_1 => ?_)
    · have hf := it_t c_1 hf
      exact k_Cal_monthOf_29 C0 hST hK hE hf (lv_sub hl [1] rfl)
    · have hf := it_f c_1 hf
      refine lv_iload_n hx hb d_Cal_monthOf_11 rfl (lv_at hl 1 rfl) ?_
      refine lv_iload_n hx hb d_Cal_monthOf_12 rfl (lv_at hl 3 rfl) ?_
      obtain ⟨r_2, hc, hf⟩ := ob hf
      refine cl_S (v := (some (.int r_2))) (st1 := [.int r_2]) (va_runS (As := [.int x2, .int x1]) (rest := []) ⟨hx, hb, hml, hown, hts⟩ (c_Cal_monthStart l dC dI nf x2 x1 hc) (va_cwS 2 hts (gdS m_5_93 m_4_190 m_1_18 m_4_191) rfl rfl rfl (by decide +kernel) ⟨Nat.le_trans (Nat.le_of_ble_eq_true rfl) hRf, Nat.le_trans (Nat.le_of_ble_eq_true rfl) hRl⟩) (RO.pre0 hK hST).sta rfl rfl hl.1 rfl (lv_room (Nat.le_of_ble_eq_true rfl)) d_Cal_monthOf_13 ⟨Nat.zero_le _, Nat.zero_le _⟩) rfl ?_
      refine lv_iload_n hx hb d_Cal_monthOf_16 rfl (lv_at hl 2 rfl) ?_
      refine lv_icmp_le (tgt := 29) hx hb d_Cal_monthOf_17 (by decide) (fun c_3 => ?_) (fun c_3 => ?_)
      · have hf := it_t c_3 hf
        exact k_Cal_monthOf_29 C0 hST hK hE hf (lv_sub hl [1] rfl)
      · have hf := it_f c_3 hf
        refine lv_iinc (v := x2 + (-1)) (lv' := [(2, .int (x2 + (-1))), (3, .int x3), (0, .int x0), (1, .int x1)]) hx hb d_Cal_monthOf_20 hl (k := 1) rfl rfl (by decide) rfl (fun ls hl => ?_)
        refine lv_iinc (v := x3 + 1) (lv' := [(3, .int (x3 + 1)), (2, .int (x2 + (-1))), (0, .int x0), (1, .int x1)]) hx hb d_Cal_monthOf_23 hl (k := 1) rfl rfl (by decide) rfl (fun ls hl => ?_)
        refine lv_goto (tgt := 5) hx hb d_Cal_monthOf_26 (by decide) ?_
        exact ih hf (lv_sub hl [0, 1, 2, 3] rfl)
set_option maxHeartbeats 400000 in
set_option maxRecDepth 100000 in
theorem k_Cal_monthOf_0 (C0 : Cx p s m meth c args R b_Cal_monthOf "ZoneFiles$Calendar" 4 (some .int) 1 21) (hST : ST (fun _ => False) s s.heap) (hK : va_K (dC, dI) classes [] s) (hE : ∀ (pc : Nat) (ls : Array Slot), decode b_Cal_monthOf pc = .ok (.ireturn, 1) → narrow .int (.int r0) = .int r0 → W p l e R s m args below meth c s.heap [] 0 0 Q (F0 m pc ls [.int r0])) {x0 : Int32} {x1 : Int32} (hf : f_Cal_monthOf_0 nf x0 x1 = some r0) {ls : Array Slot} (hl : lv_has ls 4 [(0, .int x0), (1, .int x1)]) : W p l e R s m args below meth c s.heap [] 0 0 Q (F0 m 0 ls []) := by
  obtain ⟨hx, hb, hr, hml, hown, hts, hlocks, hRf, hRl⟩ := id C0
  obtain ⟨tms, hZms, hTms, tmg, hZmg, hTmg, hNW⟩ := id hST
  unfold f_Cal_monthOf_0 at hf
  refine lv_bipush (v := 12) hx hb d_Cal_monthOf_0 (by decide) ?_
  refine lv_istore_n (lv' := [(2, .int 12), (0, .int x0), (1, .int x1)]) hx hb d_Cal_monthOf_2 rfl hl (by decide) rfl (fun ls hl => ?_)
  refine lv_iconst (v := 0) hx hb d_Cal_monthOf_3 (by decide) ?_
  refine lv_istore_n (lv' := [(3, .int 0), (2, .int 12), (0, .int x0), (1, .int x1)]) hx hb d_Cal_monthOf_4 rfl hl (by decide) rfl (fun ls hl => ?_)
  exact k_Cal_monthOf_5 C0 hST hK hE nf hf (lv_sub hl [0, 1, 2, 3] rfl)
end
set_option maxHeartbeats 400000 in
set_option maxRecDepth 100000 in
theorem c_Cal_monthOf (l : Launch) (dC : Nat → ClassId) (dI : Nat → Nat → Nat) (nf : Nat) (p0 : Int32) (p1 : Int32) {r0 : Int32} (hf : f_Cal_monthOf nf p0 p1 = some r0) : Met l y_Cal_monthOf (wd y_Cal_monthOf b_Cal_monthOf 4 (some .int)) ({ frames := 1, cells := 0, slots := 0, locals := 21 }) (RO dC dI [] [] [.int p0, .int p1]) (SV (some (.int r0))) 0 0 (fun _ => False) :=
  met_S (plainFor_of_name (by decide)) (Nat.le_of_ble_eq_true rfl) (fun p e R s m args below meth c ls C0 hST hK hP hl => by
    obtain ⟨hx, hb, hr, hml, hown, hts, hlocks, hRf, hRl⟩ := id C0
    unfold f_Cal_monthOf at hf
    exact k_Cal_monthOf_0 C0 hST hK (fun pc ls hd hn => W.zret hx hb hr hn (fun t ht hW => ⟨rfl, ht⟩) (fun q h => by cases h) hd) hf (lv_sub hl [0, 1] rfl))
-- ZoneFiles$Calendar.weekday(J)I
def f_Cal_weekday_0 (nf : Nat) (x0 : Int64) : Option (Int32) :=
  (f_Math_floorMod nf (x0 + 4) 7).bind fun r_1 =>
  some r_1.toInt32
def f_Cal_weekday (nf : Nat) (p0 : Int64) : Option (Int32) :=
  f_Cal_weekday_0 nf p0
section
variable {p : Program} {l : Launch} {e : Env} {R : Room} {s : State} {m : MethodId} {args : Array Value} {below : List Frame} {meth : Method} {c : Code} {Q : State → Prop} {dC : Nat → ClassId} {dI : Nat → Nat → Nat} {nf : Nat}
variable {r0 : Int32}
set_option maxHeartbeats 400000 in
set_option maxRecDepth 100000 in
theorem k_Cal_weekday_0 (C0 : Cx p s m meth c args R b_Cal_weekday "ZoneFiles$Calendar" 2 (some .int) 1 25) (hST : ST (fun _ => False) s s.heap) (hK : va_K (dC, dI) classes [] s) (hE : ∀ (pc : Nat) (ls : Array Slot), decode b_Cal_weekday pc = .ok (.ireturn, 1) → narrow .int (.int r0) = .int r0 → W p l e R s m args below meth c s.heap [] 0 0 Q (F0 m pc ls [.int r0])) {x0 : Int64} (hf : f_Cal_weekday_0 nf x0 = some r0) {ls : Array Slot} (hl : lv_has ls 2 [(0, .long x0)]) : W p l e R s m args below meth c s.heap [] 0 0 Q (F0 m 0 ls []) := by
  obtain ⟨hx, hb, hr, hml, hown, hts, hlocks, hRf, hRl⟩ := id C0
  obtain ⟨tms, hZms, hTms, tmg, hZmg, hTmg, hNW⟩ := id hST
  unfold f_Cal_weekday_0 at hf
  refine lv_lload_n hx hb d_Cal_weekday_0 rfl (lv_at hl 0 rfl) ?_
  refine lv_ldc2 (v := 4) hx hb hown (hts (.constantLong "ZoneFiles$Calendar" 7 4) m_4_173) d_Cal_weekday_1 ?_
  refine lv_ladd hx hb d_Cal_weekday_4 ?_
  refine lv_ldc2 (v := 7) hx hb hown (hts (.constantLong "ZoneFiles$Calendar" 43 7) m_5_82) d_Cal_weekday_5 ?_
  obtain ⟨r_1, hc, hf⟩ := ob hf
  refine cl_S (v := (some (.long r_1))) (st1 := [.long r_1]) (va_runS (As := [.long (x0 + 4), .long 7]) (rest := []) ⟨hx, hb, hml, hown, hts⟩ (c_Math_floorMod l dC dI nf (x0 + 4) 7 hc) (va_cwS 2 hts (gdS m_5_83 m_4_197 m_1_7 m_4_198) rfl rfl rfl (by decide +kernel) ⟨Nat.le_trans (Nat.le_of_ble_eq_true rfl) hRf, Nat.le_trans (Nat.le_of_ble_eq_true rfl) hRl⟩) (RO.pre0 hK hST).sta rfl rfl hl.1 rfl (lv_room (Nat.le_of_ble_eq_true rfl)) d_Cal_weekday_8 ⟨Nat.zero_le _, Nat.zero_le _⟩) rfl ?_
  refine lv_l2i hx hb d_Cal_weekday_11 rfl ?_
  have e := rs hf
  subst e
  exact hE _ _ d_Cal_weekday_12 rfl
end
set_option maxHeartbeats 400000 in
set_option maxRecDepth 100000 in
theorem c_Cal_weekday (l : Launch) (dC : Nat → ClassId) (dI : Nat → Nat → Nat) (nf : Nat) (p0 : Int64) {r0 : Int32} (hf : f_Cal_weekday nf p0 = some r0) : Met l y_Cal_weekday (wd y_Cal_weekday b_Cal_weekday 2 (some .int)) ({ frames := 1, cells := 0, slots := 0, locals := 25 }) (RO dC dI [] [] [.long p0]) (SV (some (.int r0))) 0 0 (fun _ => False) :=
  met_S (plainFor_of_name (by decide)) (Nat.le_of_ble_eq_true rfl) (fun p e R s m args below meth c ls C0 hST hK hP hl => by
    obtain ⟨hx, hb, hr, hml, hown, hts, hlocks, hRf, hRl⟩ := id C0
    unfold f_Cal_weekday at hf
    exact k_Cal_weekday_0 C0 hST hK (fun pc ls hd hn => W.zret hx hb hr hn (fun t ht hW => ⟨rfl, ht⟩) (fun q h => by cases h) hd) hf (lv_sub hl [0] rfl))
