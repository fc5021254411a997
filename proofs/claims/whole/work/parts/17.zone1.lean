theorem m_1_3 : Cond.initialized "ZoneFiles$Zone" ∈ T0 := tb_1 3 rfl rfl
theorem m_1_4 : Cond.initialized "ZoneFiles$Rule" ∈ T0 := tb_1 4 rfl rfl
theorem m_1_44 : Cond.fieldLink "ZoneFiles$Zone" 124 "ZoneFiles$Bytes" "size" "I" ∈ T0 := tb_1 44 rfl rfl
theorem m_1_102 : Cond.fieldLink "ZoneFiles$Zone" 59 "ZoneFiles$Rule" "text" "LZoneFiles$Bytes;" ∈ T0 := tb_1 102 rfl rfl
theorem m_1_121 : Cond.fieldLink "ZoneFiles$Zone" 118 "ZoneFiles$Rule" "standardOffset" "I" ∈ T0 := tb_1 121 rfl rfl
theorem m_1_124 : Cond.fieldLink "ZoneFiles$Zone" 115 "ZoneFiles$Rule" "summerOffset" "I" ∈ T0 := tb_1 124 rfl rfl
theorem m_1_127 : Cond.fieldLink "ZoneFiles$Zone" 133 "ZoneFiles$Rule" "standardNamePlace" "I" ∈ T0 := tb_1 127 rfl rfl
theorem m_1_129 : Cond.fieldLink "ZoneFiles$Zone" 65 "ZoneFiles$Rule" "standardNameSize" "I" ∈ T0 := tb_1 129 rfl rfl
theorem m_1_133 : Cond.fieldLink "ZoneFiles$Zone" 130 "ZoneFiles$Rule" "summerNamePlace" "I" ∈ T0 := tb_1 133 rfl rfl
theorem m_1_136 : Cond.fieldLink "ZoneFiles$Zone" 121 "ZoneFiles$Rule" "summerNameSize" "I" ∈ T0 := tb_1 136 rfl rfl
theorem m_1_166 : Cond.fieldLink "ZoneFiles$Zone" 75 "ZoneFiles$Zone" "timeCount" "I" ∈ T0 := tb_1 166 rfl rfl
theorem m_1_170 : Cond.fieldLink "ZoneFiles$Zone" 78 "ZoneFiles$Zone" "typeCount" "I" ∈ T0 := tb_1 170 rfl rfl
theorem m_1_174 : Cond.fieldLink "ZoneFiles$Zone" 81 "ZoneFiles$Zone" "leapCount" "I" ∈ T0 := tb_1 174 rfl rfl
theorem m_1_186 : Cond.fieldLink "ZoneFiles$Zone" 9 "ZoneFiles$Zone" "times" "[J" ∈ T0 := tb_1 186 rfl rfl
theorem m_1_190 : Cond.fieldLink "ZoneFiles$Zone" 15 "ZoneFiles$Zone" "timeTypes" "[I" ∈ T0 := tb_1 190 rfl rfl
theorem m_1_194 : Cond.fieldLink "ZoneFiles$Zone" 19 "ZoneFiles$Zone" "offsets" "[I" ∈ T0 := tb_1 194 rfl rfl
theorem m_1_198 : Cond.fieldLink "ZoneFiles$Zone" 22 "ZoneFiles$Zone" "dsts" "[I" ∈ T0 := tb_1 198 rfl rfl
theorem m_1_202 : Cond.fieldLink "ZoneFiles$Zone" 25 "ZoneFiles$Zone" "indexes" "[I" ∈ T0 := tb_1 202 rfl rfl
theorem m_1_214 : Cond.fieldLink "ZoneFiles$Zone" 39 "ZoneFiles$Zone" "chars" "LZoneFiles$Bytes;" ∈ T0 := tb_1 214 rfl rfl
theorem m_1_218 : Cond.fieldLink "ZoneFiles$Zone" 43 "ZoneFiles$Zone" "leapTimes" "[J" ∈ T0 := tb_1 218 rfl rfl
theorem m_1_226 : Cond.fieldLink "ZoneFiles$Zone" 52 "ZoneFiles$Zone" "rule" "LZoneFiles$Rule;" ∈ T0 := tb_1 226 rfl rfl
theorem m_2_66 : Cond.methodLink "ZoneFiles$Zone" 142 ⟨"ZoneFiles$Zone", "nameSize", "(I)I"⟩ ∈ T0 := tb_2 66 rfl rfl
theorem m_2_67 : Cond.instanceMethod ⟨"ZoneFiles$Zone", "nameSize", "(I)I"⟩ ∈ T0 := tb_2 67 rfl rfl
theorem m_2_68 : Cond.selects "ZoneFiles$Zone" ⟨"ZoneFiles$Zone", "nameSize", "(I)I"⟩ ⟨"ZoneFiles$Zone", "nameSize", "(I)I"⟩ ∈ T0 := tb_2 68 rfl rfl
theorem m_2_69 : Cond.code ⟨"ZoneFiles$Zone", "nameSize", "(I)I"⟩ prog_12_method_8_code 4 (some .int) ∈ T0 := tb_2 69 rfl rfl
theorem m_2_70 : Cond.methodLink "ZoneFiles$Zone" 127 ⟨"ZoneFiles$Bytes", "get", "(I)I"⟩ ∈ T0 := tb_2 70 rfl rfl
theorem m_2_74 : Cond.methodLink "ZoneFiles$Zone" 145 ⟨"ZoneFiles$Zone", "nameByte", "(II)I"⟩ ∈ T0 := tb_2 74 rfl rfl
theorem m_2_75 : Cond.instanceMethod ⟨"ZoneFiles$Zone", "nameByte", "(II)I"⟩ ∈ T0 := tb_2 75 rfl rfl
theorem m_2_76 : Cond.selects "ZoneFiles$Zone" ⟨"ZoneFiles$Zone", "nameByte", "(II)I"⟩ ⟨"ZoneFiles$Zone", "nameByte", "(II)I"⟩ ∈ T0 := tb_2 76 rfl rfl
theorem m_2_77 : Cond.code ⟨"ZoneFiles$Zone", "nameByte", "(II)I"⟩ prog_12_method_9_code 3 (some .int) ∈ T0 := tb_2 77 rfl rfl
theorem m_2_82 : Cond.methodLink "ZoneFiles$Zone" 136 ⟨"ZoneFiles$Zone", "offsetOf", "(I)I"⟩ ∈ T0 := tb_2 82 rfl rfl
theorem m_2_83 : Cond.instanceMethod ⟨"ZoneFiles$Zone", "offsetOf", "(I)I"⟩ ∈ T0 := tb_2 83 rfl rfl
theorem m_2_84 : Cond.selects "ZoneFiles$Zone" ⟨"ZoneFiles$Zone", "offsetOf", "(I)I"⟩ ⟨"ZoneFiles$Zone", "offsetOf", "(I)I"⟩ ∈ T0 := tb_2 84 rfl rfl
theorem m_2_85 : Cond.code ⟨"ZoneFiles$Zone", "offsetOf", "(I)I"⟩ prog_12_method_6_code 2 (some .int) ∈ T0 := tb_2 85 rfl rfl
theorem m_2_86 : Cond.methodLink "ZoneFiles$Zone" 139 ⟨"ZoneFiles$Zone", "dstOf", "(I)I"⟩ ∈ T0 := tb_2 86 rfl rfl
theorem m_2_87 : Cond.instanceMethod ⟨"ZoneFiles$Zone", "dstOf", "(I)I"⟩ ∈ T0 := tb_2 87 rfl rfl
theorem m_2_88 : Cond.selects "ZoneFiles$Zone" ⟨"ZoneFiles$Zone", "dstOf", "(I)I"⟩ ⟨"ZoneFiles$Zone", "dstOf", "(I)I"⟩ ∈ T0 := tb_2 88 rfl rfl
theorem m_2_89 : Cond.code ⟨"ZoneFiles$Zone", "dstOf", "(I)I"⟩ prog_12_method_7_code 2 (some .int) ∈ T0 := tb_2 89 rfl rfl
theorem m_4_138 : Cond.instanceMethod ⟨"ZoneFiles$Rule", "isThere", "()Z"⟩ ∈ T0 := tb_4 138 rfl rfl
theorem m_4_139 : Cond.selects "ZoneFiles$Rule" ⟨"ZoneFiles$Rule", "isThere", "()Z"⟩ ⟨"ZoneFiles$Rule", "isThere", "()Z"⟩ ∈ T0 := tb_4 139 rfl rfl
theorem m_4_140 : Cond.code ⟨"ZoneFiles$Rule", "isThere", "()Z"⟩ prog_9_method_3_code 1 (some .boolean) ∈ T0 := tb_4 140 rfl rfl
theorem m_4_145 : Cond.methodLink "ZoneFiles$Zone" 103 ⟨"ZoneFiles$Zone", "timesUpTo", "(J)I"⟩ ∈ T0 := tb_4 145 rfl rfl
theorem m_4_147 : Cond.instanceMethod ⟨"ZoneFiles$Zone", "timesUpTo", "(J)I"⟩ ∈ T0 := tb_4 147 rfl rfl
theorem m_4_148 : Cond.code ⟨"ZoneFiles$Zone", "timesUpTo", "(J)I"⟩ prog_12_method_5_code 7 (some .int) ∈ T0 := tb_4 148 rfl rfl
theorem m_4_149 : Cond.methodLink "ZoneFiles$Zone" 107 ⟨"ZoneFiles$Rule", "isThere", "()Z"⟩ ∈ T0 := tb_4 149 rfl rfl
theorem m_4_150 : Cond.methodLink "ZoneFiles$Zone" 111 ⟨"ZoneFiles$Rule", "isSummerAt", "(J)Z"⟩ ∈ T0 := tb_4 150 rfl rfl
theorem m_4_151 : Cond.instanceMethod ⟨"ZoneFiles$Rule", "isSummerAt", "(J)Z"⟩ ∈ T0 := tb_4 151 rfl rfl
theorem m_4_152 : Cond.selects "ZoneFiles$Rule" ⟨"ZoneFiles$Rule", "isSummerAt", "(J)Z"⟩ ⟨"ZoneFiles$Rule", "isSummerAt", "(J)Z"⟩ ∈ T0 := tb_4 152 rfl rfl
theorem m_4_153 : Cond.code ⟨"ZoneFiles$Rule", "isSummerAt", "(J)Z"⟩ prog_9_method_4_code 3 (some .boolean) ∈ T0 := tb_4 153 rfl rfl
theorem m_4_201 : Cond.instanceMethod ⟨"ZoneFiles$Zone", "isSame", "(II)Z"⟩ ∈ T0 := tb_4 201 rfl rfl
theorem m_4_202 : Cond.selects "ZoneFiles$Zone" ⟨"ZoneFiles$Zone", "isSame", "(II)Z"⟩ ⟨"ZoneFiles$Zone", "isSame", "(II)Z"⟩ ∈ T0 := tb_4 202 rfl rfl
theorem m_4_203 : Cond.code ⟨"ZoneFiles$Zone", "isSame", "(II)Z"⟩ prog_12_method_10_code 5 (some .boolean) ∈ T0 := tb_4 203 rfl rfl
theorem m_5_145 : Cond.constantLong "ZoneFiles$Zone" 165 (-1152921504606846975) ∈ T0 := tb_5 145 rfl rfl
theorem m_5_146 : Cond.methodLink "ZoneFiles$Zone" 172 ⟨"ZoneFiles$Zone", "isSame", "(II)Z"⟩ ∈ T0 := tb_5 146 rfl rfl
theorem msel_39 : Cond.selects "ZoneFiles$Zone" ⟨"ZoneFiles$Zone", "timesUpTo", "(J)I"⟩ ⟨"ZoneFiles$Zone", "timesUpTo", "(J)I"⟩ ∈ T0 := ps_3 (q := (⟨"ZoneFiles$Zone", "timesUpTo", "(J)I"⟩, 17)) 7 rfl
abbrev b_Zone_timesUpTo : ByteArray := prog_12_method_5_code
def y_Zone_timesUpTo : MethodName := ⟨"ZoneFiles$Zone", "timesUpTo", "(J)I"⟩
theorem d_Zone_timesUpTo_0 : decode b_Zone_timesUpTo 0 = .ok (.iconst 0, 1) := by decide +kernel
theorem d_Zone_timesUpTo_1 : decode b_Zone_timesUpTo 1 = .ok (.istore_n 3, 1) := by decide +kernel
theorem d_Zone_timesUpTo_2 : decode b_Zone_timesUpTo 2 = .ok (.aload_n 0, 1) := by decide +kernel
theorem d_Zone_timesUpTo_3 : decode b_Zone_timesUpTo 3 = .ok (.getfield 75, 3) := by decide +kernel
theorem d_Zone_timesUpTo_6 : decode b_Zone_timesUpTo 6 = .ok (.istore 4, 2) := by decide +kernel
theorem d_Zone_timesUpTo_8 : decode b_Zone_timesUpTo 8 = .ok (.iconst 0, 1) := by decide +kernel
theorem d_Zone_timesUpTo_9 : decode b_Zone_timesUpTo 9 = .ok (.istore 5, 2) := by decide +kernel
theorem d_Zone_timesUpTo_11 : decode b_Zone_timesUpTo 11 = .ok (.iload 5, 2) := by decide +kernel
theorem d_Zone_timesUpTo_13 : decode b_Zone_timesUpTo 13 = .ok (.sipush 200, 3) := by decide +kernel
theorem d_Zone_timesUpTo_16 : decode b_Zone_timesUpTo 16 = .ok (.if_icmp .ge 47, 3) := by decide +kernel
theorem d_Zone_timesUpTo_19 : decode b_Zone_timesUpTo 19 = .ok (.iload_n 3, 1) := by decide +kernel
theorem d_Zone_timesUpTo_20 : decode b_Zone_timesUpTo 20 = .ok (.iload 4, 2) := by decide +kernel
theorem d_Zone_timesUpTo_22 : decode b_Zone_timesUpTo 22 = .ok (.if_icmp .ge 41, 3) := by decide +kernel
theorem d_Zone_timesUpTo_25 : decode b_Zone_timesUpTo 25 = .ok (.iload_n 3, 1) := by decide +kernel
theorem d_Zone_timesUpTo_26 : decode b_Zone_timesUpTo 26 = .ok (.iload 4, 2) := by decide +kernel
theorem d_Zone_timesUpTo_28 : decode b_Zone_timesUpTo 28 = .ok (.iadd, 1) := by decide +kernel
theorem d_Zone_timesUpTo_29 : decode b_Zone_timesUpTo 29 = .ok (.iconst 2, 1) := by decide +kernel
theorem d_Zone_timesUpTo_30 : decode b_Zone_timesUpTo 30 = .ok (.idiv, 1) := by decide +kernel
theorem d_Zone_timesUpTo_31 : decode b_Zone_timesUpTo 31 = .ok (.istore 6, 2) := by decide +kernel
theorem d_Zone_timesUpTo_33 : decode b_Zone_timesUpTo 33 = .ok (.aload_n 0, 1) := by decide +kernel
theorem d_Zone_timesUpTo_34 : decode b_Zone_timesUpTo 34 = .ok (.getfield 9, 3) := by decide +kernel
theorem d_Zone_timesUpTo_37 : decode b_Zone_timesUpTo 37 = .ok (.iload 6, 2) := by decide +kernel
theorem d_Zone_timesUpTo_39 : decode b_Zone_timesUpTo 39 = .ok (.laload, 1) := by decide +kernel
theorem d_Zone_timesUpTo_40 : decode b_Zone_timesUpTo 40 = .ok (.lload_n 1, 1) := by decide +kernel
theorem d_Zone_timesUpTo_41 : decode b_Zone_timesUpTo 41 = .ok (.lcmp, 1) := by decide +kernel
theorem d_Zone_timesUpTo_42 : decode b_Zone_timesUpTo 42 = .ok (.ifCond .gt 11, 3) := by decide +kernel
theorem d_Zone_timesUpTo_45 : decode b_Zone_timesUpTo 45 = .ok (.iload 6, 2) := by decide +kernel
theorem d_Zone_timesUpTo_47 : decode b_Zone_timesUpTo 47 = .ok (.iconst 1, 1) := by decide +kernel
theorem d_Zone_timesUpTo_48 : decode b_Zone_timesUpTo 48 = .ok (.iadd, 1) := by decide +kernel
theorem d_Zone_timesUpTo_49 : decode b_Zone_timesUpTo 49 = .ok (.istore_n 3, 1) := by decide +kernel
theorem d_Zone_timesUpTo_50 : decode b_Zone_timesUpTo 50 = .ok (.goto 7, 3) := by decide +kernel
theorem d_Zone_timesUpTo_53 : decode b_Zone_timesUpTo 53 = .ok (.iload 6, 2) := by decide +kernel
theorem d_Zone_timesUpTo_55 : decode b_Zone_timesUpTo 55 = .ok (.istore 4, 2) := by decide +kernel
theorem d_Zone_timesUpTo_57 : decode b_Zone_timesUpTo 57 = .ok (.iinc 5 1, 3) := by decide +kernel
theorem d_Zone_timesUpTo_60 : decode b_Zone_timesUpTo 60 = .ok (.goto (-49), 3) := by decide +kernel
theorem d_Zone_timesUpTo_63 : decode b_Zone_timesUpTo 63 = .ok (.iload_n 3, 1) := by decide +kernel
theorem d_Zone_timesUpTo_64 : decode b_Zone_timesUpTo 64 = .ok (.ireturn, 1) := by decide +kernel
abbrev b_Zone_stateAt : ByteArray := prog_12_method_4_code
def y_Zone_stateAt : MethodName := ⟨"ZoneFiles$Zone", "stateAt", "(J)I"⟩
theorem d_Zone_stateAt_0 : decode b_Zone_stateAt 0 = .ok (.aload_n 0, 1) := by decide +kernel
theorem d_Zone_stateAt_1 : decode b_Zone_stateAt 1 = .ok (.lload_n 1, 1) := by decide +kernel
theorem d_Zone_stateAt_2 : decode b_Zone_stateAt 2 = .ok (.invokevirtual 103, 3) := by decide +kernel
theorem d_Zone_stateAt_5 : decode b_Zone_stateAt 5 = .ok (.istore_n 3, 1) := by decide +kernel
theorem d_Zone_stateAt_6 : decode b_Zone_stateAt 6 = .ok (.iload_n 3, 1) := by decide +kernel
theorem d_Zone_stateAt_7 : decode b_Zone_stateAt 7 = .ok (.aload_n 0, 1) := by decide +kernel
theorem d_Zone_stateAt_8 : decode b_Zone_stateAt 8 = .ok (.getfield 75, 3) := by decide +kernel
theorem d_Zone_stateAt_11 : decode b_Zone_stateAt 11 = .ok (.if_icmp .ge 20, 3) := by decide +kernel
theorem d_Zone_stateAt_14 : decode b_Zone_stateAt 14 = .ok (.iload_n 3, 1) := by decide +kernel
theorem d_Zone_stateAt_15 : decode b_Zone_stateAt 15 = .ok (.ifCond .ne 7, 3) := by decide +kernel
theorem d_Zone_stateAt_18 : decode b_Zone_stateAt 18 = .ok (.iconst 0, 1) := by decide +kernel
theorem d_Zone_stateAt_19 : decode b_Zone_stateAt 19 = .ok (.goto 11, 3) := by decide +kernel
theorem d_Zone_stateAt_22 : decode b_Zone_stateAt 22 = .ok (.aload_n 0, 1) := by decide +kernel
theorem d_Zone_stateAt_23 : decode b_Zone_stateAt 23 = .ok (.getfield 15, 3) := by decide +kernel
theorem d_Zone_stateAt_26 : decode b_Zone_stateAt 26 = .ok (.iload_n 3, 1) := by decide +kernel
theorem d_Zone_stateAt_27 : decode b_Zone_stateAt 27 = .ok (.iconst 1, 1) := by decide +kernel
theorem d_Zone_stateAt_28 : decode b_Zone_stateAt 28 = .ok (.isub, 1) := by decide +kernel
theorem d_Zone_stateAt_29 : decode b_Zone_stateAt 29 = .ok (.iaload, 1) := by decide +kernel
theorem d_Zone_stateAt_30 : decode b_Zone_stateAt 30 = .ok (.ireturn, 1) := by decide +kernel
theorem d_Zone_stateAt_31 : decode b_Zone_stateAt 31 = .ok (.aload_n 0, 1) := by decide +kernel
theorem d_Zone_stateAt_32 : decode b_Zone_stateAt 32 = .ok (.getfield 52, 3) := by decide +kernel
theorem d_Zone_stateAt_35 : decode b_Zone_stateAt 35 = .ok (.invokevirtual 107, 3) := by decide +kernel
theorem d_Zone_stateAt_38 : decode b_Zone_stateAt 38 = .ok (.ifCond .eq 21, 3) := by decide +kernel
theorem d_Zone_stateAt_41 : decode b_Zone_stateAt 41 = .ok (.aload_n 0, 1) := by decide +kernel
theorem d_Zone_stateAt_42 : decode b_Zone_stateAt 42 = .ok (.getfield 52, 3) := by decide +kernel
theorem d_Zone_stateAt_45 : decode b_Zone_stateAt 45 = .ok (.lload_n 1, 1) := by decide +kernel
theorem d_Zone_stateAt_46 : decode b_Zone_stateAt 46 = .ok (.invokevirtual 111, 3) := by decide +kernel
theorem d_Zone_stateAt_49 : decode b_Zone_stateAt 49 = .ok (.ifCond .eq 8, 3) := by decide +kernel
theorem d_Zone_stateAt_52 : decode b_Zone_stateAt 52 = .ok (.bipush (-2), 2) := by decide +kernel
theorem d_Zone_stateAt_54 : decode b_Zone_stateAt 54 = .ok (.goto 4, 3) := by decide +kernel
theorem d_Zone_stateAt_57 : decode b_Zone_stateAt 57 = .ok (.iconst (-1), 1) := by decide +kernel
theorem d_Zone_stateAt_58 : decode b_Zone_stateAt 58 = .ok (.ireturn, 1) := by decide +kernel
theorem d_Zone_stateAt_59 : decode b_Zone_stateAt 59 = .ok (.aload_n 0, 1) := by decide +kernel
theorem d_Zone_stateAt_60 : decode b_Zone_stateAt 60 = .ok (.getfield 75, 3) := by decide +kernel
theorem d_Zone_stateAt_63 : decode b_Zone_stateAt 63 = .ok (.ifCond .ne 7, 3) := by decide +kernel
theorem d_Zone_stateAt_66 : decode b_Zone_stateAt 66 = .ok (.iconst 0, 1) := by decide +kernel
theorem d_Zone_stateAt_67 : decode b_Zone_stateAt 67 = .ok (.goto 5, 3) := by decide +kernel
theorem d_Zone_stateAt_70 : decode b_Zone_stateAt 70 = .ok (.bipush (-3), 2) := by decide +kernel
theorem d_Zone_stateAt_72 : decode b_Zone_stateAt 72 = .ok (.ireturn, 1) := by decide +kernel
abbrev b_Zone_offsetOf : ByteArray := prog_12_method_6_code
def y_Zone_offsetOf : MethodName := ⟨"ZoneFiles$Zone", "offsetOf", "(I)I"⟩
theorem d_Zone_offsetOf_0 : decode b_Zone_offsetOf 0 = .ok (.iload_n 1, 1) := by decide +kernel
theorem d_Zone_offsetOf_1 : decode b_Zone_offsetOf 1 = .ok (.ifCond .lt 22, 3) := by decide +kernel
theorem d_Zone_offsetOf_4 : decode b_Zone_offsetOf 4 = .ok (.iload_n 1, 1) := by decide +kernel
theorem d_Zone_offsetOf_5 : decode b_Zone_offsetOf 5 = .ok (.aload_n 0, 1) := by decide +kernel
theorem d_Zone_offsetOf_6 : decode b_Zone_offsetOf 6 = .ok (.getfield 78, 3) := by decide +kernel
theorem d_Zone_offsetOf_9 : decode b_Zone_offsetOf 9 = .ok (.if_icmp .ge 12, 3) := by decide +kernel
theorem d_Zone_offsetOf_12 : decode b_Zone_offsetOf 12 = .ok (.aload_n 0, 1) := by decide +kernel
theorem d_Zone_offsetOf_13 : decode b_Zone_offsetOf 13 = .ok (.getfield 19, 3) := by decide +kernel
theorem d_Zone_offsetOf_16 : decode b_Zone_offsetOf 16 = .ok (.iload_n 1, 1) := by decide +kernel
theorem d_Zone_offsetOf_17 : decode b_Zone_offsetOf 17 = .ok (.iaload, 1) := by decide +kernel
theorem d_Zone_offsetOf_18 : decode b_Zone_offsetOf 18 = .ok (.goto 4, 3) := by decide +kernel
theorem d_Zone_offsetOf_21 : decode b_Zone_offsetOf 21 = .ok (.iconst 0, 1) := by decide +kernel
theorem d_Zone_offsetOf_22 : decode b_Zone_offsetOf 22 = .ok (.ireturn, 1) := by decide +kernel
theorem d_Zone_offsetOf_23 : decode b_Zone_offsetOf 23 = .ok (.iload_n 1, 1) := by decide +kernel
theorem d_Zone_offsetOf_24 : decode b_Zone_offsetOf 24 = .ok (.bipush (-2), 2) := by decide +kernel
theorem d_Zone_offsetOf_26 : decode b_Zone_offsetOf 26 = .ok (.if_icmp .ne 13, 3) := by decide +kernel
theorem d_Zone_offsetOf_29 : decode b_Zone_offsetOf 29 = .ok (.aload_n 0, 1) := by decide +kernel
theorem d_Zone_offsetOf_30 : decode b_Zone_offsetOf 30 = .ok (.getfield 52, 3) := by decide +kernel
theorem d_Zone_offsetOf_33 : decode b_Zone_offsetOf 33 = .ok (.getfield 115, 3) := by decide +kernel
theorem d_Zone_offsetOf_36 : decode b_Zone_offsetOf 36 = .ok (.goto 10, 3) := by decide +kernel
theorem d_Zone_offsetOf_39 : decode b_Zone_offsetOf 39 = .ok (.aload_n 0, 1) := by decide +kernel
theorem d_Zone_offsetOf_40 : decode b_Zone_offsetOf 40 = .ok (.getfield 52, 3) := by decide +kernel
theorem d_Zone_offsetOf_43 : decode b_Zone_offsetOf 43 = .ok (.getfield 118, 3) := by decide +kernel
theorem d_Zone_offsetOf_46 : decode b_Zone_offsetOf 46 = .ok (.ireturn, 1) := by decide +kernel
abbrev b_Zone_dstOf : ByteArray := prog_12_method_7_code
def y_Zone_dstOf : MethodName := ⟨"ZoneFiles$Zone", "dstOf", "(I)I"⟩
theorem d_Zone_dstOf_0 : decode b_Zone_dstOf 0 = .ok (.iload_n 1, 1) := by decide +kernel
theorem d_Zone_dstOf_1 : decode b_Zone_dstOf 1 = .ok (.ifCond .lt 22, 3) := by decide +kernel
theorem d_Zone_dstOf_4 : decode b_Zone_dstOf 4 = .ok (.iload_n 1, 1) := by decide +kernel
theorem d_Zone_dstOf_5 : decode b_Zone_dstOf 5 = .ok (.aload_n 0, 1) := by decide +kernel
theorem d_Zone_dstOf_6 : decode b_Zone_dstOf 6 = .ok (.getfield 78, 3) := by decide +kernel
theorem d_Zone_dstOf_9 : decode b_Zone_dstOf 9 = .ok (.if_icmp .ge 12, 3) := by decide +kernel
theorem d_Zone_dstOf_12 : decode b_Zone_dstOf 12 = .ok (.aload_n 0, 1) := by decide +kernel
theorem d_Zone_dstOf_13 : decode b_Zone_dstOf 13 = .ok (.getfield 22, 3) := by decide +kernel
theorem d_Zone_dstOf_16 : decode b_Zone_dstOf 16 = .ok (.iload_n 1, 1) := by decide +kernel
theorem d_Zone_dstOf_17 : decode b_Zone_dstOf 17 = .ok (.iaload, 1) := by decide +kernel
theorem d_Zone_dstOf_18 : decode b_Zone_dstOf 18 = .ok (.goto 4, 3) := by decide +kernel
theorem d_Zone_dstOf_21 : decode b_Zone_dstOf 21 = .ok (.iconst 0, 1) := by decide +kernel
theorem d_Zone_dstOf_22 : decode b_Zone_dstOf 22 = .ok (.ireturn, 1) := by decide +kernel
theorem d_Zone_dstOf_23 : decode b_Zone_dstOf 23 = .ok (.iload_n 1, 1) := by decide +kernel
theorem d_Zone_dstOf_24 : decode b_Zone_dstOf 24 = .ok (.bipush (-2), 2) := by decide +kernel
theorem d_Zone_dstOf_26 : decode b_Zone_dstOf 26 = .ok (.if_icmp .ne 7, 3) := by decide +kernel
theorem d_Zone_dstOf_29 : decode b_Zone_dstOf 29 = .ok (.iconst 1, 1) := by decide +kernel
theorem d_Zone_dstOf_30 : decode b_Zone_dstOf 30 = .ok (.goto 4, 3) := by decide +kernel
theorem d_Zone_dstOf_33 : decode b_Zone_dstOf 33 = .ok (.iconst 0, 1) := by decide +kernel
theorem d_Zone_dstOf_34 : decode b_Zone_dstOf 34 = .ok (.ireturn, 1) := by decide +kernel
abbrev b_Zone_nameSize : ByteArray := prog_12_method_8_code
def y_Zone_nameSize : MethodName := ⟨"ZoneFiles$Zone", "nameSize", "(I)I"⟩
theorem d_Zone_nameSize_0 : decode b_Zone_nameSize 0 = .ok (.iload_n 1, 1) := by decide +kernel
theorem d_Zone_nameSize_1 : decode b_Zone_nameSize 1 = .ok (.bipush (-3), 2) := by decide +kernel
theorem d_Zone_nameSize_3 : decode b_Zone_nameSize 3 = .ok (.if_icmp .eq 11, 3) := by decide +kernel
theorem d_Zone_nameSize_6 : decode b_Zone_nameSize 6 = .ok (.iload_n 1, 1) := by decide +kernel
theorem d_Zone_nameSize_7 : decode b_Zone_nameSize 7 = .ok (.aload_n 0, 1) := by decide +kernel
theorem d_Zone_nameSize_8 : decode b_Zone_nameSize 8 = .ok (.getfield 78, 3) := by decide +kernel
theorem d_Zone_nameSize_11 : decode b_Zone_nameSize 11 = .ok (.if_icmp .lt 5, 3) := by decide +kernel
theorem d_Zone_nameSize_14 : decode b_Zone_nameSize 14 = .ok (.iconst 0, 1) := by decide +kernel
theorem d_Zone_nameSize_15 : decode b_Zone_nameSize 15 = .ok (.ireturn, 1) := by decide +kernel
theorem d_Zone_nameSize_16 : decode b_Zone_nameSize 16 = .ok (.iload_n 1, 1) := by decide +kernel
theorem d_Zone_nameSize_17 : decode b_Zone_nameSize 17 = .ok (.ifCond .ge 27, 3) := by decide +kernel
theorem d_Zone_nameSize_20 : decode b_Zone_nameSize 20 = .ok (.iload_n 1, 1) := by decide +kernel
theorem d_Zone_nameSize_21 : decode b_Zone_nameSize 21 = .ok (.bipush (-2), 2) := by decide +kernel
theorem d_Zone_nameSize_23 : decode b_Zone_nameSize 23 = .ok (.if_icmp .ne 13, 3) := by decide +kernel
theorem d_Zone_nameSize_26 : decode b_Zone_nameSize 26 = .ok (.aload_n 0, 1) := by decide +kernel
theorem d_Zone_nameSize_27 : decode b_Zone_nameSize 27 = .ok (.getfield 52, 3) := by decide +kernel
theorem d_Zone_nameSize_30 : decode b_Zone_nameSize 30 = .ok (.getfield 121, 3) := by decide +kernel
theorem d_Zone_nameSize_33 : decode b_Zone_nameSize 33 = .ok (.goto 10, 3) := by decide +kernel
theorem d_Zone_nameSize_36 : decode b_Zone_nameSize 36 = .ok (.aload_n 0, 1) := by decide +kernel
theorem d_Zone_nameSize_37 : decode b_Zone_nameSize 37 = .ok (.getfield 52, 3) := by decide +kernel
theorem d_Zone_nameSize_40 : decode b_Zone_nameSize 40 = .ok (.getfield 65, 3) := by decide +kernel
theorem d_Zone_nameSize_43 : decode b_Zone_nameSize 43 = .ok (.ireturn, 1) := by decide +kernel
theorem d_Zone_nameSize_44 : decode b_Zone_nameSize 44 = .ok (.iconst 0, 1) := by decide +kernel
theorem d_Zone_nameSize_45 : decode b_Zone_nameSize 45 = .ok (.istore_n 2, 1) := by decide +kernel
theorem d_Zone_nameSize_46 : decode b_Zone_nameSize 46 = .ok (.aload_n 0, 1) := by decide +kernel
theorem d_Zone_nameSize_47 : decode b_Zone_nameSize 47 = .ok (.getfield 25, 3) := by decide +kernel
theorem d_Zone_nameSize_50 : decode b_Zone_nameSize 50 = .ok (.iload_n 1, 1) := by decide +kernel
theorem d_Zone_nameSize_51 : decode b_Zone_nameSize 51 = .ok (.iaload, 1) := by decide +kernel
theorem d_Zone_nameSize_52 : decode b_Zone_nameSize 52 = .ok (.istore_n 3, 1) := by decide +kernel
theorem d_Zone_nameSize_53 : decode b_Zone_nameSize 53 = .ok (.iload_n 3, 1) := by decide +kernel
theorem d_Zone_nameSize_54 : decode b_Zone_nameSize 54 = .ok (.aload_n 0, 1) := by decide +kernel
theorem d_Zone_nameSize_55 : decode b_Zone_nameSize 55 = .ok (.getfield 39, 3) := by decide +kernel
theorem d_Zone_nameSize_58 : decode b_Zone_nameSize 58 = .ok (.getfield 124, 3) := by decide +kernel
theorem d_Zone_nameSize_61 : decode b_Zone_nameSize 61 = .ok (.if_icmp .ge 23, 3) := by decide +kernel
theorem d_Zone_nameSize_64 : decode b_Zone_nameSize 64 = .ok (.aload_n 0, 1) := by decide +kernel
theorem d_Zone_nameSize_65 : decode b_Zone_nameSize 65 = .ok (.getfield 39, 3) := by decide +kernel
theorem d_Zone_nameSize_68 : decode b_Zone_nameSize 68 = .ok (.iload_n 3, 1) := by decide +kernel
theorem d_Zone_nameSize_69 : decode b_Zone_nameSize 69 = .ok (.invokevirtual 127, 3) := by decide +kernel
theorem d_Zone_nameSize_72 : decode b_Zone_nameSize 72 = .ok (.ifCond .eq 12, 3) := by decide +kernel
theorem d_Zone_nameSize_75 : decode b_Zone_nameSize 75 = .ok (.iinc 2 1, 3) := by decide +kernel
theorem d_Zone_nameSize_78 : decode b_Zone_nameSize 78 = .ok (.iinc 3 1, 3) := by decide +kernel
theorem d_Zone_nameSize_81 : decode b_Zone_nameSize 81 = .ok (.goto (-28), 3) := by decide +kernel
theorem d_Zone_nameSize_84 : decode b_Zone_nameSize 84 = .ok (.iload_n 2, 1) := by decide +kernel
theorem d_Zone_nameSize_85 : decode b_Zone_nameSize 85 = .ok (.ireturn, 1) := by decide +kernel
abbrev b_Zone_nameByte : ByteArray := prog_12_method_9_code
def y_Zone_nameByte : MethodName := ⟨"ZoneFiles$Zone", "nameByte", "(II)I"⟩
theorem d_Zone_nameByte_0 : decode b_Zone_nameByte 0 = .ok (.iload_n 1, 1) := by decide +kernel
theorem d_Zone_nameByte_1 : decode b_Zone_nameByte 1 = .ok (.ifCond .lt 31, 3) := by decide +kernel
theorem d_Zone_nameByte_4 : decode b_Zone_nameByte 4 = .ok (.iload_n 1, 1) := by decide +kernel
theorem d_Zone_nameByte_5 : decode b_Zone_nameByte 5 = .ok (.aload_n 0, 1) := by decide +kernel
theorem d_Zone_nameByte_6 : decode b_Zone_nameByte 6 = .ok (.getfield 78, 3) := by decide +kernel
theorem d_Zone_nameByte_9 : decode b_Zone_nameByte 9 = .ok (.if_icmp .ge 21, 3) := by decide +kernel
theorem d_Zone_nameByte_12 : decode b_Zone_nameByte 12 = .ok (.aload_n 0, 1) := by decide +kernel
theorem d_Zone_nameByte_13 : decode b_Zone_nameByte 13 = .ok (.getfield 39, 3) := by decide +kernel
theorem d_Zone_nameByte_16 : decode b_Zone_nameByte 16 = .ok (.aload_n 0, 1) := by decide +kernel
theorem d_Zone_nameByte_17 : decode b_Zone_nameByte 17 = .ok (.getfield 25, 3) := by decide +kernel
theorem d_Zone_nameByte_20 : decode b_Zone_nameByte 20 = .ok (.iload_n 1, 1) := by decide +kernel
theorem d_Zone_nameByte_21 : decode b_Zone_nameByte 21 = .ok (.iaload, 1) := by decide +kernel
theorem d_Zone_nameByte_22 : decode b_Zone_nameByte 22 = .ok (.iload_n 2, 1) := by decide +kernel
theorem d_Zone_nameByte_23 : decode b_Zone_nameByte 23 = .ok (.iadd, 1) := by decide +kernel
theorem d_Zone_nameByte_24 : decode b_Zone_nameByte 24 = .ok (.invokevirtual 127, 3) := by decide +kernel
theorem d_Zone_nameByte_27 : decode b_Zone_nameByte 27 = .ok (.goto 4, 3) := by decide +kernel
theorem d_Zone_nameByte_30 : decode b_Zone_nameByte 30 = .ok (.iconst (-1), 1) := by decide +kernel
theorem d_Zone_nameByte_31 : decode b_Zone_nameByte 31 = .ok (.ireturn, 1) := by decide +kernel
theorem d_Zone_nameByte_32 : decode b_Zone_nameByte 32 = .ok (.aload_n 0, 1) := by decide +kernel
theorem d_Zone_nameByte_33 : decode b_Zone_nameByte 33 = .ok (.getfield 52, 3) := by decide +kernel
theorem d_Zone_nameByte_36 : decode b_Zone_nameByte 36 = .ok (.getfield 59, 3) := by decide +kernel
theorem d_Zone_nameByte_39 : decode b_Zone_nameByte 39 = .ok (.iload_n 2, 1) := by decide +kernel
theorem d_Zone_nameByte_40 : decode b_Zone_nameByte 40 = .ok (.iload_n 1, 1) := by decide +kernel
theorem d_Zone_nameByte_41 : decode b_Zone_nameByte 41 = .ok (.bipush (-2), 2) := by decide +kernel
theorem d_Zone_nameByte_43 : decode b_Zone_nameByte 43 = .ok (.if_icmp .ne 13, 3) := by decide +kernel
theorem d_Zone_nameByte_46 : decode b_Zone_nameByte 46 = .ok (.aload_n 0, 1) := by decide +kernel
theorem d_Zone_nameByte_47 : decode b_Zone_nameByte 47 = .ok (.getfield 52, 3) := by decide +kernel
theorem d_Zone_nameByte_50 : decode b_Zone_nameByte 50 = .ok (.getfield 130, 3) := by decide +kernel
theorem d_Zone_nameByte_53 : decode b_Zone_nameByte 53 = .ok (.goto 10, 3) := by decide +kernel
theorem d_Zone_nameByte_56 : decode b_Zone_nameByte 56 = .ok (.aload_n 0, 1) := by decide +kernel
theorem d_Zone_nameByte_57 : decode b_Zone_nameByte 57 = .ok (.getfield 52, 3) := by decide +kernel
theorem d_Zone_nameByte_60 : decode b_Zone_nameByte 60 = .ok (.getfield 133, 3) := by decide +kernel
theorem d_Zone_nameByte_63 : decode b_Zone_nameByte 63 = .ok (.iadd, 1) := by decide +kernel
theorem d_Zone_nameByte_64 : decode b_Zone_nameByte 64 = .ok (.invokevirtual 127, 3) := by decide +kernel
theorem d_Zone_nameByte_67 : decode b_Zone_nameByte 67 = .ok (.ireturn, 1) := by decide +kernel
abbrev b_Zone_isSame : ByteArray := prog_12_method_10_code
def y_Zone_isSame : MethodName := ⟨"ZoneFiles$Zone", "isSame", "(II)Z"⟩
theorem d_Zone_isSame_0 : decode b_Zone_isSame 0 = .ok (.iload_n 1, 1) := by decide +kernel
theorem d_Zone_isSame_1 : decode b_Zone_isSame 1 = .ok (.iload_n 2, 1) := by decide +kernel
theorem d_Zone_isSame_2 : decode b_Zone_isSame 2 = .ok (.if_icmp .ne 5, 3) := by decide +kernel
theorem d_Zone_isSame_5 : decode b_Zone_isSame 5 = .ok (.iconst 1, 1) := by decide +kernel
theorem d_Zone_isSame_6 : decode b_Zone_isSame 6 = .ok (.ireturn, 1) := by decide +kernel
theorem d_Zone_isSame_7 : decode b_Zone_isSame 7 = .ok (.iload_n 1, 1) := by decide +kernel
theorem d_Zone_isSame_8 : decode b_Zone_isSame 8 = .ok (.bipush (-3), 2) := by decide +kernel
theorem d_Zone_isSame_10 : decode b_Zone_isSame 10 = .ok (.if_icmp .eq 9, 3) := by decide +kernel
theorem d_Zone_isSame_13 : decode b_Zone_isSame 13 = .ok (.iload_n 2, 1) := by decide +kernel
theorem d_Zone_isSame_14 : decode b_Zone_isSame 14 = .ok (.bipush (-3), 2) := by decide +kernel
theorem d_Zone_isSame_16 : decode b_Zone_isSame 16 = .ok (.if_icmp .ne 5, 3) := by decide +kernel
theorem d_Zone_isSame_19 : decode b_Zone_isSame 19 = .ok (.iconst 0, 1) := by decide +kernel
theorem d_Zone_isSame_20 : decode b_Zone_isSame 20 = .ok (.ireturn, 1) := by decide +kernel
theorem d_Zone_isSame_21 : decode b_Zone_isSame 21 = .ok (.aload_n 0, 1) := by decide +kernel
theorem d_Zone_isSame_22 : decode b_Zone_isSame 22 = .ok (.iload_n 1, 1) := by decide +kernel
theorem d_Zone_isSame_23 : decode b_Zone_isSame 23 = .ok (.invokevirtual 136, 3) := by decide +kernel
theorem d_Zone_isSame_26 : decode b_Zone_isSame 26 = .ok (.aload_n 0, 1) := by decide +kernel
theorem d_Zone_isSame_27 : decode b_Zone_isSame 27 = .ok (.iload_n 2, 1) := by decide +kernel
theorem d_Zone_isSame_28 : decode b_Zone_isSame 28 = .ok (.invokevirtual 136, 3) := by decide +kernel
theorem d_Zone_isSame_31 : decode b_Zone_isSame 31 = .ok (.if_icmp .ne 16, 3) := by decide +kernel
theorem d_Zone_isSame_34 : decode b_Zone_isSame 34 = .ok (.aload_n 0, 1) := by decide +kernel
theorem d_Zone_isSame_35 : decode b_Zone_isSame 35 = .ok (.iload_n 1, 1) := by decide +kernel
theorem d_Zone_isSame_36 : decode b_Zone_isSame 36 = .ok (.invokevirtual 139, 3) := by decide +kernel
theorem d_Zone_isSame_39 : decode b_Zone_isSame 39 = .ok (.aload_n 0, 1) := by decide +kernel
theorem d_Zone_isSame_40 : decode b_Zone_isSame 40 = .ok (.iload_n 2, 1) := by decide +kernel
theorem d_Zone_isSame_41 : decode b_Zone_isSame 41 = .ok (.invokevirtual 139, 3) := by decide +kernel
theorem d_Zone_isSame_44 : decode b_Zone_isSame 44 = .ok (.if_icmp .eq 5, 3) := by decide +kernel
theorem d_Zone_isSame_47 : decode b_Zone_isSame 47 = .ok (.iconst 0, 1) := by decide +kernel
theorem d_Zone_isSame_48 : decode b_Zone_isSame 48 = .ok (.ireturn, 1) := by decide +kernel
theorem d_Zone_isSame_49 : decode b_Zone_isSame 49 = .ok (.aload_n 0, 1) := by decide +kernel
theorem d_Zone_isSame_50 : decode b_Zone_isSame 50 = .ok (.iload_n 1, 1) := by decide +kernel
theorem d_Zone_isSame_51 : decode b_Zone_isSame 51 = .ok (.invokevirtual 142, 3) := by decide +kernel
theorem d_Zone_isSame_54 : decode b_Zone_isSame 54 = .ok (.istore_n 3, 1) := by decide +kernel
theorem d_Zone_isSame_55 : decode b_Zone_isSame 55 = .ok (.iload_n 3, 1) := by decide +kernel
theorem d_Zone_isSame_56 : decode b_Zone_isSame 56 = .ok (.aload_n 0, 1) := by decide +kernel
theorem d_Zone_isSame_57 : decode b_Zone_isSame 57 = .ok (.iload_n 2, 1) := by decide +kernel
theorem d_Zone_isSame_58 : decode b_Zone_isSame 58 = .ok (.invokevirtual 142, 3) := by decide +kernel
theorem d_Zone_isSame_61 : decode b_Zone_isSame 61 = .ok (.if_icmp .eq 5, 3) := by decide +kernel
theorem d_Zone_isSame_64 : decode b_Zone_isSame 64 = .ok (.iconst 0, 1) := by decide +kernel
theorem d_Zone_isSame_65 : decode b_Zone_isSame 65 = .ok (.ireturn, 1) := by decide +kernel
theorem d_Zone_isSame_66 : decode b_Zone_isSame 66 = .ok (.iconst 0, 1) := by decide +kernel
theorem d_Zone_isSame_67 : decode b_Zone_isSame 67 = .ok (.istore 4, 2) := by decide +kernel
theorem d_Zone_isSame_69 : decode b_Zone_isSame 69 = .ok (.iload 4, 2) := by decide +kernel
theorem d_Zone_isSame_71 : decode b_Zone_isSame 71 = .ok (.iload_n 3, 1) := by decide +kernel
theorem d_Zone_isSame_72 : decode b_Zone_isSame 72 = .ok (.if_icmp .ge 28, 3) := by decide +kernel
theorem d_Zone_isSame_75 : decode b_Zone_isSame 75 = .ok (.aload_n 0, 1) := by decide +kernel
theorem d_Zone_isSame_76 : decode b_Zone_isSame 76 = .ok (.iload_n 1, 1) := by decide +kernel
theorem d_Zone_isSame_77 : decode b_Zone_isSame 77 = .ok (.iload 4, 2) := by decide +kernel
theorem d_Zone_isSame_79 : decode b_Zone_isSame 79 = .ok (.invokevirtual 145, 3) := by decide +kernel
theorem d_Zone_isSame_82 : decode b_Zone_isSame 82 = .ok (.aload_n 0, 1) := by decide +kernel
theorem d_Zone_isSame_83 : decode b_Zone_isSame 83 = .ok (.iload_n 2, 1) := by decide +kernel
theorem d_Zone_isSame_84 : decode b_Zone_isSame 84 = .ok (.iload 4, 2) := by decide +kernel
theorem d_Zone_isSame_86 : decode b_Zone_isSame 86 = .ok (.invokevirtual 145, 3) := by decide +kernel
theorem d_Zone_isSame_89 : decode b_Zone_isSame 89 = .ok (.if_icmp .eq 5, 3) := by decide +kernel
theorem d_Zone_isSame_92 : decode b_Zone_isSame 92 = .ok (.iconst 0, 1) := by decide +kernel
theorem d_Zone_isSame_93 : decode b_Zone_isSame 93 = .ok (.ireturn, 1) := by decide +kernel
theorem d_Zone_isSame_94 : decode b_Zone_isSame 94 = .ok (.iinc 4 1, 3) := by decide +kernel
theorem d_Zone_isSame_97 : decode b_Zone_isSame 97 = .ok (.goto (-28), 3) := by decide +kernel
theorem d_Zone_isSame_100 : decode b_Zone_isSame 100 = .ok (.iconst 1, 1) := by decide +kernel
theorem d_Zone_isSame_101 : decode b_Zone_isSame 101 = .ok (.ireturn, 1) := by decide +kernel
abbrev b_Zone_beginsOther : ByteArray := prog_12_method_13_code
def y_Zone_beginsOther : MethodName := ⟨"ZoneFiles$Zone", "beginsOther", "(II)Z"⟩
theorem d_Zone_beginsOther_0 : decode b_Zone_beginsOther 0 = .ok (.iload_n 1, 1) := by decide +kernel
theorem d_Zone_beginsOther_1 : decode b_Zone_beginsOther 1 = .ok (.ifCond .lt 24, 3) := by decide +kernel
theorem d_Zone_beginsOther_4 : decode b_Zone_beginsOther 4 = .ok (.iload_n 1, 1) := by decide +kernel
theorem d_Zone_beginsOther_5 : decode b_Zone_beginsOther 5 = .ok (.aload_n 0, 1) := by decide +kernel
theorem d_Zone_beginsOther_6 : decode b_Zone_beginsOther 6 = .ok (.getfield 75, 3) := by decide +kernel
theorem d_Zone_beginsOther_9 : decode b_Zone_beginsOther 9 = .ok (.if_icmp .ge 16, 3) := by decide +kernel
theorem d_Zone_beginsOther_12 : decode b_Zone_beginsOther 12 = .ok (.aload_n 0, 1) := by decide +kernel
theorem d_Zone_beginsOther_13 : decode b_Zone_beginsOther 13 = .ok (.getfield 9, 3) := by decide +kernel
theorem d_Zone_beginsOther_16 : decode b_Zone_beginsOther 16 = .ok (.iload_n 1, 1) := by decide +kernel
theorem d_Zone_beginsOther_17 : decode b_Zone_beginsOther 17 = .ok (.laload, 1) := by decide +kernel
theorem d_Zone_beginsOther_18 : decode b_Zone_beginsOther 18 = .ok (.ldc2_w 165, 3) := by decide +kernel
theorem d_Zone_beginsOther_21 : decode b_Zone_beginsOther 21 = .ok (.lcmp, 1) := by decide +kernel
theorem d_Zone_beginsOther_22 : decode b_Zone_beginsOther 22 = .ok (.ifCond .gt 5, 3) := by decide +kernel
theorem d_Zone_beginsOther_25 : decode b_Zone_beginsOther 25 = .ok (.iconst 0, 1) := by decide +kernel
theorem d_Zone_beginsOther_26 : decode b_Zone_beginsOther 26 = .ok (.ireturn, 1) := by decide +kernel
theorem d_Zone_beginsOther_27 : decode b_Zone_beginsOther 27 = .ok (.aload_n 0, 1) := by decide +kernel
theorem d_Zone_beginsOther_28 : decode b_Zone_beginsOther 28 = .ok (.iload_n 1, 1) := by decide +kernel
theorem d_Zone_beginsOther_29 : decode b_Zone_beginsOther 29 = .ok (.ifCond .ne 7, 3) := by decide +kernel
theorem d_Zone_beginsOther_32 : decode b_Zone_beginsOther 32 = .ok (.iconst 0, 1) := by decide +kernel
theorem d_Zone_beginsOther_33 : decode b_Zone_beginsOther 33 = .ok (.goto 11, 3) := by decide +kernel
theorem d_Zone_beginsOther_36 : decode b_Zone_beginsOther 36 = .ok (.aload_n 0, 1) := by decide +kernel
theorem d_Zone_beginsOther_37 : decode b_Zone_beginsOther 37 = .ok (.getfield 15, 3) := by decide +kernel
theorem d_Zone_beginsOther_40 : decode b_Zone_beginsOther 40 = .ok (.iload_n 1, 1) := by decide +kernel
theorem d_Zone_beginsOther_41 : decode b_Zone_beginsOther 41 = .ok (.iconst 1, 1) := by decide +kernel
theorem d_Zone_beginsOther_42 : decode b_Zone_beginsOther 42 = .ok (.isub, 1) := by decide +kernel
theorem d_Zone_beginsOther_43 : decode b_Zone_beginsOther 43 = .ok (.iaload, 1) := by decide +kernel
theorem d_Zone_beginsOther_44 : decode b_Zone_beginsOther 44 = .ok (.iload_n 2, 1) := by decide +kernel
theorem d_Zone_beginsOther_45 : decode b_Zone_beginsOther 45 = .ok (.invokevirtual 172, 3) := by decide +kernel
theorem d_Zone_beginsOther_48 : decode b_Zone_beginsOther 48 = .ok (.ifCond .ne 7, 3) := by decide +kernel
theorem d_Zone_beginsOther_51 : decode b_Zone_beginsOther 51 = .ok (.iconst 1, 1) := by decide +kernel
theorem d_Zone_beginsOther_52 : decode b_Zone_beginsOther 52 = .ok (.goto 4, 3) := by decide +kernel
theorem d_Zone_beginsOther_55 : decode b_Zone_beginsOther 55 = .ok (.iconst 0, 1) := by decide +kernel
theorem d_Zone_beginsOther_56 : decode b_Zone_beginsOther 56 = .ok (.ireturn, 1) := by decide +kernel
abbrev b_Zone_fitsFourBytes : ByteArray := prog_12_method_20_code
def y_Zone_fitsFourBytes : MethodName := ⟨"ZoneFiles$Zone", "fitsFourBytes", "()Z"⟩
theorem d_Zone_fitsFourBytes_0 : decode b_Zone_fitsFourBytes 0 = .ok (.iconst 0, 1) := by decide +kernel
theorem d_Zone_fitsFourBytes_1 : decode b_Zone_fitsFourBytes 1 = .ok (.istore_n 1, 1) := by decide +kernel
theorem d_Zone_fitsFourBytes_2 : decode b_Zone_fitsFourBytes 2 = .ok (.iload_n 1, 1) := by decide +kernel
theorem d_Zone_fitsFourBytes_3 : decode b_Zone_fitsFourBytes 3 = .ok (.aload_n 0, 1) := by decide +kernel
theorem d_Zone_fitsFourBytes_4 : decode b_Zone_fitsFourBytes 4 = .ok (.getfield 75, 3) := by decide +kernel
theorem d_Zone_fitsFourBytes_7 : decode b_Zone_fitsFourBytes 7 = .ok (.if_icmp .ge 29, 3) := by decide +kernel
theorem d_Zone_fitsFourBytes_10 : decode b_Zone_fitsFourBytes 10 = .ok (.aload_n 0, 1) := by decide +kernel
theorem d_Zone_fitsFourBytes_11 : decode b_Zone_fitsFourBytes 11 = .ok (.getfield 9, 3) := by decide +kernel
theorem d_Zone_fitsFourBytes_14 : decode b_Zone_fitsFourBytes 14 = .ok (.iload_n 1, 1) := by decide +kernel
theorem d_Zone_fitsFourBytes_15 : decode b_Zone_fitsFourBytes 15 = .ok (.laload, 1) := by decide +kernel
theorem d_Zone_fitsFourBytes_16 : decode b_Zone_fitsFourBytes 16 = .ok (.aload_n 0, 1) := by decide +kernel
theorem d_Zone_fitsFourBytes_17 : decode b_Zone_fitsFourBytes 17 = .ok (.getfield 9, 3) := by decide +kernel
theorem d_Zone_fitsFourBytes_20 : decode b_Zone_fitsFourBytes 20 = .ok (.iload_n 1, 1) := by decide +kernel
theorem d_Zone_fitsFourBytes_21 : decode b_Zone_fitsFourBytes 21 = .ok (.laload, 1) := by decide +kernel
theorem d_Zone_fitsFourBytes_22 : decode b_Zone_fitsFourBytes 22 = .ok (.l2i, 1) := by decide +kernel
theorem d_Zone_fitsFourBytes_23 : decode b_Zone_fitsFourBytes 23 = .ok (.i2l, 1) := by decide +kernel
theorem d_Zone_fitsFourBytes_24 : decode b_Zone_fitsFourBytes 24 = .ok (.lcmp, 1) := by decide +kernel
theorem d_Zone_fitsFourBytes_25 : decode b_Zone_fitsFourBytes 25 = .ok (.ifCond .eq 5, 3) := by decide +kernel
theorem d_Zone_fitsFourBytes_28 : decode b_Zone_fitsFourBytes 28 = .ok (.iconst 0, 1) := by decide +kernel
theorem d_Zone_fitsFourBytes_29 : decode b_Zone_fitsFourBytes 29 = .ok (.ireturn, 1) := by decide +kernel
theorem d_Zone_fitsFourBytes_30 : decode b_Zone_fitsFourBytes 30 = .ok (.iinc 1 1, 3) := by decide +kernel
theorem d_Zone_fitsFourBytes_33 : decode b_Zone_fitsFourBytes 33 = .ok (.goto (-31), 3) := by decide +kernel
theorem d_Zone_fitsFourBytes_36 : decode b_Zone_fitsFourBytes 36 = .ok (.iconst 0, 1) := by decide +kernel
theorem d_Zone_fitsFourBytes_37 : decode b_Zone_fitsFourBytes 37 = .ok (.istore_n 1, 1) := by decide +kernel
theorem d_Zone_fitsFourBytes_38 : decode b_Zone_fitsFourBytes 38 = .ok (.iload_n 1, 1) := by decide +kernel
theorem d_Zone_fitsFourBytes_39 : decode b_Zone_fitsFourBytes 39 = .ok (.aload_n 0, 1) := by decide +kernel
theorem d_Zone_fitsFourBytes_40 : decode b_Zone_fitsFourBytes 40 = .ok (.getfield 81, 3) := by decide +kernel
theorem d_Zone_fitsFourBytes_43 : decode b_Zone_fitsFourBytes 43 = .ok (.if_icmp .ge 29, 3) := by decide +kernel
theorem d_Zone_fitsFourBytes_46 : decode b_Zone_fitsFourBytes 46 = .ok (.aload_n 0, 1) := by decide +kernel
theorem d_Zone_fitsFourBytes_47 : decode b_Zone_fitsFourBytes 47 = .ok (.getfield 43, 3) := by decide +kernel
theorem d_Zone_fitsFourBytes_50 : decode b_Zone_fitsFourBytes 50 = .ok (.iload_n 1, 1) := by decide +kernel
theorem d_Zone_fitsFourBytes_51 : decode b_Zone_fitsFourBytes 51 = .ok (.laload, 1) := by decide +kernel
theorem d_Zone_fitsFourBytes_52 : decode b_Zone_fitsFourBytes 52 = .ok (.aload_n 0, 1) := by decide +kernel
theorem d_Zone_fitsFourBytes_53 : decode b_Zone_fitsFourBytes 53 = .ok (.getfield 43, 3) := by decide +kernel
theorem d_Zone_fitsFourBytes_56 : decode b_Zone_fitsFourBytes 56 = .ok (.iload_n 1, 1) := by decide +kernel
theorem d_Zone_fitsFourBytes_57 : decode b_Zone_fitsFourBytes 57 = .ok (.laload, 1) := by decide +kernel
theorem d_Zone_fitsFourBytes_58 : decode b_Zone_fitsFourBytes 58 = .ok (.l2i, 1) := by decide +kernel
theorem d_Zone_fitsFourBytes_59 : decode b_Zone_fitsFourBytes 59 = .ok (.i2l, 1) := by decide +kernel
theorem d_Zone_fitsFourBytes_60 : decode b_Zone_fitsFourBytes 60 = .ok (.lcmp, 1) := by decide +kernel
theorem d_Zone_fitsFourBytes_61 : decode b_Zone_fitsFourBytes 61 = .ok (.ifCond .eq 5, 3) := by decide +kernel
theorem d_Zone_fitsFourBytes_64 : decode b_Zone_fitsFourBytes 64 = .ok (.iconst 0, 1) := by decide +kernel
theorem d_Zone_fitsFourBytes_65 : decode b_Zone_fitsFourBytes 65 = .ok (.ireturn, 1) := by decide +kernel
theorem d_Zone_fitsFourBytes_66 : decode b_Zone_fitsFourBytes 66 = .ok (.iinc 1 1, 3) := by decide +kernel
theorem d_Zone_fitsFourBytes_69 : decode b_Zone_fitsFourBytes 69 = .ok (.goto (-31), 3) := by decide +kernel
theorem d_Zone_fitsFourBytes_72 : decode b_Zone_fitsFourBytes 72 = .ok (.iconst 1, 1) := by decide +kernel
theorem d_Zone_fitsFourBytes_73 : decode b_Zone_fitsFourBytes 73 = .ok (.ireturn, 1) := by decide +kernel
-- ZoneFiles$Zone.timesUpTo(J)I
def f_Zone_timesUpTo_63 (nf : Nat) (x3 : Int32) : Option (Int32) :=
  some x3
def f_Zone_timesUpTo_57 (nf : Nat) (K11 : Int32 → Int32 → Int32 → Int64 → Option (Int32)) (x4 : Int32) (x5 : Int32) (x3 : Int32) (x1 : Int64) : Option (Int32) :=
  K11 (x5 + 1) x4 x3 x1
def f_Zone_timesUpTo_11 (nf : Nat) (zTiA : Nat → Int64) : Nat → Int32 → Int32 → Int32 → Int64 → Option (Int32)
  | 0, _, _, _, _ => none
  | n + 1, x5, x4, x3, x1 =>
    if (200 : Int32) ≤ x5 then
    f_Zone_timesUpTo_63 nf x3
    else
    if x4 ≤ x3 then
      f_Zone_timesUpTo_63 nf x3
      else
      if ((x3 + x4) / 2) < 0 ∨ 200 ≤ ((x3 + x4) / 2).toNatClampNeg then none else
        if x1 < (zTiA ((x3 + x4) / 2).toNatClampNeg) then
        f_Zone_timesUpTo_57 nf (f_Zone_timesUpTo_11 nf zTiA n) ((x3 + x4) / 2) x5 x3 x1
        else
        f_Zone_timesUpTo_57 nf (f_Zone_timesUpTo_11 nf zTiA n) x4 x5 (((x3 + x4) / 2) + 1) x1
def f_Zone_timesUpTo_0 (nf : Nat) (zTic : Int32) (zTiA : Nat → Int64) (x1 : Int64) : Option (Int32) :=
  f_Zone_timesUpTo_11 nf zTiA nf 0 zTic 0 x1
def f_Zone_timesUpTo (nf : Nat) (p0 : Int64) (zTic : Int32) (zTiA : Nat → Int64) : Option (Int32) :=
  f_Zone_timesUpTo_0 nf zTic zTiA p0
section
variable {p : Program} {l : Launch} {e : Env} {R : Room} {s : State} {m : MethodId} {args : Array Value} {below : List Frame} {meth : Method} {c : Code} {Q : State → Prop} {dC : Nat → ClassId} {dI : Nat → Nat → Nat} {nf : Nat}
variable {h0 : Nat} {zTi : Nat} {zTt : Nat} {zOf : Nat} {zDs : Nat} {zIx : Nat} {zSd : Nat} {zUt : Nat} {zCh : Nat} {zLt : Nat} {zLo : Nat} {zRu : Nat} {cAzTi : ClassId} {zVer : Int32} {zTic : Int32} {zTyc : Int32} {zLec : Int32} {zStc : Int32} {zUtc : Int32} {zTiA : Nat → Int64} {r0 : Int32}
set_option maxHeartbeats 400000 in
set_option maxRecDepth 100000 in
theorem k_Zone_timesUpTo_63 (C0 : Cx p s m meth c args R b_Zone_timesUpTo "ZoneFiles$Zone" 7 (some .int) 0 0) (hST : ST (fun _ => False) s s.heap) (hK : va_K (dC, dI) classes [(cAzTi, .long)] s) (hP : va_P (dC, dI) classes [(h0, .inr (8, [.int zVer, .int zTic, .int zTyc, .int zLec, .int zStc, .int zUtc, .ref zTi, .ref zTt, .ref zOf, .ref zDs, .ref zIx, .ref zSd, .ref zUt, .ref zCh, .ref zLt, .ref zLo, .ref zRu])), (zTi, .inl (cAzTi, 200, .inr (.inl zTiA)))] s.heap) (hE : ∀ (pc : Nat) (ls : Array Slot), decode b_Zone_timesUpTo pc = .ok (.ireturn, 1) → narrow .int (.int r0) = .int r0 → W p l e R s m args below meth c s.heap [] 0 0 Q (F0 m pc ls [.int r0])) {x3 : Int32} (hf : f_Zone_timesUpTo_63 nf x3 = some r0) {ls : Array Slot} (hl : lv_has ls 7 [(3, .int x3)]) : W p l e R s m args below meth c s.heap [] 0 0 Q (F0 m 63 ls []) := by
  obtain ⟨hx, hb, hr, hml, hown, hts, hlocks, hRf, hRl⟩ := id C0
  obtain ⟨tms, hZms, hTms, tmg, hZmg, hTmg, hNW⟩ := id hST
  unfold f_Zone_timesUpTo_63 at hf
  refine lv_iload_n hx hb d_Zone_timesUpTo_63 rfl (lv_at hl 0 rfl) ?_
  have e := rs hf
  subst e
  exact hE _ _ d_Zone_timesUpTo_64 rfl
set_option maxHeartbeats 400000 in
set_option maxRecDepth 100000 in
theorem k_Zone_timesUpTo_57 (C0 : Cx p s m meth c args R b_Zone_timesUpTo "ZoneFiles$Zone" 7 (some .int) 0 0) (hST : ST (fun _ => False) s s.heap) (hK : va_K (dC, dI) classes [(cAzTi, .long)] s) (hP : va_P (dC, dI) classes [(h0, .inr (8, [.int zVer, .int zTic, .int zTyc, .int zLec, .int zStc, .int zUtc, .ref zTi, .ref zTt, .ref zOf, .ref zDs, .ref zIx, .ref zSd, .ref zUt, .ref zCh, .ref zLt, .ref zLo, .ref zRu])), (zTi, .inl (cAzTi, 200, .inr (.inl zTiA)))] s.heap) (hE : ∀ (pc : Nat) (ls : Array Slot), decode b_Zone_timesUpTo pc = .ok (.ireturn, 1) → narrow .int (.int r0) = .int r0 → W p l e R s m args below meth c s.heap [] 0 0 Q (F0 m pc ls [.int r0])) {K11 : Int32 → Int32 → Int32 → Int64 → Option (Int32)} (hK11 : ∀ {x5 : Int32} {x4 : Int32} {x3 : Int32} {x1 : Int64}, K11 x5 x4 x3 x1 = some r0 → ∀ {ls : Array Slot}, lv_has ls 7 [(5, .int x5), (4, .int x4), (3, .int x3), (0, .ref h0), (1, .long x1)] → W p l e R s m args below meth c s.heap [] 0 0 Q (F0 m 11 ls [])) {x4 : Int32} {x5 : Int32} {x3 : Int32} {x1 : Int64} (hf : f_Zone_timesUpTo_57 nf K11 x4 x5 x3 x1 = some r0) {ls : Array Slot} (hl : lv_has ls 7 [(4, .int x4), (5, .int x5), (3, .int x3), (0, .ref h0), (1, .long x1)]) : W p l e R s m args below meth c s.heap [] 0 0 Q (F0 m 57 ls []) := by
  obtain ⟨hx, hb, hr, hml, hown, hts, hlocks, hRf, hRl⟩ := id C0
  obtain ⟨tms, hZms, hTms, tmg, hZmg, hTmg, hNW⟩ := id hST
  unfold f_Zone_timesUpTo_57 at hf
  refine lv_iinc (v := x5 + 1) (lv' := [(5, .int (x5 + 1)), (4, .int x4), (3, .int x3), (0, .ref h0), (1, .long x1)]) hx hb d_Zone_timesUpTo_57 hl (k := 1) rfl rfl (by decide) rfl (fun ls hl => ?_)
  refine lv_goto (tgt := 11) hx hb d_Zone_timesUpTo_60 (by decide) ?_
  exact hK11 hf (lv_sub hl [0, 1, 2, 3, 4] rfl)
set_option maxHeartbeats 400000 in
set_option maxRecDepth 100000 in
theorem k_Zone_timesUpTo_11 (C0 : Cx p s m meth c args R b_Zone_timesUpTo "ZoneFiles$Zone" 7 (some .int) 0 0) (hST : ST (fun _ => False) s s.heap) (hK : va_K (dC, dI) classes [(cAzTi, .long)] s) (hP : va_P (dC, dI) classes [(h0, .inr (8, [.int zVer, .int zTic, .int zTyc, .int zLec, .int zStc, .int zUtc, .ref zTi, .ref zTt, .ref zOf, .ref zDs, .ref zIx, .ref zSd, .ref zUt, .ref zCh, .ref zLt, .ref zLo, .ref zRu])), (zTi, .inl (cAzTi, 200, .inr (.inl zTiA)))] s.heap) (hE : ∀ (pc : Nat) (ls : Array Slot), decode b_Zone_timesUpTo pc = .ok (.ireturn, 1) → narrow .int (.int r0) = .int r0 → W p l e R s m args below meth c s.heap [] 0 0 Q (F0 m pc ls [.int r0])) : ∀ (n : Nat) {x5 : Int32} {x4 : Int32} {x3 : Int32} {x1 : Int64}, f_Zone_timesUpTo_11 nf zTiA n x5 x4 x3 x1 = some r0 → ∀ {ls : Array Slot}, lv_has ls 7 [(5, .int x5), (4, .int x4), (3, .int x3), (0, .ref h0), (1, .long x1)] → W p l e R s m args below meth c s.heap [] 0 0 Q (F0 m 11 ls []) := by
  obtain ⟨hx, hb, hr, hml, hown, hts, hlocks, hRf, hRl⟩ := id C0
  obtain ⟨tms, hZms, hTms, tmg, hZmg, hTmg, hNW⟩ := id hST
  intro n
  induction n with
  | zero =>
    intro x5 x4 x3 x1 hf
    exact absurd hf (by simp [f_Zone_timesUpTo_11])
  | succ n ih =>
    intro x5 x4 x3 x1 hf ls hl
    unfold f_Zone_timesUpTo_11 at hf
    refine lv_iload hx hb d_Zone_timesUpTo_11 (lv_at hl 0 rfl) ?_
    refine lv_sipush (v := 200) hx hb d_Zone_timesUpTo_13 (by decide) ?_
    refine lv_icmp_ge (tgt := 63) hx hb d_Zone_timesUpTo_16 (by decide) (fun c_1 => ?_) (fun c_1 => ?_)
    · have hf := it_t c_1 hf
      exact k_Zone_timesUpTo_63 C0 hST hK hP hE hf (lv_sub hl [2] rfl)
    · have hf := it_f c_1 hf
      refine lv_iload_n hx hb d_Zone_timesUpTo_19 rfl (lv_at hl 2 rfl) ?_
      refine lv_iload hx hb d_Zone_timesUpTo_20 (lv_at hl 1 rfl) ?_
      refine lv_icmp_ge (tgt := 63) hx hb d_Zone_timesUpTo_22 (by decide) (fun c_2 => ?_) (fun c_2 => ?_)
      · have hf := it_t c_2 hf
        exact k_Zone_timesUpTo_63 C0 hST hK hP hE hf (lv_sub hl [2] rfl)
      · have hf := it_f c_2 hf
        refine lv_iload_n hx hb d_Zone_timesUpTo_25 rfl (lv_at hl 2 rfl) ?_
        refine lv_iload hx hb d_Zone_timesUpTo_26 (lv_at hl 1 rfl) ?_
        refine lv_iadd hx hb d_Zone_timesUpTo_28 ?_
        refine lv_iconst (v := 2) hx hb d_Zone_timesUpTo_29 (by decide) ?_
        refine lv_idiv hx hb d_Zone_timesUpTo_30 (by decide) ?_
        refine lv_istore (lv' := [(6, .int ((x3 + x4) / 2)), (5, .int x5), (4, .int x4), (3, .int x3), (0, .ref h0), (1, .long x1)]) hx hb d_Zone_timesUpTo_31 hl (by decide) rfl (fun ls hl => ?_)
        refine lv_aload_n hx hb d_Zone_timesUpTo_33 rfl (lv_at hl 4 rfl) ?_
        refine va_get (D := (dC, dI)) (ci := 8) (v := .ref zTi) (C := RZone) (T := TZone) (N := 17) hx hb hts in_Zone hown hK hP 0 rfl rfl 6 (by decide) (hts (.fieldLink "ZoneFiles$Zone" 9 "ZoneFiles$Zone" "times" "[J") m_1_186) (fun _ h9 => h9) rfl d_Zone_timesUpTo_34 ?_
        refine lv_iload hx hb d_Zone_timesUpTo_37 (lv_at hl 0 rfl) ?_
        obtain ⟨c_3, hf⟩ := it_n hf
        refine va_lald hx hb hK hP 1 0 rfl rfl c_3 d_Zone_timesUpTo_39 ?_
        refine lv_lload_n hx hb d_Zone_timesUpTo_40 rfl (lv_at hl 5 rfl) ?_
        refine lc_gt (tgt := 53) hx hb d_Zone_timesUpTo_41 d_Zone_timesUpTo_42 (by decide) (fun c_4 => ?_) (fun c_4 => ?_)
        · have hf := it_t c_4 hf
          refine lv_iload hx hb d_Zone_timesUpTo_53 (lv_at hl 0 rfl) ?_
          refine lv_istore (lv' := [(4, .int ((x3 + x4) / 2)), (6, .int ((x3 + x4) / 2)), (5, .int x5), (3, .int x3), (0, .ref h0), (1, .long x1)]) hx hb d_Zone_timesUpTo_55 hl (by decide) rfl (fun ls hl => ?_)
          exact k_Zone_timesUpTo_57 C0 hST hK hP hE (fun hf => ih hf) hf (lv_sub hl [0, 2, 3, 4, 5] rfl)
        · have hf := it_f c_4 hf
          refine lv_iload hx hb d_Zone_timesUpTo_45 (lv_at hl 0 rfl) ?_
          refine lv_iconst (v := 1) hx hb d_Zone_timesUpTo_47 (by decide) ?_
          refine lv_iadd hx hb d_Zone_timesUpTo_48 ?_
          refine lv_istore_n (lv' := [(3, .int (((x3 + x4) / 2) + 1)), (6, .int ((x3 + x4) / 2)), (5, .int x5), (4, .int x4), (0, .ref h0), (1, .long x1)]) hx hb d_Zone_timesUpTo_49 rfl hl (by decide) rfl (fun ls hl => ?_)
          refine lv_goto (tgt := 57) hx hb d_Zone_timesUpTo_50 (by decide) ?_
          exact k_Zone_timesUpTo_57 C0 hST hK hP hE (fun hf => ih hf) hf (lv_sub hl [3, 2, 0, 4, 5] rfl)
set_option maxHeartbeats 400000 in
set_option maxRecDepth 100000 in
theorem k_Zone_timesUpTo_0 (C0 : Cx p s m meth c args R b_Zone_timesUpTo "ZoneFiles$Zone" 7 (some .int) 0 0) (hST : ST (fun _ => False) s s.heap) (hK : va_K (dC, dI) classes [(cAzTi, .long)] s) (hP : va_P (dC, dI) classes [(h0, .inr (8, [.int zVer, .int zTic, .int zTyc, .int zLec, .int zStc, .int zUtc, .ref zTi, .ref zTt, .ref zOf, .ref zDs, .ref zIx, .ref zSd, .ref zUt, .ref zCh, .ref zLt, .ref zLo, .ref zRu])), (zTi, .inl (cAzTi, 200, .inr (.inl zTiA)))] s.heap) (hE : ∀ (pc : Nat) (ls : Array Slot), decode b_Zone_timesUpTo pc = .ok (.ireturn, 1) → narrow .int (.int r0) = .int r0 → W p l e R s m args below meth c s.heap [] 0 0 Q (F0 m pc ls [.int r0])) {x1 : Int64} (hf : f_Zone_timesUpTo_0 nf zTic zTiA x1 = some r0) {ls : Array Slot} (hl : lv_has ls 7 [(0, .ref h0), (1, .long x1)]) : W p l e R s m args below meth c s.heap [] 0 0 Q (F0 m 0 ls []) := by
  obtain ⟨hx, hb, hr, hml, hown, hts, hlocks, hRf, hRl⟩ := id C0
  obtain ⟨tms, hZms, hTms, tmg, hZmg, hTmg, hNW⟩ := id hST
  unfold f_Zone_timesUpTo_0 at hf
  refine lv_iconst (v := 0) hx hb d_Zone_timesUpTo_0 (by decide) ?_
  refine lv_istore_n (lv' := [(3, .int 0), (0, .ref h0), (1, .long x1)]) hx hb d_Zone_timesUpTo_1 rfl hl (by decide) rfl (fun ls hl => ?_)
  refine lv_aload_n hx hb d_Zone_timesUpTo_2 rfl (lv_at hl 1 rfl) ?_
  refine va_get (D := (dC, dI)) (ci := 8) (v := .int zTic) (C := RZone) (T := TZone) (N := 17) hx hb hts in_Zone hown hK hP 0 rfl rfl 1 (by decide) (hts (.fieldLink "ZoneFiles$Zone" 75 "ZoneFiles$Zone" "timeCount" "I") m_1_166) (fun _ h9 => h9) rfl d_Zone_timesUpTo_3 ?_
  refine lv_istore (lv' := [(4, .int zTic), (3, .int 0), (0, .ref h0), (1, .long x1)]) hx hb d_Zone_timesUpTo_6 hl (by decide) rfl (fun ls hl => ?_)
  refine lv_iconst (v := 0) hx hb d_Zone_timesUpTo_8 (by decide) ?_
  refine lv_istore (lv' := [(5, .int 0), (4, .int zTic), (3, .int 0), (0, .ref h0), (1, .long x1)]) hx hb d_Zone_timesUpTo_9 hl (by decide) rfl (fun ls hl => ?_)
  exact k_Zone_timesUpTo_11 C0 hST hK hP hE nf hf (lv_sub hl [0, 1, 2, 3, 4] rfl)
end
set_option maxHeartbeats 400000 in
set_option maxRecDepth 100000 in
theorem c_Zone_timesUpTo (l : Launch) (dC : Nat → ClassId) (dI : Nat → Nat → Nat) (h0 : Nat) (zTi : Nat) (zTt : Nat) (zOf : Nat) (zDs : Nat) (zIx : Nat) (zSd : Nat) (zUt : Nat) (zCh : Nat) (zLt : Nat) (zLo : Nat) (zRu : Nat) (cAzTi : ClassId) (nf : Nat) (p0 : Int64) (zVer : Int32) (zTic : Int32) (zTyc : Int32) (zLec : Int32) (zStc : Int32) (zUtc : Int32) (zTiA : Nat → Int64) {r0 : Int32} (hf : f_Zone_timesUpTo nf p0 zTic zTiA = some r0) : Met l y_Zone_timesUpTo (wd y_Zone_timesUpTo b_Zone_timesUpTo 7 (some .int)) ({ frames := 0, cells := 0, slots := 0, locals := 0 }) (RO dC dI [(h0, .inr (8, [.int zVer, .int zTic, .int zTyc, .int zLec, .int zStc, .int zUtc, .ref zTi, .ref zTt, .ref zOf, .ref zDs, .ref zIx, .ref zSd, .ref zUt, .ref zCh, .ref zLt, .ref zLo, .ref zRu])), (zTi, .inl (cAzTi, 200, .inr (.inl zTiA)))] [(cAzTi, .long)] [.ref h0, .long p0]) (SV (some (.int r0))) 0 0 (fun _ => False) :=
  met_S (plainFor_of_name (by decide)) (Nat.le_of_ble_eq_true rfl) (fun p e R s m args below meth c ls C0 hST hK hP hl => by
    obtain ⟨hx, hb, hr, hml, hown, hts, hlocks, hRf, hRl⟩ := id C0
    unfold f_Zone_timesUpTo at hf
    exact k_Zone_timesUpTo_0 C0 hST hK hP (fun pc ls hd hn => W.zret hx hb hr hn (fun t ht hW => ⟨rfl, ht⟩) (fun q h => by cases h) hd) hf (lv_sub hl [0, 1] rfl))
-- ZoneFiles$Zone.stateAt(J)I
def f_Zone_stateAt_72 (nf : Nat) (s0 : Int32) : Option (Int32) :=
  some s0
def f_Zone_stateAt_58 (nf : Nat) (s0 : Int32) : Option (Int32) :=
  some s0
def f_Zone_stateAt_30 (nf : Nat) (s0 : Int32) : Option (Int32) :=
  some s0
def f_Zone_stateAt_0 (nf : Nat) (zTic : Int32) (zTiA : Nat → Int64) (zTtA : Nat → Int32) (ruHas : Int32) (txS : Int32) (ebKind : Int32) (ebMonth : Int32) (ebWeek : Int32) (ebDay : Int32) (ebTime : Int32) (ebClock : Int32) (eeKind : Int32) (eeMonth : Int32) (eeWeek : Int32) (eeDay : Int32) (eeTime : Int32) (eeClock : Int32) (x1 : Int64) : Option (Int32) :=
  (f_Zone_timesUpTo nf x1 zTic zTiA).bind fun r_1 =>
  if zTic ≤ r_1 then
  (f_Rule_isThere nf txS).bind fun r_3 =>
    if r_3 = 0 then
    if zTic = 0 then
      f_Zone_stateAt_72 nf 0
      else
      f_Zone_stateAt_72 nf (-3)
    else
    (f_Rule_isSummerAt nf x1 ruHas ebKind ebMonth ebWeek ebDay ebTime ebClock eeKind eeMonth eeWeek eeDay eeTime eeClock).bind fun r_6 =>
      if r_6 = 0 then
      f_Zone_stateAt_58 nf (-1)
      else
      f_Zone_stateAt_58 nf (-2)
  else
  if r_1 = 0 then
    f_Zone_stateAt_30 nf 0
    else
    if (r_1 - 1) < 0 ∨ 200 ≤ (r_1 - 1).toNatClampNeg then none else
      f_Zone_stateAt_30 nf (zTtA (r_1 - 1).toNatClampNeg)
def f_Zone_stateAt (nf : Nat) (p0 : Int64) (zTic : Int32) (zTiA : Nat → Int64) (zTtA : Nat → Int32) (ruHas : Int32) (txS : Int32) (ebKind : Int32) (ebMonth : Int32) (ebWeek : Int32) (ebDay : Int32) (ebTime : Int32) (ebClock : Int32) (eeKind : Int32) (eeMonth : Int32) (eeWeek : Int32) (eeDay : Int32) (eeTime : Int32) (eeClock : Int32) : Option (Int32) :=
  f_Zone_stateAt_0 nf zTic zTiA zTtA ruHas txS ebKind ebMonth ebWeek ebDay ebTime ebClock eeKind eeMonth eeWeek eeDay eeTime eeClock p0
section
variable {p : Program} {l : Launch} {e : Env} {R : Room} {s : State} {m : MethodId} {args : Array Value} {below : List Frame} {meth : Method} {c : Code} {Q : State → Prop} {dC : Nat → ClassId} {dI : Nat → Nat → Nat} {nf : Nat}
variable {h0 : Nat} {zTi : Nat} {zTt : Nat} {zOf : Nat} {zDs : Nat} {zIx : Nat} {zSd : Nat} {zUt : Nat} {zCh : Nat} {zLt : Nat} {zLo : Nat} {zRu : Nat} {ruT : Nat} {ruB : Nat} {ruE : Nat} {txR : Nat} {cAzTi : ClassId} {cAzTt : ClassId} {zVer : Int32} {zTic : Int32} {zTyc : Int32} {zLec : Int32} {zStc : Int32} {zUtc : Int32} {zTiA : Nat → Int64} {zTtA : Nat → Int32} {ruHas : Int32} {ruWide : Int32} {ruSo : Int32} {ruUo : Int32} {ruSp : Int32} {ruSs : Int32} {ruUp : Int32} {ruUs : Int32} {ruNev : Int32} {txS : Int32} {ebKind : Int32} {ebMonth : Int32} {ebWeek : Int32} {ebDay : Int32} {ebTime : Int32} {ebClock : Int32} {eeKind : Int32} {eeMonth : Int32} {eeWeek : Int32} {eeDay : Int32} {eeTime : Int32} {eeClock : Int32} {r0 : Int32}
set_option maxHeartbeats 400000 in
set_option maxRecDepth 100000 in
theorem k_Zone_stateAt_72 (C0 : Cx p s m meth c args R b_Zone_stateAt "ZoneFiles$Zone" 4 (some .int) 5 125) (hST : ST (fun _ => False) s s.heap) (hK : va_K (dC, dI) classes [(cAzTi, .long), (cAzTt, .int)] s) (hP : va_P (dC, dI) classes [(h0, .inr (8, [.int zVer, .int zTic, .int zTyc, .int zLec, .int zStc, .int zUtc, .ref zTi, .ref zTt, .ref zOf, .ref zDs, .ref zIx, .ref zSd, .ref zUt, .ref zCh, .ref zLt, .ref zLo, .ref zRu])), (zTi, .inl (cAzTi, 200, .inr (.inl zTiA))), (zTt, .inl (cAzTt, 200, .inl zTtA)), (zRu, .inr (5, [.ref ruT, .ref ruB, .ref ruE, .int ruHas, .int ruWide, .int ruSo, .int ruUo, .int ruSp, .int ruSs, .int ruUp, .int ruUs, .int ruNev])), (ruT, .inr (0, [.ref txR, .int txS])), (ruB, .inr (1, [.int ebKind, .int ebMonth, .int ebWeek, .int ebDay, .int ebTime, .int ebClock])), (ruE, .inr (1, [.int eeKind, .int eeMonth, .int eeWeek, .int eeDay, .int eeTime, .int eeClock]))] s.heap) (hE : ∀ (pc : Nat) (ls : Array Slot), decode b_Zone_stateAt pc = .ok (.ireturn, 1) → narrow .int (.int r0) = .int r0 → W p l e R s m args below meth c s.heap [] 0 0 Q (F0 m pc ls [.int r0])) {s0 : Int32} (hf : f_Zone_stateAt_72 nf s0 = some r0) {ls : Array Slot} (hl : lv_has ls 4 []) : W p l e R s m args below meth c s.heap [] 0 0 Q (F0 m 72 ls [.int s0]) := by
  obtain ⟨hx, hb, hr, hml, hown, hts, hlocks, hRf, hRl⟩ := id C0
  obtain ⟨tms, hZms, hTms, tmg, hZmg, hTmg, hNW⟩ := id hST
  unfold f_Zone_stateAt_72 at hf
  have e := rs hf
  subst e
  exact hE _ _ d_Zone_stateAt_72 rfl
set_option maxHeartbeats 400000 in
set_option maxRecDepth 100000 in
theorem k_Zone_stateAt_58 (C0 : Cx p s m meth c args R b_Zone_stateAt "ZoneFiles$Zone" 4 (some .int) 5 125) (hST : ST (fun _ => False) s s.heap) (hK : va_K (dC, dI) classes [(cAzTi, .long), (cAzTt, .int)] s) (hP : va_P (dC, dI) classes [(h0, .inr (8, [.int zVer, .int zTic, .int zTyc, .int zLec, .int zStc, .int zUtc, .ref zTi, .ref zTt, .ref zOf, .ref zDs, .ref zIx, .ref zSd, .ref zUt, .ref zCh, .ref zLt, .ref zLo, .ref zRu])), (zTi, .inl (cAzTi, 200, .inr (.inl zTiA))), (zTt, .inl (cAzTt, 200, .inl zTtA)), (zRu, .inr (5, [.ref ruT, .ref ruB, .ref ruE, .int ruHas, .int ruWide, .int ruSo, .int ruUo, .int ruSp, .int ruSs, .int ruUp, .int ruUs, .int ruNev])), (ruT, .inr (0, [.ref txR, .int txS])), (ruB, .inr (1, [.int ebKind, .int ebMonth, .int ebWeek, .int ebDay, .int ebTime, .int ebClock])), (ruE, .inr (1, [.int eeKind, .int eeMonth, .int eeWeek, .int eeDay, .int eeTime, .int eeClock]))] s.heap) (hE : ∀ (pc : Nat) (ls : Array Slot), decode b_Zone_stateAt pc = .ok (.ireturn, 1) → narrow .int (.int r0) = .int r0 → W p l e R s m args below meth c s.heap [] 0 0 Q (F0 m pc ls [.int r0])) {s0 : Int32} (hf : f_Zone_stateAt_58 nf s0 = some r0) {ls : Array Slot} (hl : lv_has ls 4 []) : W p l e R s m args below meth c s.heap [] 0 0 Q (F0 m 58 ls [.int s0]) := by
  obtain ⟨hx, hb, hr, hml, hown, hts, hlocks, hRf, hRl⟩ := id C0
  obtain ⟨tms, hZms, hTms, tmg, hZmg, hTmg, hNW⟩ := id hST
  unfold f_Zone_stateAt_58 at hf
  have e := rs hf
  subst e
  exact hE _ _ d_Zone_stateAt_58 rfl
set_option maxHeartbeats 400000 in
set_option maxRecDepth 100000 in
theorem k_Zone_stateAt_30 (C0 : Cx p s m meth c args R b_Zone_stateAt "ZoneFiles$Zone" 4 (some .int) 5 125) (hST : ST (fun _ => False) s s.heap) (hK : va_K (dC, dI) classes [(cAzTi, .long), (cAzTt, .int)] s) (hP : va_P (dC, dI) classes [(h0, .inr (8, [.int zVer, .int zTic, .int zTyc, .int zLec, .int zStc, .int zUtc, .ref zTi, .ref zTt, .ref zOf, .ref zDs, .ref zIx, .ref zSd, .ref zUt, .ref zCh, .ref zLt, .ref zLo, .ref zRu])), (zTi, .inl (cAzTi, 200, .inr (.inl zTiA))), (zTt, .inl (cAzTt, 200, .inl zTtA)), (zRu, .inr (5, [.ref ruT, .ref ruB, .ref ruE, .int ruHas, .int ruWide, .int ruSo, .int ruUo, .int ruSp, .int ruSs, .int ruUp, .int ruUs, .int ruNev])), (ruT, .inr (0, [.ref txR, .int txS])), (ruB, .inr (1, [.int ebKind, .int ebMonth, .int ebWeek, .int ebDay, .int ebTime, .int ebClock])), (ruE, .inr (1, [.int eeKind, .int eeMonth, .int eeWeek, .int eeDay, .int eeTime, .int eeClock]))] s.heap) (hE : ∀ (pc : Nat) (ls : Array Slot), decode b_Zone_stateAt pc = .ok (.ireturn, 1) → narrow .int (.int r0) = .int r0 → W p l e R s m args below meth c s.heap [] 0 0 Q (F0 m pc ls [.int r0])) {s0 : Int32} (hf : f_Zone_stateAt_30 nf s0 = some r0) {ls : Array Slot} (hl : lv_has ls 4 []) : W p l e R s m args below meth c s.heap [] 0 0 Q (F0 m 30 ls [.int s0]) := by
  obtain ⟨hx, hb, hr, hml, hown, hts, hlocks, hRf, hRl⟩ := id C0
  obtain ⟨tms, hZms, hTms, tmg, hZmg, hTmg, hNW⟩ := id hST
  unfold f_Zone_stateAt_30 at hf
  have e := rs hf
  subst e
  exact hE _ _ d_Zone_stateAt_30 rfl
set_option maxHeartbeats 400000 in
set_option maxRecDepth 100000 in
theorem k_Zone_stateAt_0 (C0 : Cx p s m meth c args R b_Zone_stateAt "ZoneFiles$Zone" 4 (some .int) 5 125) (hST : ST (fun _ => False) s s.heap) (hK : va_K (dC, dI) classes [(cAzTi, .long), (cAzTt, .int)] s) (hP : va_P (dC, dI) classes [(h0, .inr (8, [.int zVer, .int zTic, .int zTyc, .int zLec, .int zStc, .int zUtc, .ref zTi, .ref zTt, .ref zOf, .ref zDs, .ref zIx, .ref zSd, .ref zUt, .ref zCh, .ref zLt, .ref zLo, .ref zRu])), (zTi, .inl (cAzTi, 200, .inr (.inl zTiA))), (zTt, .inl (cAzTt, 200, .inl zTtA)), (zRu, .inr (5, [.ref ruT, .ref ruB, .ref ruE, .int ruHas, .int ruWide, .int ruSo, .int ruUo, .int ruSp, .int ruSs, .int ruUp, .int ruUs, .int ruNev])), (ruT, .inr (0, [.ref txR, .int txS])), (ruB, .inr (1, [.int ebKind, .int ebMonth, .int ebWeek, .int ebDay, .int ebTime, .int ebClock])), (ruE, .inr (1, [.int eeKind, .int eeMonth, .int eeWeek, .int eeDay, .int eeTime, .int eeClock]))] s.heap) (hE : ∀ (pc : Nat) (ls : Array Slot), decode b_Zone_stateAt pc = .ok (.ireturn, 1) → narrow .int (.int r0) = .int r0 → W p l e R s m args below meth c s.heap [] 0 0 Q (F0 m pc ls [.int r0])) {x1 : Int64} (hf : f_Zone_stateAt_0 nf zTic zTiA zTtA ruHas txS ebKind ebMonth ebWeek ebDay ebTime ebClock eeKind eeMonth eeWeek eeDay eeTime eeClock x1 = some r0) {ls : Array Slot} (hl : lv_has ls 4 [(0, .ref h0), (1, .long x1)]) : W p l e R s m args below meth c s.heap [] 0 0 Q (F0 m 0 ls []) := by
  obtain ⟨hx, hb, hr, hml, hown, hts, hlocks, hRf, hRl⟩ := id C0
  obtain ⟨tms, hZms, hTms, tmg, hZmg, hTmg, hNW⟩ := id hST
  unfold f_Zone_stateAt_0 at hf
  refine lv_aload_n hx hb d_Zone_stateAt_0 rfl (lv_at hl 0 rfl) ?_
  refine lv_lload_n hx hb d_Zone_stateAt_1 rfl (lv_at hl 1 rfl) ?_
  obtain ⟨r_1, hc, hf⟩ := ob hf
  refine cl_S (v := (some (.int r_1))) (st1 := [.int r_1]) (va_runV (As := [.long x1]) (rest := []) ⟨hx, hb, hml, hown, hts⟩ (c_Zone_timesUpTo l dC dI h0 zTi zTt zOf zDs zIx zSd zUt zCh zLt zLo zRu cAzTi nf x1 zVer zTic zTyc zLec zStc zUtc zTiA hc) (cwV 1 hts (gdV m_4_145 m_4_147 msel_39 m_1_3 m_4_148) rfl rfl rfl (by decide +kernel) ⟨Nat.le_trans (Nat.le_of_ble_eq_true rfl) hRf, Nat.le_trans (Nat.le_of_ble_eq_true rfl) hRl⟩) ((RO.pre (hP.sub (ws' := [(h0, .inr (8, [.int zVer, .int zTic, .int zTyc, .int zLec, .int zStc, .int zUtc, .ref zTi, .ref zTt, .ref zOf, .ref zDs, .ref zIx, .ref zSd, .ref zUt, .ref zCh, .ref zLt, .ref zLo, .ref zRu])), (zTi, .inl (cAzTi, 200, .inr (.inl zTiA)))]) [0, 1] rfl) (hK.sub (tys' := [(cAzTi, .long)]) [0] rfl) hST).vir (va_recv (hK.sub (tys' := [(cAzTi, .long)]) [0] rfl) (hP.sub (ws' := [(h0, .inr (8, [.int zVer, .int zTic, .int zTyc, .int zLec, .int zStc, .int zUtc, .ref zTi, .ref zTt, .ref zOf, .ref zDs, .ref zIx, .ref zSd, .ref zUt, .ref zCh, .ref zLt, .ref zLo, .ref zRu])), (zTi, .inl (cAzTi, 200, .inr (.inl zTiA)))]) [0, 1] rfl) (ci := 8) (q0 := 0) rfl rfl)) rfl rfl hl.1 rfl (lv_room (Nat.le_of_ble_eq_true rfl)) d_Zone_stateAt_2 ⟨Nat.zero_le _, Nat.zero_le _⟩) rfl ?_
  refine lv_istore_n (lv' := [(3, .int r_1), (0, .ref h0), (1, .long x1)]) hx hb d_Zone_stateAt_5 rfl hl (by decide) rfl (fun ls hl => ?_)
  refine lv_iload_n hx hb d_Zone_stateAt_6 rfl (lv_at hl 0 rfl) ?_
  refine lv_aload_n hx hb d_Zone_stateAt_7 rfl (lv_at hl 1 rfl) ?_
  refine va_get (D := (dC, dI)) (ci := 8) (v := .int zTic) (C := RZone) (T := TZone) (N := 17) hx hb hts in_Zone hown hK hP 0 rfl rfl 1 (by decide) (hts (.fieldLink "ZoneFiles$Zone" 75 "ZoneFiles$Zone" "timeCount" "I") m_1_166) (fun _ h9 => h9) rfl d_Zone_stateAt_8 ?_
  refine lv_icmp_ge (tgt := 31) hx hb d_Zone_stateAt_11 (by decide) (fun c_2 => ?_) (fun c_2 => ?_)
  · have hf := it_t c_2 hf
    refine lv_aload_n hx hb d_Zone_stateAt_31 rfl (lv_at hl 1 rfl) ?_
    refine va_get (D := (dC, dI)) (ci := 8) (v := .ref zRu) (C := RZone) (T := TZone) (N := 17) hx hb hts in_Zone hown hK hP 0 rfl rfl 16 (by decide) (hts (.fieldLink "ZoneFiles$Zone" 52 "ZoneFiles$Zone" "rule" "LZoneFiles$Rule;") m_1_226) (fun _ h9 => h9) rfl d_Zone_stateAt_32 ?_
    obtain ⟨r_3, hc, hf⟩ := ob hf
    refine cl_S (v := (some (.int r_3))) (st1 := [.int r_3]) (va_runV (As := []) (rest := []) ⟨hx, hb, hml, hown, hts⟩ (c_Rule_isThere l dC dI zRu ruT ruB ruE txR nf ruHas ruWide ruSo ruUo ruSp ruSs ruUp ruUs ruNev txS hc) (cwV 0 hts (gdV m_4_149 m_4_138 m_4_139 m_1_4 m_4_140) rfl rfl rfl (by decide +kernel) ⟨Nat.le_trans (Nat.le_of_ble_eq_true rfl) hRf, Nat.le_trans (Nat.le_of_ble_eq_true rfl) hRl⟩) ((RO.pre (hP.sub (ws' := [(zRu, .inr (5, [.ref ruT, .ref ruB, .ref ruE, .int ruHas, .int ruWide, .int ruSo, .int ruUo, .int ruSp, .int ruSs, .int ruUp, .int ruUs, .int ruNev])), (ruT, .inr (0, [.ref txR, .int txS]))]) [3, 4] rfl) (hK.sub (tys' := []) [] rfl) hST).vir (va_recv (hK.sub (tys' := []) [] rfl) (hP.sub (ws' := [(zRu, .inr (5, [.ref ruT, .ref ruB, .ref ruE, .int ruHas, .int ruWide, .int ruSo, .int ruUo, .int ruSp, .int ruSs, .int ruUp, .int ruUs, .int ruNev])), (ruT, .inr (0, [.ref txR, .int txS]))]) [3, 4] rfl) (ci := 5) (q0 := 0) rfl rfl)) rfl rfl hl.1 rfl (lv_room (Nat.le_of_ble_eq_true rfl)) d_Zone_stateAt_35 ⟨Nat.zero_le _, Nat.zero_le _⟩) rfl ?_
    refine lv_if_eq (tgt := 59) hx hb d_Zone_stateAt_38 (by decide) (fun c_4 => ?_) (fun c_4 => ?_)
    · have hf := it_t c_4 hf
      refine lv_aload_n hx hb d_Zone_stateAt_59 rfl (lv_at hl 1 rfl) ?_
      refine va_get (D := (dC, dI)) (ci := 8) (v := .int zTic) (C := RZone) (T := TZone) (N := 17) hx hb hts in_Zone hown hK hP 0 rfl rfl 1 (by decide) (hts (.fieldLink "ZoneFiles$Zone" 75 "ZoneFiles$Zone" "timeCount" "I") m_1_166) (fun _ h9 => h9) rfl d_Zone_stateAt_60 ?_
      refine lv_if_ne (tgt := 70) hx hb d_Zone_stateAt_63 (by decide) (fun c_5 => ?_) (fun c_5 => ?_)
      · have hf := it_f c_5 hf
        refine lv_bipush (v := -3) hx hb d_Zone_stateAt_70 (by decide) ?_
        exact k_Zone_stateAt_72 C0 hST hK hP hE hf (lv_sub hl [] rfl)
      · have hf := it_t c_5 hf
        refine lv_iconst (v := 0) hx hb d_Zone_stateAt_66 (by decide) ?_
        refine lv_goto (tgt := 72) hx hb d_Zone_stateAt_67 (by decide) ?_
        exact k_Zone_stateAt_72 C0 hST hK hP hE hf (lv_sub hl [] rfl)
    · have hf := it_f c_4 hf
      refine lv_aload_n hx hb d_Zone_stateAt_41 rfl (lv_at hl 1 rfl) ?_
      refine va_get (D := (dC, dI)) (ci := 8) (v := .ref zRu) (C := RZone) (T := TZone) (N := 17) hx hb hts in_Zone hown hK hP 0 rfl rfl 16 (by decide) (hts (.fieldLink "ZoneFiles$Zone" 52 "ZoneFiles$Zone" "rule" "LZoneFiles$Rule;") m_1_226) (fun _ h9 => h9) rfl d_Zone_stateAt_42 ?_
      refine lv_lload_n hx hb d_Zone_stateAt_45 rfl (lv_at hl 2 rfl) ?_
      obtain ⟨r_6, hc, hf⟩ := ob hf
      refine cl_S (v := (some (.int r_6))) (st1 := [.int r_6]) (va_runV (As := [.long x1]) (rest := []) ⟨hx, hb, hml, hown, hts⟩ (c_Rule_isSummerAt l dC dI zRu ruT ruB ruE nf x1 ruHas ruWide ruSo ruUo ruSp ruSs ruUp ruUs ruNev ebKind ebMonth ebWeek ebDay ebTime ebClock eeKind eeMonth eeWeek eeDay eeTime eeClock hc) (cwV 1 hts (gdV m_4_150 m_4_151 m_4_152 m_1_4 m_4_153) rfl rfl rfl (by decide +kernel) ⟨Nat.le_trans (Nat.le_of_ble_eq_true rfl) hRf, Nat.le_trans (Nat.le_of_ble_eq_true rfl) hRl⟩) ((RO.pre (hP.sub (ws' := [(zRu, .inr (5, [.ref ruT, .ref ruB, .ref ruE, .int ruHas, .int ruWide, .int ruSo, .int ruUo, .int ruSp, .int ruSs, .int ruUp, .int ruUs, .int ruNev])), (ruB, .inr (1, [.int ebKind, .int ebMonth, .int ebWeek, .int ebDay, .int ebTime, .int ebClock])), (ruE, .inr (1, [.int eeKind, .int eeMonth, .int eeWeek, .int eeDay, .int eeTime, .int eeClock]))]) [3, 5, 6] rfl) (hK.sub (tys' := []) [] rfl) hST).vir (va_recv (hK.sub (tys' := []) [] rfl) (hP.sub (ws' := [(zRu, .inr (5, [.ref ruT, .ref ruB, .ref ruE, .int ruHas, .int ruWide, .int ruSo, .int ruUo, .int ruSp, .int ruSs, .int ruUp, .int ruUs, .int ruNev])), (ruB, .inr (1, [.int ebKind, .int ebMonth, .int ebWeek, .int ebDay, .int ebTime, .int ebClock])), (ruE, .inr (1, [.int eeKind, .int eeMonth, .int eeWeek, .int eeDay, .int eeTime, .int eeClock]))]) [3, 5, 6] rfl) (ci := 5) (q0 := 0) rfl rfl)) rfl rfl hl.1 rfl (lv_room (Nat.le_of_ble_eq_true rfl)) d_Zone_stateAt_46 ⟨Nat.zero_le _, Nat.zero_le _⟩) rfl ?_
      refine lv_if_eq (tgt := 57) hx hb d_Zone_stateAt_49 (by decide) (fun c_7 => ?_) (fun c_7 => ?_)
      · have hf := it_t c_7 hf
        refine lv_iconst (v := -1) hx hb d_Zone_stateAt_57 (by decide) ?_
        exact k_Zone_stateAt_58 C0 hST hK hP hE hf (lv_sub hl [] rfl)
      · have hf := it_f c_7 hf
        refine lv_bipush (v := -2) hx hb d_Zone_stateAt_52 (by decide) ?_
        refine lv_goto (tgt := 58) hx hb d_Zone_stateAt_54 (by decide) ?_
        exact k_Zone_stateAt_58 C0 hST hK hP hE hf (lv_sub hl [] rfl)
  · have hf := it_f c_2 hf
    refine lv_iload_n hx hb d_Zone_stateAt_14 rfl (lv_at hl 0 rfl) ?_
    refine lv_if_ne (tgt := 22) hx hb d_Zone_stateAt_15 (by decide) (fun c_8 => ?_) (fun c_8 => ?_)
    · have hf := it_f c_8 hf
      refine lv_aload_n hx hb d_Zone_stateAt_22 rfl (lv_at hl 1 rfl) ?_
      refine va_get (D := (dC, dI)) (ci := 8) (v := .ref zTt) (C := RZone) (T := TZone) (N := 17) hx hb hts in_Zone hown hK hP 0 rfl rfl 7 (by decide) (hts (.fieldLink "ZoneFiles$Zone" 15 "ZoneFiles$Zone" "timeTypes" "[I") m_1_190) (fun _ h9 => h9) rfl d_Zone_stateAt_23 ?_
      refine lv_iload_n hx hb d_Zone_stateAt_26 rfl (lv_at hl 0 rfl) ?_
      refine lv_iconst (v := 1) hx hb d_Zone_stateAt_27 (by decide) ?_
      refine lv_isub hx hb d_Zone_stateAt_28 ?_
      obtain ⟨c_9, hf⟩ := it_n hf
      refine va_iald hx hb hK hP 2 1 rfl rfl c_9 d_Zone_stateAt_29 ?_
      exact k_Zone_stateAt_30 C0 hST hK hP hE hf (lv_sub hl [] rfl)
    · have hf := it_t c_8 hf
      refine lv_iconst (v := 0) hx hb d_Zone_stateAt_18 (by decide) ?_
      refine lv_goto (tgt := 30) hx hb d_Zone_stateAt_19 (by decide) ?_
      exact k_Zone_stateAt_30 C0 hST hK hP hE hf (lv_sub hl [] rfl)
end
set_option maxHeartbeats 400000 in
set_option maxRecDepth 100000 in
theorem c_Zone_stateAt (l : Launch) (dC : Nat → ClassId) (dI : Nat → Nat → Nat) (h0 : Nat) (zTi : Nat) (zTt : Nat) (zOf : Nat) (zDs : Nat) (zIx : Nat) (zSd : Nat) (zUt : Nat) (zCh : Nat) (zLt : Nat) (zLo : Nat) (zRu : Nat) (ruT : Nat) (ruB : Nat) (ruE : Nat) (txR : Nat) (cAzTi : ClassId) (cAzTt : ClassId) (nf : Nat) (p0 : Int64) (zVer : Int32) (zTic : Int32) (zTyc : Int32) (zLec : Int32) (zStc : Int32) (zUtc : Int32) (zTiA : Nat → Int64) (zTtA : Nat → Int32) (ruHas : Int32) (ruWide : Int32) (ruSo : Int32) (ruUo : Int32) (ruSp : Int32) (ruSs : Int32) (ruUp : Int32) (ruUs : Int32) (ruNev : Int32) (txS : Int32) (ebKind : Int32) (ebMonth : Int32) (ebWeek : Int32) (ebDay : Int32) (ebTime : Int32) (ebClock : Int32) (eeKind : Int32) (eeMonth : Int32) (eeWeek : Int32) (eeDay : Int32) (eeTime : Int32) (eeClock : Int32) {r0 : Int32} (hf : f_Zone_stateAt nf p0 zTic zTiA zTtA ruHas txS ebKind ebMonth ebWeek ebDay ebTime ebClock eeKind eeMonth eeWeek eeDay eeTime eeClock = some r0) : Met l y_Zone_stateAt (wd y_Zone_stateAt b_Zone_stateAt 4 (some .int)) ({ frames := 5, cells := 0, slots := 0, locals := 125 }) (RO dC dI [(h0, .inr (8, [.int zVer, .int zTic, .int zTyc, .int zLec, .int zStc, .int zUtc, .ref zTi, .ref zTt, .ref zOf, .ref zDs, .ref zIx, .ref zSd, .ref zUt, .ref zCh, .ref zLt, .ref zLo, .ref zRu])), (zTi, .inl (cAzTi, 200, .inr (.inl zTiA))), (zTt, .inl (cAzTt, 200, .inl zTtA)), (zRu, .inr (5, [.ref ruT, .ref ruB, .ref ruE, .int ruHas, .int ruWide, .int ruSo, .int ruUo, .int ruSp, .int ruSs, .int ruUp, .int ruUs, .int ruNev])), (ruT, .inr (0, [.ref txR, .int txS])), (ruB, .inr (1, [.int ebKind, .int ebMonth, .int ebWeek, .int ebDay, .int ebTime, .int ebClock])), (ruE, .inr (1, [.int eeKind, .int eeMonth, .int eeWeek, .int eeDay, .int eeTime, .int eeClock]))] [(cAzTi, .long), (cAzTt, .int)] [.ref h0, .long p0]) (SV (some (.int r0))) 0 0 (fun _ => False) :=
  met_S (plainFor_of_name (by decide)) (Nat.le_of_ble_eq_true rfl) (fun p e R s m args below meth c ls C0 hST hK hP hl => by
    obtain ⟨hx, hb, hr, hml, hown, hts, hlocks, hRf, hRl⟩ := id C0
    unfold f_Zone_stateAt at hf
    exact k_Zone_stateAt_0 C0 hST hK hP (fun pc ls hd hn => W.zret hx hb hr hn (fun t ht hW => ⟨rfl, ht⟩) (fun q h => by cases h) hd) hf (lv_sub hl [0, 1] rfl))
-- ZoneFiles$Zone.offsetOf(I)I
def f_Zone_offsetOf_46 (nf : Nat) (s0 : Int32) : Option (Int32) :=
  some s0
def f_Zone_offsetOf_22 (nf : Nat) (s0 : Int32) : Option (Int32) :=
  some s0
def f_Zone_offsetOf_0 (nf : Nat) (zTyc : Int32) (zOfA : Nat → Int32) (ruSo : Int32) (ruUo : Int32) (x1 : Int32) : Option (Int32) :=
  if x1 < 0 then
  if x1 = (-2 : Int32) then
    f_Zone_offsetOf_46 nf ruUo
    else
    f_Zone_offsetOf_46 nf ruSo
  else
  if zTyc ≤ x1 then
    f_Zone_offsetOf_22 nf 0
    else
    if x1 < 0 ∨ 40 ≤ x1.toNatClampNeg then none else
      f_Zone_offsetOf_22 nf (zOfA x1.toNatClampNeg)
def f_Zone_offsetOf (nf : Nat) (p0 : Int32) (zTyc : Int32) (zOfA : Nat → Int32) (ruSo : Int32) (ruUo : Int32) : Option (Int32) :=
  f_Zone_offsetOf_0 nf zTyc zOfA ruSo ruUo p0
section
variable {p : Program} {l : Launch} {e : Env} {R : Room} {s : State} {m : MethodId} {args : Array Value} {below : List Frame} {meth : Method} {c : Code} {Q : State → Prop} {dC : Nat → ClassId} {dI : Nat → Nat → Nat} {nf : Nat}
variable {h0 : Nat} {zTi : Nat} {zTt : Nat} {zOf : Nat} {zDs : Nat} {zIx : Nat} {zSd : Nat} {zUt : Nat} {zCh : Nat} {zLt : Nat} {zLo : Nat} {zRu : Nat} {ruT : Nat} {ruB : Nat} {ruE : Nat} {cAzOf : ClassId} {zVer : Int32} {zTic : Int32} {zTyc : Int32} {zLec : Int32} {zStc : Int32} {zUtc : Int32} {zOfA : Nat → Int32} {ruHas : Int32} {ruWide : Int32} {ruSo : Int32} {ruUo : Int32} {ruSp : Int32} {ruSs : Int32} {ruUp : Int32} {ruUs : Int32} {ruNev : Int32} {r0 : Int32}
set_option maxHeartbeats 400000 in
set_option maxRecDepth 100000 in
theorem k_Zone_offsetOf_46 (C0 : Cx p s m meth c args R b_Zone_offsetOf "ZoneFiles$Zone" 2 (some .int) 0 0) (hST : ST (fun _ => False) s s.heap) (hK : va_K (dC, dI) classes [(cAzOf, .int)] s) (hP : va_P (dC, dI) classes [(h0, .inr (8, [.int zVer, .int zTic, .int zTyc, .int zLec, .int zStc, .int zUtc, .ref zTi, .ref zTt, .ref zOf, .ref zDs, .ref zIx, .ref zSd, .ref zUt, .ref zCh, .ref zLt, .ref zLo, .ref zRu])), (zOf, .inl (cAzOf, 40, .inl zOfA)), (zRu, .inr (5, [.ref ruT, .ref ruB, .ref ruE, .int ruHas, .int ruWide, .int ruSo, .int ruUo, .int ruSp, .int ruSs, .int ruUp, .int ruUs, .int ruNev]))] s.heap) (hE : ∀ (pc : Nat) (ls : Array Slot), decode b_Zone_offsetOf pc = .ok (.ireturn, 1) → narrow .int (.int r0) = .int r0 → W p l e R s m args below meth c s.heap [] 0 0 Q (F0 m pc ls [.int r0])) {s0 : Int32} (hf : f_Zone_offsetOf_46 nf s0 = some r0) {ls : Array Slot} (hl : lv_has ls 2 []) : W p l e R s m args below meth c s.heap [] 0 0 Q (F0 m 46 ls [.int s0]) := by
  obtain ⟨hx, hb, hr, hml, hown, hts, hlocks, hRf, hRl⟩ := id C0
  obtain ⟨tms, hZms, hTms, tmg, hZmg, hTmg, hNW⟩ := id hST
  unfold f_Zone_offsetOf_46 at hf
  have e := rs hf
  subst e
  exact hE _ _ d_Zone_offsetOf_46 rfl
set_option maxHeartbeats 400000 in
set_option maxRecDepth 100000 in
theorem k_Zone_offsetOf_22 (C0 : Cx p s m meth c args R b_Zone_offsetOf "ZoneFiles$Zone" 2 (some .int) 0 0) (hST : ST (fun _ => False) s s.heap) (hK : va_K (dC, dI) classes [(cAzOf, .int)] s) (hP : va_P (dC, dI) classes [(h0, .inr (8, [.int zVer, .int zTic, .int zTyc, .int zLec, .int zStc, .int zUtc, .ref zTi, .ref zTt, .ref zOf, .ref zDs, .ref zIx, .ref zSd, .ref zUt, .ref zCh, .ref zLt, .ref zLo, .ref zRu])), (zOf, .inl (cAzOf, 40, .inl zOfA)), (zRu, .inr (5, [.ref ruT, .ref ruB, .ref ruE, .int ruHas, .int ruWide, .int ruSo, .int ruUo, .int ruSp, .int ruSs, .int ruUp, .int ruUs, .int ruNev]))] s.heap) (hE : ∀ (pc : Nat) (ls : Array Slot), decode b_Zone_offsetOf pc = .ok (.ireturn, 1) → narrow .int (.int r0) = .int r0 → W p l e R s m args below meth c s.heap [] 0 0 Q (F0 m pc ls [.int r0])) {s0 : Int32} (hf : f_Zone_offsetOf_22 nf s0 = some r0) {ls : Array Slot} (hl : lv_has ls 2 []) : W p l e R s m args below meth c s.heap [] 0 0 Q (F0 m 22 ls [.int s0]) := by
  obtain ⟨hx, hb, hr, hml, hown, hts, hlocks, hRf, hRl⟩ := id C0
  obtain ⟨tms, hZms, hTms, tmg, hZmg, hTmg, hNW⟩ := id hST
  unfold f_Zone_offsetOf_22 at hf
  have e := rs hf
  subst e
  exact hE _ _ d_Zone_offsetOf_22 rfl
set_option maxHeartbeats 400000 in
set_option maxRecDepth 100000 in
theorem k_Zone_offsetOf_0 (C0 : Cx p s m meth c args R b_Zone_offsetOf "ZoneFiles$Zone" 2 (some .int) 0 0) (hST : ST (fun _ => False) s s.heap) (hK : va_K (dC, dI) classes [(cAzOf, .int)] s) (hP : va_P (dC, dI) classes [(h0, .inr (8, [.int zVer, .int zTic, .int zTyc, .int zLec, .int zStc, .int zUtc, .ref zTi, .ref zTt, .ref zOf, .ref zDs, .ref zIx, .ref zSd, .ref zUt, .ref zCh, .ref zLt, .ref zLo, .ref zRu])), (zOf, .inl (cAzOf, 40, .inl zOfA)), (zRu, .inr (5, [.ref ruT, .ref ruB, .ref ruE, .int ruHas, .int ruWide, .int ruSo, .int ruUo, .int ruSp, .int ruSs, .int ruUp, .int ruUs, .int ruNev]))] s.heap) (hE : ∀ (pc : Nat) (ls : Array Slot), decode b_Zone_offsetOf pc = .ok (.ireturn, 1) → narrow .int (.int r0) = .int r0 → W p l e R s m args below meth c s.heap [] 0 0 Q (F0 m pc ls [.int r0])) {x1 : Int32} (hf : f_Zone_offsetOf_0 nf zTyc zOfA ruSo ruUo x1 = some r0) {ls : Array Slot} (hl : lv_has ls 2 [(0, .ref h0), (1, .int x1)]) : W p l e R s m args below meth c s.heap [] 0 0 Q (F0 m 0 ls []) := by
  obtain ⟨hx, hb, hr, hml, hown, hts, hlocks, hRf, hRl⟩ := id C0
  obtain ⟨tms, hZms, hTms, tmg, hZmg, hTmg, hNW⟩ := id hST
  unfold f_Zone_offsetOf_0 at hf
  refine lv_iload_n hx hb d_Zone_offsetOf_0 rfl (lv_at hl 1 rfl) ?_
  refine lv_if_lt (tgt := 23) hx hb d_Zone_offsetOf_1 (by decide) (fun c_1 => ?_) (fun c_1 => ?_)
  · have hf := it_t c_1 hf
    refine lv_iload_n hx hb d_Zone_offsetOf_23 rfl (lv_at hl 1 rfl) ?_
    refine lv_bipush (v := -2) hx hb d_Zone_offsetOf_24 (by decide) ?_
    refine lv_icmp_ne (tgt := 39) hx hb d_Zone_offsetOf_26 (by decide) (fun c_2 => ?_) (fun c_2 => ?_)
    · have hf := it_f c_2 hf
      refine lv_aload_n hx hb d_Zone_offsetOf_39 rfl (lv_at hl 0 rfl) ?_
      refine va_get (D := (dC, dI)) (ci := 8) (v := .ref zRu) (C := RZone) (T := TZone) (N := 17) hx hb hts in_Zone hown hK hP 0 rfl rfl 16 (by decide) (hts (.fieldLink "ZoneFiles$Zone" 52 "ZoneFiles$Zone" "rule" "LZoneFiles$Rule;") m_1_226) (fun _ h9 => h9) rfl d_Zone_offsetOf_40 ?_
      refine va_get (D := (dC, dI)) (ci := 5) (v := .int ruSo) (C := RRule) (T := TRule) (N := 12) hx hb hts in_Rule hown hK hP 2 rfl rfl 5 (by decide) (hts (.fieldLink "ZoneFiles$Zone" 118 "ZoneFiles$Rule" "standardOffset" "I") m_1_121) (fun _ h9 => h9) rfl d_Zone_offsetOf_43 ?_
      exact k_Zone_offsetOf_46 C0 hST hK hP hE hf (lv_sub hl [] rfl)
    · have hf := it_t c_2 hf
      refine lv_aload_n hx hb d_Zone_offsetOf_29 rfl (lv_at hl 0 rfl) ?_
      refine va_get (D := (dC, dI)) (ci := 8) (v := .ref zRu) (C := RZone) (T := TZone) (N := 17) hx hb hts in_Zone hown hK hP 0 rfl rfl 16 (by decide) (hts (.fieldLink "ZoneFiles$Zone" 52 "ZoneFiles$Zone" "rule" "LZoneFiles$Rule;") m_1_226) (fun _ h9 => h9) rfl d_Zone_offsetOf_30 ?_
      refine va_get (D := (dC, dI)) (ci := 5) (v := .int ruUo) (C := RRule) (T := TRule) (N := 12) hx hb hts in_Rule hown hK hP 2 rfl rfl 6 (by decide) (hts (.fieldLink "ZoneFiles$Zone" 115 "ZoneFiles$Rule" "summerOffset" "I") m_1_124) (fun _ h9 => h9) rfl d_Zone_offsetOf_33 ?_
      refine lv_goto (tgt := 46) hx hb d_Zone_offsetOf_36 (by decide) ?_
      exact k_Zone_offsetOf_46 C0 hST hK hP hE hf (lv_sub hl [] rfl)
  · have hf := it_f c_1 hf
    refine lv_iload_n hx hb d_Zone_offsetOf_4 rfl (lv_at hl 1 rfl) ?_
    refine lv_aload_n hx hb d_Zone_offsetOf_5 rfl (lv_at hl 0 rfl) ?_
    refine va_get (D := (dC, dI)) (ci := 8) (v := .int zTyc) (C := RZone) (T := TZone) (N := 17) hx hb hts in_Zone hown hK hP 0 rfl rfl 2 (by decide) (hts (.fieldLink "ZoneFiles$Zone" 78 "ZoneFiles$Zone" "typeCount" "I") m_1_170) (fun _ h9 => h9) rfl d_Zone_offsetOf_6 ?_
    refine lv_icmp_ge (tgt := 21) hx hb d_Zone_offsetOf_9 (by decide) (fun c_3 => ?_) (fun c_3 => ?_)
    · have hf := it_t c_3 hf
      refine lv_iconst (v := 0) hx hb d_Zone_offsetOf_21 (by decide) ?_
      exact k_Zone_offsetOf_22 C0 hST hK hP hE hf (lv_sub hl [] rfl)
    · have hf := it_f c_3 hf
      refine lv_aload_n hx hb d_Zone_offsetOf_12 rfl (lv_at hl 0 rfl) ?_
      refine va_get (D := (dC, dI)) (ci := 8) (v := .ref zOf) (C := RZone) (T := TZone) (N := 17) hx hb hts in_Zone hown hK hP 0 rfl rfl 8 (by decide) (hts (.fieldLink "ZoneFiles$Zone" 19 "ZoneFiles$Zone" "offsets" "[I") m_1_194) (fun _ h9 => h9) rfl d_Zone_offsetOf_13 ?_
      refine lv_iload_n hx hb d_Zone_offsetOf_16 rfl (lv_at hl 1 rfl) ?_
      obtain ⟨c_4, hf⟩ := it_n hf
      refine va_iald hx hb hK hP 1 0 rfl rfl c_4 d_Zone_offsetOf_17 ?_
      refine lv_goto (tgt := 22) hx hb d_Zone_offsetOf_18 (by decide) ?_
      exact k_Zone_offsetOf_22 C0 hST hK hP hE hf (lv_sub hl [] rfl)
end
set_option maxHeartbeats 400000 in
set_option maxRecDepth 100000 in
theorem c_Zone_offsetOf (l : Launch) (dC : Nat → ClassId) (dI : Nat → Nat → Nat) (h0 : Nat) (zTi : Nat) (zTt : Nat) (zOf : Nat) (zDs : Nat) (zIx : Nat) (zSd : Nat) (zUt : Nat) (zCh : Nat) (zLt : Nat) (zLo : Nat) (zRu : Nat) (ruT : Nat) (ruB : Nat) (ruE : Nat) (cAzOf : ClassId) (nf : Nat) (p0 : Int32) (zVer : Int32) (zTic : Int32) (zTyc : Int32) (zLec : Int32) (zStc : Int32) (zUtc : Int32) (zOfA : Nat → Int32) (ruHas : Int32) (ruWide : Int32) (ruSo : Int32) (ruUo : Int32) (ruSp : Int32) (ruSs : Int32) (ruUp : Int32) (ruUs : Int32) (ruNev : Int32) {r0 : Int32} (hf : f_Zone_offsetOf nf p0 zTyc zOfA ruSo ruUo = some r0) : Met l y_Zone_offsetOf (wd y_Zone_offsetOf b_Zone_offsetOf 2 (some .int)) ({ frames := 0, cells := 0, slots := 0, locals := 0 }) (RO dC dI [(h0, .inr (8, [.int zVer, .int zTic, .int zTyc, .int zLec, .int zStc, .int zUtc, .ref zTi, .ref zTt, .ref zOf, .ref zDs, .ref zIx, .ref zSd, .ref zUt, .ref zCh, .ref zLt, .ref zLo, .ref zRu])), (zOf, .inl (cAzOf, 40, .inl zOfA)), (zRu, .inr (5, [.ref ruT, .ref ruB, .ref ruE, .int ruHas, .int ruWide, .int ruSo, .int ruUo, .int ruSp, .int ruSs, .int ruUp, .int ruUs, .int ruNev]))] [(cAzOf, .int)] [.ref h0, .int p0]) (SV (some (.int r0))) 0 0 (fun _ => False) :=
  met_S (plainFor_of_name (by decide)) (Nat.le_of_ble_eq_true rfl) (fun p e R s m args below meth c ls C0 hST hK hP hl => by
    obtain ⟨hx, hb, hr, hml, hown, hts, hlocks, hRf, hRl⟩ := id C0
    unfold f_Zone_offsetOf at hf
    exact k_Zone_offsetOf_0 C0 hST hK hP (fun pc ls hd hn => W.zret hx hb hr hn (fun t ht hW => ⟨rfl, ht⟩) (fun q h => by cases h) hd) hf (lv_sub hl [0, 1] rfl))
-- ZoneFiles$Zone.dstOf(I)I
def f_Zone_dstOf_34 (nf : Nat) (s0 : Int32) : Option (Int32) :=
  some s0
def f_Zone_dstOf_22 (nf : Nat) (s0 : Int32) : Option (Int32) :=
  some s0
def f_Zone_dstOf_0 (nf : Nat) (zTyc : Int32) (zDsA : Nat → Int32) (x1 : Int32) : Option (Int32) :=
  if x1 < 0 then
  if x1 = (-2 : Int32) then
    f_Zone_dstOf_34 nf 1
    else
    f_Zone_dstOf_34 nf 0
  else
  if zTyc ≤ x1 then
    f_Zone_dstOf_22 nf 0
    else
    if x1 < 0 ∨ 40 ≤ x1.toNatClampNeg then none else
      f_Zone_dstOf_22 nf (zDsA x1.toNatClampNeg)
def f_Zone_dstOf (nf : Nat) (p0 : Int32) (zTyc : Int32) (zDsA : Nat → Int32) : Option (Int32) :=
  f_Zone_dstOf_0 nf zTyc zDsA p0
section
variable {p : Program} {l : Launch} {e : Env} {R : Room} {s : State} {m : MethodId} {args : Array Value} {below : List Frame} {meth : Method} {c : Code} {Q : State → Prop} {dC : Nat → ClassId} {dI : Nat → Nat → Nat} {nf : Nat}
variable {h0 : Nat} {zTi : Nat} {zTt : Nat} {zOf : Nat} {zDs : Nat} {zIx : Nat} {zSd : Nat} {zUt : Nat} {zCh : Nat} {zLt : Nat} {zLo : Nat} {zRu : Nat} {cAzDs : ClassId} {zVer : Int32} {zTic : Int32} {zTyc : Int32} {zLec : Int32} {zStc : Int32} {zUtc : Int32} {zDsA : Nat → Int32} {r0 : Int32}
set_option maxHeartbeats 400000 in
set_option maxRecDepth 100000 in
theorem k_Zone_dstOf_34 (C0 : Cx p s m meth c args R b_Zone_dstOf "ZoneFiles$Zone" 2 (some .int) 0 0) (hST : ST (fun _ => False) s s.heap) (hK : va_K (dC, dI) classes [(cAzDs, .int)] s) (hP : va_P (dC, dI) classes [(h0, .inr (8, [.int zVer, .int zTic, .int zTyc, .int zLec, .int zStc, .int zUtc, .ref zTi, .ref zTt, .ref zOf, .ref zDs, .ref zIx, .ref zSd, .ref zUt, .ref zCh, .ref zLt, .ref zLo, .ref zRu])), (zDs, .inl (cAzDs, 40, .inl zDsA))] s.heap) (hE : ∀ (pc : Nat) (ls : Array Slot), decode b_Zone_dstOf pc = .ok (.ireturn, 1) → narrow .int (.int r0) = .int r0 → W p l e R s m args below meth c s.heap [] 0 0 Q (F0 m pc ls [.int r0])) {s0 : Int32} (hf : f_Zone_dstOf_34 nf s0 = some r0) {ls : Array Slot} (hl : lv_has ls 2 []) : W p l e R s m args below meth c s.heap [] 0 0 Q (F0 m 34 ls [.int s0]) := by
  obtain ⟨hx, hb, hr, hml, hown, hts, hlocks, hRf, hRl⟩ := id C0
  obtain ⟨tms, hZms, hTms, tmg, hZmg, hTmg, hNW⟩ := id hST
  unfold f_Zone_dstOf_34 at hf
  have e := rs hf
  subst e
  exact hE _ _ d_Zone_dstOf_34 rfl
set_option maxHeartbeats 400000 in
set_option maxRecDepth 100000 in
theorem k_Zone_dstOf_22 (C0 : Cx p s m meth c args R b_Zone_dstOf "ZoneFiles$Zone" 2 (some .int) 0 0) (hST : ST (fun _ => False) s s.heap) (hK : va_K (dC, dI) classes [(cAzDs, .int)] s) (hP : va_P (dC, dI) classes [(h0, .inr (8, [.int zVer, .int zTic, .int zTyc, .int zLec, .int zStc, .int zUtc, .ref zTi, .ref zTt, .ref zOf, .ref zDs, .ref zIx, .ref zSd, .ref zUt, .ref zCh, .ref zLt, .ref zLo, .ref zRu])), (zDs, .inl (cAzDs, 40, .inl zDsA))] s.heap) (hE : ∀ (pc : Nat) (ls : Array Slot), decode b_Zone_dstOf pc = .ok (.ireturn, 1) → narrow .int (.int r0) = .int r0 → W p l e R s m args below meth c s.heap [] 0 0 Q (F0 m pc ls [.int r0])) {s0 : Int32} (hf : f_Zone_dstOf_22 nf s0 = some r0) {ls : Array Slot} (hl : lv_has ls 2 []) : W p l e R s m args below meth c s.heap [] 0 0 Q (F0 m 22 ls [.int s0]) := by
  obtain ⟨hx, hb, hr, hml, hown, hts, hlocks, hRf, hRl⟩ := id C0
  obtain ⟨tms, hZms, hTms, tmg, hZmg, hTmg, hNW⟩ := id hST
  unfold f_Zone_dstOf_22 at hf
  have e := rs hf
  subst e
  exact hE _ _ d_Zone_dstOf_22 rfl
set_option maxHeartbeats 400000 in
set_option maxRecDepth 100000 in
theorem k_Zone_dstOf_0 (C0 : Cx p s m meth c args R b_Zone_dstOf "ZoneFiles$Zone" 2 (some .int) 0 0) (hST : ST (fun _ => False) s s.heap) (hK : va_K (dC, dI) classes [(cAzDs, .int)] s) (hP : va_P (dC, dI) classes [(h0, .inr (8, [.int zVer, .int zTic, .int zTyc, .int zLec, .int zStc, .int zUtc, .ref zTi, .ref zTt, .ref zOf, .ref zDs, .ref zIx, .ref zSd, .ref zUt, .ref zCh, .ref zLt, .ref zLo, .ref zRu])), (zDs, .inl (cAzDs, 40, .inl zDsA))] s.heap) (hE : ∀ (pc : Nat) (ls : Array Slot), decode b_Zone_dstOf pc = .ok (.ireturn, 1) → narrow .int (.int r0) = .int r0 → W p l e R s m args below meth c s.heap [] 0 0 Q (F0 m pc ls [.int r0])) {x1 : Int32} (hf : f_Zone_dstOf_0 nf zTyc zDsA x1 = some r0) {ls : Array Slot} (hl : lv_has ls 2 [(0, .ref h0), (1, .int x1)]) : W p l e R s m args below meth c s.heap [] 0 0 Q (F0 m 0 ls []) := by
  obtain ⟨hx, hb, hr, hml, hown, hts, hlocks, hRf, hRl⟩ := id C0
  obtain ⟨tms, hZms, hTms, tmg, hZmg, hTmg, hNW⟩ := id hST
  unfold f_Zone_dstOf_0 at hf
  refine lv_iload_n hx hb d_Zone_dstOf_0 rfl (lv_at hl 1 rfl) ?_
  refine lv_if_lt (tgt := 23) hx hb d_Zone_dstOf_1 (by decide) (fun c_1 => ?_) (fun c_1 => ?_)
  · have hf := it_t c_1 hf
    refine lv_iload_n hx hb d_Zone_dstOf_23 rfl (lv_at hl 1 rfl) ?_
    refine lv_bipush (v := -2) hx hb d_Zone_dstOf_24 (by decide) ?_
    refine lv_icmp_ne (tgt := 33) hx hb d_Zone_dstOf_26 (by decide) (fun c_2 => ?_) (fun c_2 => ?_)
    · have hf := it_f c_2 hf
      refine lv_iconst (v := 0) hx hb d_Zone_dstOf_33 (by decide) ?_
      exact k_Zone_dstOf_34 C0 hST hK hP hE hf (lv_sub hl [] rfl)
    · have hf := it_t c_2 hf
      refine lv_iconst (v := 1) hx hb d_Zone_dstOf_29 (by decide) ?_
      refine lv_goto (tgt := 34) hx hb d_Zone_dstOf_30 (by decide) ?_
      exact k_Zone_dstOf_34 C0 hST hK hP hE hf (lv_sub hl [] rfl)
  · have hf := it_f c_1 hf
    refine lv_iload_n hx hb d_Zone_dstOf_4 rfl (lv_at hl 1 rfl) ?_
    refine lv_aload_n hx hb d_Zone_dstOf_5 rfl (lv_at hl 0 rfl) ?_
    refine va_get (D := (dC, dI)) (ci := 8) (v := .int zTyc) (C := RZone) (T := TZone) (N := 17) hx hb hts in_Zone hown hK hP 0 rfl rfl 2 (by decide) (hts (.fieldLink "ZoneFiles$Zone" 78 "ZoneFiles$Zone" "typeCount" "I") m_1_170) (fun _ h9 => h9) rfl d_Zone_dstOf_6 ?_
    refine lv_icmp_ge (tgt := 21) hx hb d_Zone_dstOf_9 (by decide) (fun c_3 => ?_) (fun c_3 => ?_)
    · have hf := it_t c_3 hf
      refine lv_iconst (v := 0) hx hb d_Zone_dstOf_21 (by decide) ?_
      exact k_Zone_dstOf_22 C0 hST hK hP hE hf (lv_sub hl [] rfl)
    · have hf := it_f c_3 hf
      refine lv_aload_n hx hb d_Zone_dstOf_12 rfl (lv_at hl 0 rfl) ?_
      refine va_get (D := (dC, dI)) (ci := 8) (v := .ref zDs) (C := RZone) (T := TZone) (N := 17) hx hb hts in_Zone hown hK hP 0 rfl rfl 9 (by decide) (hts (.fieldLink "ZoneFiles$Zone" 22 "ZoneFiles$Zone" "dsts" "[I") m_1_198) (fun _ h9 => h9) rfl d_Zone_dstOf_13 ?_
      refine lv_iload_n hx hb d_Zone_dstOf_16 rfl (lv_at hl 1 rfl) ?_
      obtain ⟨c_4, hf⟩ := it_n hf
      refine va_iald hx hb hK hP 1 0 rfl rfl c_4 d_Zone_dstOf_17 ?_
      refine lv_goto (tgt := 22) hx hb d_Zone_dstOf_18 (by decide) ?_
      exact k_Zone_dstOf_22 C0 hST hK hP hE hf (lv_sub hl [] rfl)
end
set_option maxHeartbeats 400000 in
set_option maxRecDepth 100000 in
theorem c_Zone_dstOf (l : Launch) (dC : Nat → ClassId) (dI : Nat → Nat → Nat) (h0 : Nat) (zTi : Nat) (zTt : Nat) (zOf : Nat) (zDs : Nat) (zIx : Nat) (zSd : Nat) (zUt : Nat) (zCh : Nat) (zLt : Nat) (zLo : Nat) (zRu : Nat) (cAzDs : ClassId) (nf : Nat) (p0 : Int32) (zVer : Int32) (zTic : Int32) (zTyc : Int32) (zLec : Int32) (zStc : Int32) (zUtc : Int32) (zDsA : Nat → Int32) {r0 : Int32} (hf : f_Zone_dstOf nf p0 zTyc zDsA = some r0) : Met l y_Zone_dstOf (wd y_Zone_dstOf b_Zone_dstOf 2 (some .int)) ({ frames := 0, cells := 0, slots := 0, locals := 0 }) (RO dC dI [(h0, .inr (8, [.int zVer, .int zTic, .int zTyc, .int zLec, .int zStc, .int zUtc, .ref zTi, .ref zTt, .ref zOf, .ref zDs, .ref zIx, .ref zSd, .ref zUt, .ref zCh, .ref zLt, .ref zLo, .ref zRu])), (zDs, .inl (cAzDs, 40, .inl zDsA))] [(cAzDs, .int)] [.ref h0, .int p0]) (SV (some (.int r0))) 0 0 (fun _ => False) :=
  met_S (plainFor_of_name (by decide)) (Nat.le_of_ble_eq_true rfl) (fun p e R s m args below meth c ls C0 hST hK hP hl => by
    obtain ⟨hx, hb, hr, hml, hown, hts, hlocks, hRf, hRl⟩ := id C0
    unfold f_Zone_dstOf at hf
    exact k_Zone_dstOf_0 C0 hST hK hP (fun pc ls hd hn => W.zret hx hb hr hn (fun t ht hW => ⟨rfl, ht⟩) (fun q h => by cases h) hd) hf (lv_sub hl [0, 1] rfl))
-- ZoneFiles$Zone.nameSize(I)I
def f_Zone_nameSize_14 (nf : Nat) : Option (Int32) :=
  some 0
def f_Zone_nameSize_84 (nf : Nat) (x2 : Int32) : Option (Int32) :=
  some x2
def f_Zone_nameSize_53 (nf : Nat) (chS : Int32) (chN : Nat) (chA : Nat → Int32) : Nat → Int32 → Int32 → Option (Int32)
  | 0, _, _ => none
  | n + 1, x3, x2 =>
    if chS ≤ x3 then
    f_Zone_nameSize_84 nf x2
    else
    (f_By_get nf x3 chS chN chA).bind fun r_6 =>
      if r_6 = 0 then
      f_Zone_nameSize_84 nf x2
      else
      f_Zone_nameSize_53 nf chS chN chA n (x3 + 1) (x2 + 1)
def f_Zone_nameSize_43 (nf : Nat) (s0 : Int32) : Option (Int32) :=
  some s0
def f_Zone_nameSize_0 (nf : Nat) (zTyc : Int32) (zIxA : Nat → Int32) (chS : Int32) (chN : Nat) (chA : Nat → Int32) (ruSs : Int32) (ruUs : Int32) (x1 : Int32) : Option (Int32) :=
  if x1 = (-3 : Int32) then
  f_Zone_nameSize_14 nf
  else
  if x1 < zTyc then
    if 0 ≤ x1 then
      if x1 < 0 ∨ 40 ≤ x1.toNatClampNeg then none else
        f_Zone_nameSize_53 nf chS chN chA nf (zIxA x1.toNatClampNeg) 0
      else
      if x1 = (-2 : Int32) then
        f_Zone_nameSize_43 nf ruUs
        else
        f_Zone_nameSize_43 nf ruSs
    else
    f_Zone_nameSize_14 nf
def f_Zone_nameSize (nf : Nat) (p0 : Int32) (zTyc : Int32) (zIxA : Nat → Int32) (chS : Int32) (chN : Nat) (chA : Nat → Int32) (ruSs : Int32) (ruUs : Int32) : Option (Int32) :=
  f_Zone_nameSize_0 nf zTyc zIxA chS chN chA ruSs ruUs p0
section
variable {p : Program} {l : Launch} {e : Env} {R : Room} {s : State} {m : MethodId} {args : Array Value} {below : List Frame} {meth : Method} {c : Code} {Q : State → Prop} {dC : Nat → ClassId} {dI : Nat → Nat → Nat} {nf : Nat}
variable {h0 : Nat} {zTi : Nat} {zTt : Nat} {zOf : Nat} {zDs : Nat} {zIx : Nat} {zSd : Nat} {zUt : Nat} {zCh : Nat} {zLt : Nat} {zLo : Nat} {zRu : Nat} {chR : Nat} {ruT : Nat} {ruB : Nat} {ruE : Nat} {cAzIx : ClassId} {cAchR : ClassId} {zVer : Int32} {zTic : Int32} {zTyc : Int32} {zLec : Int32} {zStc : Int32} {zUtc : Int32} {zIxA : Nat → Int32} {chS : Int32} {chN : Nat} {chA : Nat → Int32} {ruHas : Int32} {ruWide : Int32} {ruSo : Int32} {ruUo : Int32} {ruSp : Int32} {ruSs : Int32} {ruUp : Int32} {ruUs : Int32} {ruNev : Int32} {r0 : Int32}
set_option maxHeartbeats 400000 in
set_option maxRecDepth 100000 in
theorem k_Zone_nameSize_14 (C0 : Cx p s m meth c args R b_Zone_nameSize "ZoneFiles$Zone" 4 (some .int) 1 21) (hST : ST (fun _ => False) s s.heap) (hK : va_K (dC, dI) classes [(cAzIx, .int), (cAchR, .byte)] s) (hP : va_P (dC, dI) classes [(h0, .inr (8, [.int zVer, .int zTic, .int zTyc, .int zLec, .int zStc, .int zUtc, .ref zTi, .ref zTt, .ref zOf, .ref zDs, .ref zIx, .ref zSd, .ref zUt, .ref zCh, .ref zLt, .ref zLo, .ref zRu])), (zIx, .inl (cAzIx, 40, .inl zIxA)), (zCh, .inr (0, [.ref chR, .int chS])), (chR, .inl (cAchR, chN, .inl chA)), (zRu, .inr (5, [.ref ruT, .ref ruB, .ref ruE, .int ruHas, .int ruWide, .int ruSo, .int ruUo, .int ruSp, .int ruSs, .int ruUp, .int ruUs, .int ruNev]))] s.heap) (hE : ∀ (pc : Nat) (ls : Array Slot), decode b_Zone_nameSize pc = .ok (.ireturn, 1) → narrow .int (.int r0) = .int r0 → W p l e R s m args below meth c s.heap [] 0 0 Q (F0 m pc ls [.int r0])) (hf : f_Zone_nameSize_14 nf = some r0) {ls : Array Slot} (hl : lv_has ls 4 []) : W p l e R s m args below meth c s.heap [] 0 0 Q (F0 m 14 ls []) := by
  obtain ⟨hx, hb, hr, hml, hown, hts, hlocks, hRf, hRl⟩ := id C0
  obtain ⟨tms, hZms, hTms, tmg, hZmg, hTmg, hNW⟩ := id hST
  unfold f_Zone_nameSize_14 at hf
  refine lv_iconst (v := 0) hx hb d_Zone_nameSize_14 (by decide) ?_
  have e := rs hf
  subst e
  exact hE _ _ d_Zone_nameSize_15 rfl
set_option maxHeartbeats 400000 in
set_option maxRecDepth 100000 in
theorem k_Zone_nameSize_84 (C0 : Cx p s m meth c args R b_Zone_nameSize "ZoneFiles$Zone" 4 (some .int) 1 21) (hST : ST (fun _ => False) s s.heap) (hK : va_K (dC, dI) classes [(cAzIx, .int), (cAchR, .byte)] s) (hP : va_P (dC, dI) classes [(h0, .inr (8, [.int zVer, .int zTic, .int zTyc, .int zLec, .int zStc, .int zUtc, .ref zTi, .ref zTt, .ref zOf, .ref zDs, .ref zIx, .ref zSd, .ref zUt, .ref zCh, .ref zLt, .ref zLo, .ref zRu])), (zIx, .inl (cAzIx, 40, .inl zIxA)), (zCh, .inr (0, [.ref chR, .int chS])), (chR, .inl (cAchR, chN, .inl chA)), (zRu, .inr (5, [.ref ruT, .ref ruB, .ref ruE, .int ruHas, .int ruWide, .int ruSo, .int ruUo, .int ruSp, .int ruSs, .int ruUp, .int ruUs, .int ruNev]))] s.heap) (hE : ∀ (pc : Nat) (ls : Array Slot), decode b_Zone_nameSize pc = .ok (.ireturn, 1) → narrow .int (.int r0) = .int r0 → W p l e R s m args below meth c s.heap [] 0 0 Q (F0 m pc ls [.int r0])) {x2 : Int32} (hf : f_Zone_nameSize_84 nf x2 = some r0) {ls : Array Slot} (hl : lv_has ls 4 [(2, .int x2)]) : W p l e R s m args below meth c s.heap [] 0 0 Q (F0 m 84 ls []) := by
  obtain ⟨hx, hb, hr, hml, hown, hts, hlocks, hRf, hRl⟩ := id C0
  obtain ⟨tms, hZms, hTms, tmg, hZmg, hTmg, hNW⟩ := id hST
  unfold f_Zone_nameSize_84 at hf
  refine lv_iload_n hx hb d_Zone_nameSize_84 rfl (lv_at hl 0 rfl) ?_
  have e := rs hf
  subst e
  exact hE _ _ d_Zone_nameSize_85 rfl
set_option maxHeartbeats 400000 in
set_option maxRecDepth 100000 in
theorem k_Zone_nameSize_53 (C0 : Cx p s m meth c args R b_Zone_nameSize "ZoneFiles$Zone" 4 (some .int) 1 21) (hST : ST (fun _ => False) s s.heap) (hK : va_K (dC, dI) classes [(cAzIx, .int), (cAchR, .byte)] s) (hP : va_P (dC, dI) classes [(h0, .inr (8, [.int zVer, .int zTic, .int zTyc, .int zLec, .int zStc, .int zUtc, .ref zTi, .ref zTt, .ref zOf, .ref zDs, .ref zIx, .ref zSd, .ref zUt, .ref zCh, .ref zLt, .ref zLo, .ref zRu])), (zIx, .inl (cAzIx, 40, .inl zIxA)), (zCh, .inr (0, [.ref chR, .int chS])), (chR, .inl (cAchR, chN, .inl chA)), (zRu, .inr (5, [.ref ruT, .ref ruB, .ref ruE, .int ruHas, .int ruWide, .int ruSo, .int ruUo, .int ruSp, .int ruSs, .int ruUp, .int ruUs, .int ruNev]))] s.heap) (hE : ∀ (pc : Nat) (ls : Array Slot), decode b_Zone_nameSize pc = .ok (.ireturn, 1) → narrow .int (.int r0) = .int r0 → W p l e R s m args below meth c s.heap [] 0 0 Q (F0 m pc ls [.int r0])) : ∀ (n : Nat) {x3 : Int32} {x2 : Int32}, f_Zone_nameSize_53 nf chS chN chA n x3 x2 = some r0 → ∀ {ls : Array Slot}, lv_has ls 4 [(3, .int x3), (2, .int x2), (0, .ref h0)] → W p l e R s m args below meth c s.heap [] 0 0 Q (F0 m 53 ls []) := by
  obtain ⟨hx, hb, hr, hml, hown, hts, hlocks, hRf, hRl⟩ := id C0
  obtain ⟨tms, hZms, hTms, tmg, hZmg, hTmg, hNW⟩ := id hST
  intro n
  induction n with
  | zero =>
    intro x3 x2 hf
    exact absurd hf (by simp [f_Zone_nameSize_53])
  | succ n ih =>
    intro x3 x2 hf ls hl
    unfold f_Zone_nameSize_53 at hf
    refine lv_iload_n hx hb d_Zone_nameSize_53 rfl (lv_at hl 0 rfl) ?_
    refine lv_aload_n hx hb d_Zone_nameSize_54 rfl (lv_at hl 2 rfl) ?_
    refine va_get (D := (dC, dI)) (ci := 8) (v := .ref zCh) (C := RZone) (T := TZone) (N := 17) hx hb hts in_Zone hown hK hP 0 rfl rfl 13 (by decide) (hts (.fieldLink "ZoneFiles$Zone" 39 "ZoneFiles$Zone" "chars" "LZoneFiles$Bytes;") m_1_214) (fun _ h9 => h9) rfl d_Zone_nameSize_55 ?_
    refine va_get (D := (dC, dI)) (ci := 0) (v := .int chS) (C := RBytes) (T := TBytes) (N := 2) hx hb hts in_Bytes hown hK hP 2 rfl rfl 1 (by decide) (hts (.fieldLink "ZoneFiles$Zone" 124 "ZoneFiles$Bytes" "size" "I") m_1_44) (fun _ h9 => h9) rfl d_Zone_nameSize_58 ?_
    refine lv_icmp_ge (tgt := 84) hx hb d_Zone_nameSize_61 (by decide) (fun c_5 => ?_) (fun c_5 => ?_)
    · have hf := it_t c_5 hf
      exact k_Zone_nameSize_84 C0 hST hK hP hE hf (lv_sub hl [1] rfl)
    · have hf := it_f c_5 hf
      refine lv_aload_n hx hb d_Zone_nameSize_64 rfl (lv_at hl 2 rfl) ?_
      refine va_get (D := (dC, dI)) (ci := 8) (v := .ref zCh) (C := RZone) (T := TZone) (N := 17) hx hb hts in_Zone hown hK hP 0 rfl rfl 13 (by decide) (hts (.fieldLink "ZoneFiles$Zone" 39 "ZoneFiles$Zone" "chars" "LZoneFiles$Bytes;") m_1_214) (fun _ h9 => h9) rfl d_Zone_nameSize_65 ?_
      refine lv_iload_n hx hb d_Zone_nameSize_68 rfl (lv_at hl 0 rfl) ?_
      obtain ⟨r_6, hc, hf⟩ := ob hf
      refine cl_S (v := (some (.int r_6))) (st1 := [.int r_6]) (va_runV (As := [.int x3]) (rest := []) ⟨hx, hb, hml, hown, hts⟩ (c_By_get l dC dI zCh chR cAchR nf x3 chS chN chA hc) (cwV 1 hts (gdV m_2_70 m_2_71 m_2_72 m_1_2 m_2_73) rfl rfl rfl (by decide +kernel) ⟨Nat.le_trans (Nat.le_of_ble_eq_true rfl) hRf, Nat.le_trans (Nat.le_of_ble_eq_true rfl) hRl⟩) ((RO.pre (hP.sub (ws' := [(zCh, .inr (0, [.ref chR, .int chS])), (chR, .inl (cAchR, chN, .inl chA))]) [2, 3] rfl) (hK.sub (tys' := [(cAchR, .byte)]) [1] rfl) hST).vir (va_recv (hK.sub (tys' := [(cAchR, .byte)]) [1] rfl) (hP.sub (ws' := [(zCh, .inr (0, [.ref chR, .int chS])), (chR, .inl (cAchR, chN, .inl chA))]) [2, 3] rfl) (ci := 0) (q0 := 0) rfl rfl)) rfl rfl hl.1 rfl (lv_room (Nat.le_of_ble_eq_true rfl)) d_Zone_nameSize_69 ⟨Nat.zero_le _, Nat.zero_le _⟩) rfl ?_
      refine lv_if_eq (tgt := 84) hx hb d_Zone_nameSize_72 (by decide) (fun c_7 => ?_) (fun c_7 => ?_)
      · have hf := it_t c_7 hf
        exact k_Zone_nameSize_84 C0 hST hK hP hE hf (lv_sub hl [1] rfl)
      · have hf := it_f c_7 hf
        refine lv_iinc (v := x2 + 1) (lv' := [(2, .int (x2 + 1)), (3, .int x3), (0, .ref h0)]) hx hb d_Zone_nameSize_75 hl (k := 1) rfl rfl (by decide) rfl (fun ls hl => ?_)
        refine lv_iinc (v := x3 + 1) (lv' := [(3, .int (x3 + 1)), (2, .int (x2 + 1)), (0, .ref h0)]) hx hb d_Zone_nameSize_78 hl (k := 1) rfl rfl (by decide) rfl (fun ls hl => ?_)
        refine lv_goto (tgt := 53) hx hb d_Zone_nameSize_81 (by decide) ?_
        exact ih hf (lv_sub hl [0, 1, 2] rfl)
set_option maxHeartbeats 400000 in
set_option maxRecDepth 100000 in
theorem k_Zone_nameSize_43 (C0 : Cx p s m meth c args R b_Zone_nameSize "ZoneFiles$Zone" 4 (some .int) 1 21) (hST : ST (fun _ => False) s s.heap) (hK : va_K (dC, dI) classes [(cAzIx, .int), (cAchR, .byte)] s) (hP : va_P (dC, dI) classes [(h0, .inr (8, [.int zVer, .int zTic, .int zTyc, .int zLec, .int zStc, .int zUtc, .ref zTi, .ref zTt, .ref zOf, .ref zDs, .ref zIx, .ref zSd, .ref zUt, .ref zCh, .ref zLt, .ref zLo, .ref zRu])), (zIx, .inl (cAzIx, 40, .inl zIxA)), (zCh, .inr (0, [.ref chR, .int chS])), (chR, .inl (cAchR, chN, .inl chA)), (zRu, .inr (5, [.ref ruT, .ref ruB, .ref ruE, .int ruHas, .int ruWide, .int ruSo, .int ruUo, .int ruSp, .int ruSs, .int ruUp, .int ruUs, .int ruNev]))] s.heap) (hE : ∀ (pc : Nat) (ls : Array Slot), decode b_Zone_nameSize pc = .ok (.ireturn, 1) → narrow .int (.int r0) = .int r0 → W p l e R s m args below meth c s.heap [] 0 0 Q (F0 m pc ls [.int r0])) {s0 : Int32} (hf : f_Zone_nameSize_43 nf s0 = some r0) {ls : Array Slot} (hl : lv_has ls 4 []) : W p l e R s m args below meth c s.heap [] 0 0 Q (F0 m 43 ls [.int s0]) := by
  obtain ⟨hx, hb, hr, hml, hown, hts, hlocks, hRf, hRl⟩ := id C0
  obtain ⟨tms, hZms, hTms, tmg, hZmg, hTmg, hNW⟩ := id hST
  unfold f_Zone_nameSize_43 at hf
  have e := rs hf
  subst e
  exact hE _ _ d_Zone_nameSize_43 rfl
set_option maxHeartbeats 400000 in
set_option maxRecDepth 100000 in
theorem k_Zone_nameSize_0 (C0 : Cx p s m meth c args R b_Zone_nameSize "ZoneFiles$Zone" 4 (some .int) 1 21) (hST : ST (fun _ => False) s s.heap) (hK : va_K (dC, dI) classes [(cAzIx, .int), (cAchR, .byte)] s) (hP : va_P (dC, dI) classes [(h0, .inr (8, [.int zVer, .int zTic, .int zTyc, .int zLec, .int zStc, .int zUtc, .ref zTi, .ref zTt, .ref zOf, .ref zDs, .ref zIx, .ref zSd, .ref zUt, .ref zCh, .ref zLt, .ref zLo, .ref zRu])), (zIx, .inl (cAzIx, 40, .inl zIxA)), (zCh, .inr (0, [.ref chR, .int chS])), (chR, .inl (cAchR, chN, .inl chA)), (zRu, .inr (5, [.ref ruT, .ref ruB, .ref ruE, .int ruHas, .int ruWide, .int ruSo, .int ruUo, .int ruSp, .int ruSs, .int ruUp, .int ruUs, .int ruNev]))] s.heap) (hE : ∀ (pc : Nat) (ls : Array Slot), decode b_Zone_nameSize pc = .ok (.ireturn, 1) → narrow .int (.int r0) = .int r0 → W p l e R s m args below meth c s.heap [] 0 0 Q (F0 m pc ls [.int r0])) {x1 : Int32} (hf : f_Zone_nameSize_0 nf zTyc zIxA chS chN chA ruSs ruUs x1 = some r0) {ls : Array Slot} (hl : lv_has ls 4 [(0, .ref h0), (1, .int x1)]) : W p l e R s m args below meth c s.heap [] 0 0 Q (F0 m 0 ls []) := by
  obtain ⟨hx, hb, hr, hml, hown, hts, hlocks, hRf, hRl⟩ := id C0
  obtain ⟨tms, hZms, hTms, tmg, hZmg, hTmg, hNW⟩ := id hST
  unfold f_Zone_nameSize_0 at hf
  refine lv_iload_n hx hb d_Zone_nameSize_0 rfl (lv_at hl 1 rfl) ?_
  refine lv_bipush (v := -3) hx hb d_Zone_nameSize_1 (by decide) ?_
  refine lv_icmp_eq (tgt := 14) hx hb d_Zone_nameSize_3 (by decide) (fun c_1 => ?_) (fun c_1 => ?_)
  · have hf := it_t c_1 hf
    exact k_Zone_nameSize_14 C0 hST hK hP hE hf (lv_sub hl [] rfl)
  · have hf := it_f c_1 hf
    refine lv_iload_n hx hb d_Zone_nameSize_6 rfl (lv_at hl 1 rfl) ?_
    refine lv_aload_n hx hb d_Zone_nameSize_7 rfl (lv_at hl 0 rfl) ?_
    refine va_get (D := (dC, dI)) (ci := 8) (v := .int zTyc) (C := RZone) (T := TZone) (N := 17) hx hb hts in_Zone hown hK hP 0 rfl rfl 2 (by decide) (hts (.fieldLink "ZoneFiles$Zone" 78 "ZoneFiles$Zone" "typeCount" "I") m_1_170) (fun _ h9 => h9) rfl d_Zone_nameSize_8 ?_
    refine lv_icmp_lt (tgt := 16) hx hb d_Zone_nameSize_11 (by decide) (fun c_2 => ?_) (fun c_2 => ?_)
    · have hf := it_t c_2 hf
      refine lv_iload_n hx hb d_Zone_nameSize_16 rfl (lv_at hl 1 rfl) ?_
      refine lv_if_ge (tgt := 44) hx hb d_Zone_nameSize_17 (by decide) (fun c_3 => ?_) (fun c_3 => ?_)
      · have hf := it_t c_3 hf
        refine lv_iconst (v := 0) hx hb d_Zone_nameSize_44 (by decide) ?_
        refine lv_istore_n (lv' := [(2, .int 0), (0, .ref h0), (1, .int x1)]) hx hb d_Zone_nameSize_45 rfl hl (by decide) rfl (fun ls hl => ?_)
        refine lv_aload_n hx hb d_Zone_nameSize_46 rfl (lv_at hl 1 rfl) ?_
        refine va_get (D := (dC, dI)) (ci := 8) (v := .ref zIx) (C := RZone) (T := TZone) (N := 17) hx hb hts in_Zone hown hK hP 0 rfl rfl 10 (by decide) (hts (.fieldLink "ZoneFiles$Zone" 25 "ZoneFiles$Zone" "indexes" "[I") m_1_202) (fun _ h9 => h9) rfl d_Zone_nameSize_47 ?_
        refine lv_iload_n hx hb d_Zone_nameSize_50 rfl (lv_at hl 2 rfl) ?_
        obtain ⟨c_4, hf⟩ := it_n hf
        refine va_iald hx hb hK hP 1 0 rfl rfl c_4 d_Zone_nameSize_51 ?_
        refine lv_istore_n (lv' := [(3, .int (zIxA x1.toNatClampNeg)), (2, .int 0), (0, .ref h0), (1, .int x1)]) hx hb d_Zone_nameSize_52 rfl hl (by decide) rfl (fun ls hl => ?_)
        exact k_Zone_nameSize_53 C0 hST hK hP hE nf hf (lv_sub hl [0, 1, 2] rfl)
      · have hf := it_f c_3 hf
        refine lv_iload_n hx hb d_Zone_nameSize_20 rfl (lv_at hl 1 rfl) ?_
        refine lv_bipush (v := -2) hx hb d_Zone_nameSize_21 (by decide) ?_
        refine lv_icmp_ne (tgt := 36) hx hb d_Zone_nameSize_23 (by decide) (fun c_8 => ?_) (fun c_8 => ?_)
        · have hf := it_f c_8 hf
          refine lv_aload_n hx hb d_Zone_nameSize_36 rfl (lv_at hl 0 rfl) ?_
          refine va_get (D := (dC, dI)) (ci := 8) (v := .ref zRu) (C := RZone) (T := TZone) (N := 17) hx hb hts in_Zone hown hK hP 0 rfl rfl 16 (by decide) (hts (.fieldLink "ZoneFiles$Zone" 52 "ZoneFiles$Zone" "rule" "LZoneFiles$Rule;") m_1_226) (fun _ h9 => h9) rfl d_Zone_nameSize_37 ?_
          refine va_get (D := (dC, dI)) (ci := 5) (v := .int ruSs) (C := RRule) (T := TRule) (N := 12) hx hb hts in_Rule hown hK hP 4 rfl rfl 8 (by decide) (hts (.fieldLink "ZoneFiles$Zone" 65 "ZoneFiles$Rule" "standardNameSize" "I") m_1_129) (fun _ h9 => h9) rfl d_Zone_nameSize_40 ?_
          exact k_Zone_nameSize_43 C0 hST hK hP hE hf (lv_sub hl [] rfl)
        · have hf := it_t c_8 hf
          refine lv_aload_n hx hb d_Zone_nameSize_26 rfl (lv_at hl 0 rfl) ?_
          refine va_get (D := (dC, dI)) (ci := 8) (v := .ref zRu) (C := RZone) (T := TZone) (N := 17) hx hb hts in_Zone hown hK hP 0 rfl rfl 16 (by decide) (hts (.fieldLink "ZoneFiles$Zone" 52 "ZoneFiles$Zone" "rule" "LZoneFiles$Rule;") m_1_226) (fun _ h9 => h9) rfl d_Zone_nameSize_27 ?_
          refine va_get (D := (dC, dI)) (ci := 5) (v := .int ruUs) (C := RRule) (T := TRule) (N := 12) hx hb hts in_Rule hown hK hP 4 rfl rfl 10 (by decide) (hts (.fieldLink "ZoneFiles$Zone" 121 "ZoneFiles$Rule" "summerNameSize" "I") m_1_136) (fun _ h9 => h9) rfl d_Zone_nameSize_30 ?_
          refine lv_goto (tgt := 43) hx hb d_Zone_nameSize_33 (by decide) ?_
          exact k_Zone_nameSize_43 C0 hST hK hP hE hf (lv_sub hl [] rfl)
    · have hf := it_f c_2 hf
      exact k_Zone_nameSize_14 C0 hST hK hP hE hf (lv_sub hl [] rfl)
end
set_option maxHeartbeats 400000 in
set_option maxRecDepth 100000 in
theorem c_Zone_nameSize (l : Launch) (dC : Nat → ClassId) (dI : Nat → Nat → Nat) (h0 : Nat) (zTi : Nat) (zTt : Nat) (zOf : Nat) (zDs : Nat) (zIx : Nat) (zSd : Nat) (zUt : Nat) (zCh : Nat) (zLt : Nat) (zLo : Nat) (zRu : Nat) (chR : Nat) (ruT : Nat) (ruB : Nat) (ruE : Nat) (cAzIx : ClassId) (cAchR : ClassId) (nf : Nat) (p0 : Int32) (zVer : Int32) (zTic : Int32) (zTyc : Int32) (zLec : Int32) (zStc : Int32) (zUtc : Int32) (zIxA : Nat → Int32) (chS : Int32) (chN : Nat) (chA : Nat → Int32) (ruHas : Int32) (ruWide : Int32) (ruSo : Int32) (ruUo : Int32) (ruSp : Int32) (ruSs : Int32) (ruUp : Int32) (ruUs : Int32) (ruNev : Int32) {r0 : Int32} (hf : f_Zone_nameSize nf p0 zTyc zIxA chS chN chA ruSs ruUs = some r0) : Met l y_Zone_nameSize (wd y_Zone_nameSize b_Zone_nameSize 4 (some .int)) ({ frames := 1, cells := 0, slots := 0, locals := 21 }) (RO dC dI [(h0, .inr (8, [.int zVer, .int zTic, .int zTyc, .int zLec, .int zStc, .int zUtc, .ref zTi, .ref zTt, .ref zOf, .ref zDs, .ref zIx, .ref zSd, .ref zUt, .ref zCh, .ref zLt, .ref zLo, .ref zRu])), (zIx, .inl (cAzIx, 40, .inl zIxA)), (zCh, .inr (0, [.ref chR, .int chS])), (chR, .inl (cAchR, chN, .inl chA)), (zRu, .inr (5, [.ref ruT, .ref ruB, .ref ruE, .int ruHas, .int ruWide, .int ruSo, .int ruUo, .int ruSp, .int ruSs, .int ruUp, .int ruUs, .int ruNev]))] [(cAzIx, .int), (cAchR, .byte)] [.ref h0, .int p0]) (SV (some (.int r0))) 0 0 (fun _ => False) :=
  met_S (plainFor_of_name (by decide)) (Nat.le_of_ble_eq_true rfl) (fun p e R s m args below meth c ls C0 hST hK hP hl => by
    obtain ⟨hx, hb, hr, hml, hown, hts, hlocks, hRf, hRl⟩ := id C0
    unfold f_Zone_nameSize at hf
    exact k_Zone_nameSize_0 C0 hST hK hP (fun pc ls hd hn => W.zret hx hb hr hn (fun t ht hW => ⟨rfl, ht⟩) (fun q h => by cases h) hd) hf (lv_sub hl [0, 1] rfl))
-- ZoneFiles$Zone.nameByte(II)I
def f_Zone_nameByte_63 (nf : Nat) (txS : Int32) (txN : Nat) (txA : Nat → Int32) (s0 : Int32) (s1 : Int32) : Option (Int32) :=
  (f_By_get nf (s1 + s0) txS txN txA).bind fun r_3 =>
  some r_3
def f_Zone_nameByte_31 (nf : Nat) (s0 : Int32) : Option (Int32) :=
  some s0
def f_Zone_nameByte_0 (nf : Nat) (zTyc : Int32) (zIxA : Nat → Int32) (chS : Int32) (chN : Nat) (chA : Nat → Int32) (ruSp : Int32) (ruUp : Int32) (txS : Int32) (txN : Nat) (txA : Nat → Int32) (x1 : Int32) (x2 : Int32) : Option (Int32) :=
  if x1 < 0 then
  if x1 = (-2 : Int32) then
    f_Zone_nameByte_63 nf txS txN txA ruUp x2
    else
    f_Zone_nameByte_63 nf txS txN txA ruSp x2
  else
  if zTyc ≤ x1 then
    f_Zone_nameByte_31 nf (-1)
    else
    if x1 < 0 ∨ 40 ≤ x1.toNatClampNeg then none else
      (f_By_get nf ((zIxA x1.toNatClampNeg) + x2) chS chN chA).bind fun r_6 =>
      f_Zone_nameByte_31 nf r_6
def f_Zone_nameByte (nf : Nat) (p0 : Int32) (p1 : Int32) (zTyc : Int32) (zIxA : Nat → Int32) (chS : Int32) (chN : Nat) (chA : Nat → Int32) (ruSp : Int32) (ruUp : Int32) (txS : Int32) (txN : Nat) (txA : Nat → Int32) : Option (Int32) :=
  f_Zone_nameByte_0 nf zTyc zIxA chS chN chA ruSp ruUp txS txN txA p0 p1
section
variable {p : Program} {l : Launch} {e : Env} {R : Room} {s : State} {m : MethodId} {args : Array Value} {below : List Frame} {meth : Method} {c : Code} {Q : State → Prop} {dC : Nat → ClassId} {dI : Nat → Nat → Nat} {nf : Nat}
variable {h0 : Nat} {zTi : Nat} {zTt : Nat} {zOf : Nat} {zDs : Nat} {zIx : Nat} {zSd : Nat} {zUt : Nat} {zCh : Nat} {zLt : Nat} {zLo : Nat} {zRu : Nat} {chR : Nat} {ruT : Nat} {ruB : Nat} {ruE : Nat} {txR : Nat} {cAzIx : ClassId} {cAchR : ClassId} {cAtxR : ClassId} {zVer : Int32} {zTic : Int32} {zTyc : Int32} {zLec : Int32} {zStc : Int32} {zUtc : Int32} {zIxA : Nat → Int32} {chS : Int32} {chN : Nat} {chA : Nat → Int32} {ruHas : Int32} {ruWide : Int32} {ruSo : Int32} {ruUo : Int32} {ruSp : Int32} {ruSs : Int32} {ruUp : Int32} {ruUs : Int32} {ruNev : Int32} {txS : Int32} {txN : Nat} {txA : Nat → Int32} {r0 : Int32}
set_option maxHeartbeats 400000 in
set_option maxRecDepth 100000 in
theorem k_Zone_nameByte_63 (C0 : Cx p s m meth c args R b_Zone_nameByte "ZoneFiles$Zone" 3 (some .int) 1 21) (hST : ST (fun _ => False) s s.heap) (hK : va_K (dC, dI) classes [(cAzIx, .int), (cAchR, .byte), (cAtxR, .byte)] s) (hP : va_P (dC, dI) classes [(h0, .inr (8, [.int zVer, .int zTic, .int zTyc, .int zLec, .int zStc, .int zUtc, .ref zTi, .ref zTt, .ref zOf, .ref zDs, .ref zIx, .ref zSd, .ref zUt, .ref zCh, .ref zLt, .ref zLo, .ref zRu])), (zIx, .inl (cAzIx, 40, .inl zIxA)), (zCh, .inr (0, [.ref chR, .int chS])), (chR, .inl (cAchR, chN, .inl chA)), (zRu, .inr (5, [.ref ruT, .ref ruB, .ref ruE, .int ruHas, .int ruWide, .int ruSo, .int ruUo, .int ruSp, .int ruSs, .int ruUp, .int ruUs, .int ruNev])), (ruT, .inr (0, [.ref txR, .int txS])), (txR, .inl (cAtxR, txN, .inl txA))] s.heap) (hE : ∀ (pc : Nat) (ls : Array Slot), decode b_Zone_nameByte pc = .ok (.ireturn, 1) → narrow .int (.int r0) = .int r0 → W p l e R s m args below meth c s.heap [] 0 0 Q (F0 m pc ls [.int r0])) {s0 : Int32} {s1 : Int32} (hf : f_Zone_nameByte_63 nf txS txN txA s0 s1 = some r0) {ls : Array Slot} (hl : lv_has ls 3 []) : W p l e R s m args below meth c s.heap [] 0 0 Q (F0 m 63 ls [.int s0, .int s1, .ref ruT]) := by
  obtain ⟨hx, hb, hr, hml, hown, hts, hlocks, hRf, hRl⟩ := id C0
  obtain ⟨tms, hZms, hTms, tmg, hZmg, hTmg, hNW⟩ := id hST
  unfold f_Zone_nameByte_63 at hf
  refine lv_iadd hx hb d_Zone_nameByte_63 ?_
  obtain ⟨r_3, hc, hf⟩ := ob hf
  refine cl_S (v := (some (.int r_3))) (st1 := [.int r_3]) (va_runV (As := [.int (s1 + s0)]) (rest := []) ⟨hx, hb, hml, hown, hts⟩ (c_By_get l dC dI ruT txR cAtxR nf (s1 + s0) txS txN txA hc) (cwV 1 hts (gdV m_2_70 m_2_71 m_2_72 m_1_2 m_2_73) rfl rfl rfl (by decide +kernel) ⟨Nat.le_trans (Nat.le_of_ble_eq_true rfl) hRf, Nat.le_trans (Nat.le_of_ble_eq_true rfl) hRl⟩) ((RO.pre (hP.sub (ws' := [(ruT, .inr (0, [.ref txR, .int txS])), (txR, .inl (cAtxR, txN, .inl txA))]) [5, 6] rfl) (hK.sub (tys' := [(cAtxR, .byte)]) [2] rfl) hST).vir (va_recv (hK.sub (tys' := [(cAtxR, .byte)]) [2] rfl) (hP.sub (ws' := [(ruT, .inr (0, [.ref txR, .int txS])), (txR, .inl (cAtxR, txN, .inl txA))]) [5, 6] rfl) (ci := 0) (q0 := 0) rfl rfl)) rfl rfl hl.1 rfl (lv_room (Nat.le_of_ble_eq_true rfl)) d_Zone_nameByte_64 ⟨Nat.zero_le _, Nat.zero_le _⟩) rfl ?_
  have e := rs hf
  subst e
  exact hE _ _ d_Zone_nameByte_67 rfl
set_option maxHeartbeats 400000 in
set_option maxRecDepth 100000 in
theorem k_Zone_nameByte_31 (C0 : Cx p s m meth c args R b_Zone_nameByte "ZoneFiles$Zone" 3 (some .int) 1 21) (hST : ST (fun _ => False) s s.heap) (hK : va_K (dC, dI) classes [(cAzIx, .int), (cAchR, .byte), (cAtxR, .byte)] s) (hP : va_P (dC, dI) classes [(h0, .inr (8, [.int zVer, .int zTic, .int zTyc, .int zLec, .int zStc, .int zUtc, .ref zTi, .ref zTt, .ref zOf, .ref zDs, .ref zIx, .ref zSd, .ref zUt, .ref zCh, .ref zLt, .ref zLo, .ref zRu])), (zIx, .inl (cAzIx, 40, .inl zIxA)), (zCh, .inr (0, [.ref chR, .int chS])), (chR, .inl (cAchR, chN, .inl chA)), (zRu, .inr (5, [.ref ruT, .ref ruB, .ref ruE, .int ruHas, .int ruWide, .int ruSo, .int ruUo, .int ruSp, .int ruSs, .int ruUp, .int ruUs, .int ruNev])), (ruT, .inr (0, [.ref txR, .int txS])), (txR, .inl (cAtxR, txN, .inl txA))] s.heap) (hE : ∀ (pc : Nat) (ls : Array Slot), decode b_Zone_nameByte pc = .ok (.ireturn, 1) → narrow .int (.int r0) = .int r0 → W p l e R s m args below meth c s.heap [] 0 0 Q (F0 m pc ls [.int r0])) {s0 : Int32} (hf : f_Zone_nameByte_31 nf s0 = some r0) {ls : Array Slot} (hl : lv_has ls 3 []) : W p l e R s m args below meth c s.heap [] 0 0 Q (F0 m 31 ls [.int s0]) := by
  obtain ⟨hx, hb, hr, hml, hown, hts, hlocks, hRf, hRl⟩ := id C0
  obtain ⟨tms, hZms, hTms, tmg, hZmg, hTmg, hNW⟩ := id hST
  unfold f_Zone_nameByte_31 at hf
  have e := rs hf
  subst e
  exact hE _ _ d_Zone_nameByte_31 rfl
set_option maxHeartbeats 400000 in
set_option maxRecDepth 100000 in
theorem k_Zone_nameByte_0 (C0 : Cx p s m meth c args R b_Zone_nameByte "ZoneFiles$Zone" 3 (some .int) 1 21) (hST : ST (fun _ => False) s s.heap) (hK : va_K (dC, dI) classes [(cAzIx, .int), (cAchR, .byte), (cAtxR, .byte)] s) (hP : va_P (dC, dI) classes [(h0, .inr (8, [.int zVer, .int zTic, .int zTyc, .int zLec, .int zStc, .int zUtc, .ref zTi, .ref zTt, .ref zOf, .ref zDs, .ref zIx, .ref zSd, .ref zUt, .ref zCh, .ref zLt, .ref zLo, .ref zRu])), (zIx, .inl (cAzIx, 40, .inl zIxA)), (zCh, .inr (0, [.ref chR, .int chS])), (chR, .inl (cAchR, chN, .inl chA)), (zRu, .inr (5, [.ref ruT, .ref ruB, .ref ruE, .int ruHas, .int ruWide, .int ruSo, .int ruUo, .int ruSp, .int ruSs, .int ruUp, .int ruUs, .int ruNev])), (ruT, .inr (0, [.ref txR, .int txS])), (txR, .inl (cAtxR, txN, .inl txA))] s.heap) (hE : ∀ (pc : Nat) (ls : Array Slot), decode b_Zone_nameByte pc = .ok (.ireturn, 1) → narrow .int (.int r0) = .int r0 → W p l e R s m args below meth c s.heap [] 0 0 Q (F0 m pc ls [.int r0])) {x1 : Int32} {x2 : Int32} (hf : f_Zone_nameByte_0 nf zTyc zIxA chS chN chA ruSp ruUp txS txN txA x1 x2 = some r0) {ls : Array Slot} (hl : lv_has ls 3 [(0, .ref h0), (1, .int x1), (2, .int x2)]) : W p l e R s m args below meth c s.heap [] 0 0 Q (F0 m 0 ls []) := by
  obtain ⟨hx, hb, hr, hml, hown, hts, hlocks, hRf, hRl⟩ := id C0
  obtain ⟨tms, hZms, hTms, tmg, hZmg, hTmg, hNW⟩ := id hST
  unfold f_Zone_nameByte_0 at hf
  refine lv_iload_n hx hb d_Zone_nameByte_0 rfl (lv_at hl 1 rfl) ?_
  refine lv_if_lt (tgt := 32) hx hb d_Zone_nameByte_1 (by decide) (fun c_1 => ?_) (fun c_1 => ?_)
  · have hf := it_t c_1 hf
    refine lv_aload_n hx hb d_Zone_nameByte_32 rfl (lv_at hl 0 rfl) ?_
    refine va_get (D := (dC, dI)) (ci := 8) (v := .ref zRu) (C := RZone) (T := TZone) (N := 17) hx hb hts in_Zone hown hK hP 0 rfl rfl 16 (by decide) (hts (.fieldLink "ZoneFiles$Zone" 52 "ZoneFiles$Zone" "rule" "LZoneFiles$Rule;") m_1_226) (fun _ h9 => h9) rfl d_Zone_nameByte_33 ?_
    refine va_get (D := (dC, dI)) (ci := 5) (v := .ref ruT) (C := RRule) (T := TRule) (N := 12) hx hb hts in_Rule hown hK hP 4 rfl rfl 0 (by decide) (hts (.fieldLink "ZoneFiles$Zone" 59 "ZoneFiles$Rule" "text" "LZoneFiles$Bytes;") m_1_102) (fun _ h9 => h9) rfl d_Zone_nameByte_36 ?_
    refine lv_iload_n hx hb d_Zone_nameByte_39 rfl (lv_at hl 2 rfl) ?_
    refine lv_iload_n hx hb d_Zone_nameByte_40 rfl (lv_at hl 1 rfl) ?_
    refine lv_bipush (v := -2) hx hb d_Zone_nameByte_41 (by decide) ?_
    refine lv_icmp_ne (tgt := 56) hx hb d_Zone_nameByte_43 (by decide) (fun c_2 => ?_) (fun c_2 => ?_)
    · have hf := it_f c_2 hf
      refine lv_aload_n hx hb d_Zone_nameByte_56 rfl (lv_at hl 0 rfl) ?_
      refine va_get (D := (dC, dI)) (ci := 8) (v := .ref zRu) (C := RZone) (T := TZone) (N := 17) hx hb hts in_Zone hown hK hP 0 rfl rfl 16 (by decide) (hts (.fieldLink "ZoneFiles$Zone" 52 "ZoneFiles$Zone" "rule" "LZoneFiles$Rule;") m_1_226) (fun _ h9 => h9) rfl d_Zone_nameByte_57 ?_
      refine va_get (D := (dC, dI)) (ci := 5) (v := .int ruSp) (C := RRule) (T := TRule) (N := 12) hx hb hts in_Rule hown hK hP 4 rfl rfl 7 (by decide) (hts (.fieldLink "ZoneFiles$Zone" 133 "ZoneFiles$Rule" "standardNamePlace" "I") m_1_127) (fun _ h9 => h9) rfl d_Zone_nameByte_60 ?_
      exact k_Zone_nameByte_63 C0 hST hK hP hE hf (lv_sub hl [] rfl)
    · have hf := it_t c_2 hf
      refine lv_aload_n hx hb d_Zone_nameByte_46 rfl (lv_at hl 0 rfl) ?_
      refine va_get (D := (dC, dI)) (ci := 8) (v := .ref zRu) (C := RZone) (T := TZone) (N := 17) hx hb hts in_Zone hown hK hP 0 rfl rfl 16 (by decide) (hts (.fieldLink "ZoneFiles$Zone" 52 "ZoneFiles$Zone" "rule" "LZoneFiles$Rule;") m_1_226) (fun _ h9 => h9) rfl d_Zone_nameByte_47 ?_
      refine va_get (D := (dC, dI)) (ci := 5) (v := .int ruUp) (C := RRule) (T := TRule) (N := 12) hx hb hts in_Rule hown hK hP 4 rfl rfl 9 (by decide) (hts (.fieldLink "ZoneFiles$Zone" 130 "ZoneFiles$Rule" "summerNamePlace" "I") m_1_133) (fun _ h9 => h9) rfl d_Zone_nameByte_50 ?_
      refine lv_goto (tgt := 63) hx hb d_Zone_nameByte_53 (by decide) ?_
      exact k_Zone_nameByte_63 C0 hST hK hP hE hf (lv_sub hl [] rfl)
  · have hf := it_f c_1 hf
    refine lv_iload_n hx hb d_Zone_nameByte_4 rfl (lv_at hl 1 rfl) ?_
    refine lv_aload_n hx hb d_Zone_nameByte_5 rfl (lv_at hl 0 rfl) ?_
    refine va_get (D := (dC, dI)) (ci := 8) (v := .int zTyc) (C := RZone) (T := TZone) (N := 17) hx hb hts in_Zone hown hK hP 0 rfl rfl 2 (by decide) (hts (.fieldLink "ZoneFiles$Zone" 78 "ZoneFiles$Zone" "typeCount" "I") m_1_170) (fun _ h9 => h9) rfl d_Zone_nameByte_6 ?_
    refine lv_icmp_ge (tgt := 30) hx hb d_Zone_nameByte_9 (by decide) (fun c_4 => ?_) (fun c_4 => ?_)
    · have hf := it_t c_4 hf
      refine lv_iconst (v := -1) hx hb d_Zone_nameByte_30 (by decide) ?_
      exact k_Zone_nameByte_31 C0 hST hK hP hE hf (lv_sub hl [] rfl)
    · have hf := it_f c_4 hf
      refine lv_aload_n hx hb d_Zone_nameByte_12 rfl (lv_at hl 0 rfl) ?_
      refine va_get (D := (dC, dI)) (ci := 8) (v := .ref zCh) (C := RZone) (T := TZone) (N := 17) hx hb hts in_Zone hown hK hP 0 rfl rfl 13 (by decide) (hts (.fieldLink "ZoneFiles$Zone" 39 "ZoneFiles$Zone" "chars" "LZoneFiles$Bytes;") m_1_214) (fun _ h9 => h9) rfl d_Zone_nameByte_13 ?_
      refine lv_aload_n hx hb d_Zone_nameByte_16 rfl (lv_at hl 0 rfl) ?_
      refine va_get (D := (dC, dI)) (ci := 8) (v := .ref zIx) (C := RZone) (T := TZone) (N := 17) hx hb hts in_Zone hown hK hP 0 rfl rfl 10 (by decide) (hts (.fieldLink "ZoneFiles$Zone" 25 "ZoneFiles$Zone" "indexes" "[I") m_1_202) (fun _ h9 => h9) rfl d_Zone_nameByte_17 ?_
      refine lv_iload_n hx hb d_Zone_nameByte_20 rfl (lv_at hl 1 rfl) ?_
      obtain ⟨c_5, hf⟩ := it_n hf
      refine va_iald hx hb hK hP 1 0 rfl rfl c_5 d_Zone_nameByte_21 ?_
      refine lv_iload_n hx hb d_Zone_nameByte_22 rfl (lv_at hl 2 rfl) ?_
      refine lv_iadd hx hb d_Zone_nameByte_23 ?_
      obtain ⟨r_6, hc, hf⟩ := ob hf
      refine cl_S (v := (some (.int r_6))) (st1 := [.int r_6]) (va_runV (As := [.int ((zIxA x1.toNatClampNeg) + x2)]) (rest := []) ⟨hx, hb, hml, hown, hts⟩ (c_By_get l dC dI zCh chR cAchR nf ((zIxA x1.toNatClampNeg) + x2) chS chN chA hc) (cwV 1 hts (gdV m_2_70 m_2_71 m_2_72 m_1_2 m_2_73) rfl rfl rfl (by decide +kernel) ⟨Nat.le_trans (Nat.le_of_ble_eq_true rfl) hRf, Nat.le_trans (Nat.le_of_ble_eq_true rfl) hRl⟩) ((RO.pre (hP.sub (ws' := [(zCh, .inr (0, [.ref chR, .int chS])), (chR, .inl (cAchR, chN, .inl chA))]) [2, 3] rfl) (hK.sub (tys' := [(cAchR, .byte)]) [1] rfl) hST).vir (va_recv (hK.sub (tys' := [(cAchR, .byte)]) [1] rfl) (hP.sub (ws' := [(zCh, .inr (0, [.ref chR, .int chS])), (chR, .inl (cAchR, chN, .inl chA))]) [2, 3] rfl) (ci := 0) (q0 := 0) rfl rfl)) rfl rfl hl.1 rfl (lv_room (Nat.le_of_ble_eq_true rfl)) d_Zone_nameByte_24 ⟨Nat.zero_le _, Nat.zero_le _⟩) rfl ?_
      refine lv_goto (tgt := 31) hx hb d_Zone_nameByte_27 (by decide) ?_
      exact k_Zone_nameByte_31 C0 hST hK hP hE hf (lv_sub hl [] rfl)
end
set_option maxHeartbeats 400000 in
set_option maxRecDepth 100000 in
theorem c_Zone_nameByte (l : Launch) (dC : Nat → ClassId) (dI : Nat → Nat → Nat) (h0 : Nat) (zTi : Nat) (zTt : Nat) (zOf : Nat) (zDs : Nat) (zIx : Nat) (zSd : Nat) (zUt : Nat) (zCh : Nat) (zLt : Nat) (zLo : Nat) (zRu : Nat) (chR : Nat) (ruT : Nat) (ruB : Nat) (ruE : Nat) (txR : Nat) (cAzIx : ClassId) (cAchR : ClassId) (cAtxR : ClassId) (nf : Nat) (p0 : Int32) (p1 : Int32) (zVer : Int32) (zTic : Int32) (zTyc : Int32) (zLec : Int32) (zStc : Int32) (zUtc : Int32) (zIxA : Nat → Int32) (chS : Int32) (chN : Nat) (chA : Nat → Int32) (ruHas : Int32) (ruWide : Int32) (ruSo : Int32) (ruUo : Int32) (ruSp : Int32) (ruSs : Int32) (ruUp : Int32) (ruUs : Int32) (ruNev : Int32) (txS : Int32) (txN : Nat) (txA : Nat → Int32) {r0 : Int32} (hf : f_Zone_nameByte nf p0 p1 zTyc zIxA chS chN chA ruSp ruUp txS txN txA = some r0) : Met l y_Zone_nameByte (wd y_Zone_nameByte b_Zone_nameByte 3 (some .int)) ({ frames := 1, cells := 0, slots := 0, locals := 21 }) (RO dC dI [(h0, .inr (8, [.int zVer, .int zTic, .int zTyc, .int zLec, .int zStc, .int zUtc, .ref zTi, .ref zTt, .ref zOf, .ref zDs, .ref zIx, .ref zSd, .ref zUt, .ref zCh, .ref zLt, .ref zLo, .ref zRu])), (zIx, .inl (cAzIx, 40, .inl zIxA)), (zCh, .inr (0, [.ref chR, .int chS])), (chR, .inl (cAchR, chN, .inl chA)), (zRu, .inr (5, [.ref ruT, .ref ruB, .ref ruE, .int ruHas, .int ruWide, .int ruSo, .int ruUo, .int ruSp, .int ruSs, .int ruUp, .int ruUs, .int ruNev])), (ruT, .inr (0, [.ref txR, .int txS])), (txR, .inl (cAtxR, txN, .inl txA))] [(cAzIx, .int), (cAchR, .byte), (cAtxR, .byte)] [.ref h0, .int p0, .int p1]) (SV (some (.int r0))) 0 0 (fun _ => False) :=
  met_S (plainFor_of_name (by decide)) (Nat.le_of_ble_eq_true rfl) (fun p e R s m args below meth c ls C0 hST hK hP hl => by
    obtain ⟨hx, hb, hr, hml, hown, hts, hlocks, hRf, hRl⟩ := id C0
    unfold f_Zone_nameByte at hf
    exact k_Zone_nameByte_0 C0 hST hK hP (fun pc ls hd hn => W.zret hx hb hr hn (fun t ht hW => ⟨rfl, ht⟩) (fun q h => by cases h) hd) hf (lv_sub hl [0, 1, 2] rfl))
-- ZoneFiles$Zone.isSame(II)Z
def f_Zone_isSame_19 (nf : Nat) : Option (Int32) :=
  some 0
def f_Zone_isSame_47 (nf : Nat) : Option (Int32) :=
  some 0
def f_Zone_isSame_69 (nf : Nat) (zTyc : Int32) (zIxA : Nat → Int32) (chS : Int32) (chN : Nat) (chA : Nat → Int32) (ruSp : Int32) (ruUp : Int32) (txS : Int32) (txN : Nat) (txA : Nat → Int32) : Nat → Int32 → Int32 → Int32 → Int32 → Option (Int32)
  | 0, _, _, _, _ => none
  | n + 1, x4, x3, x1, x2 =>
    if x3 ≤ x4 then
    some 1
    else
    (f_Zone_nameByte nf x1 x4 zTyc zIxA chS chN chA ruSp ruUp txS txN txA).bind fun r_14 =>
      (f_Zone_nameByte nf x2 x4 zTyc zIxA chS chN chA ruSp ruUp txS txN txA).bind fun r_15 =>
      if r_14 = r_15 then
      f_Zone_isSame_69 nf zTyc zIxA chS chN chA ruSp ruUp txS txN txA n (x4 + 1) x3 x1 x2
      else
      some 0
def f_Zone_isSame_0 (nf : Nat) (zTyc : Int32) (zOfA : Nat → Int32) (zDsA : Nat → Int32) (zIxA : Nat → Int32) (chS : Int32) (chN : Nat) (chA : Nat → Int32) (ruSo : Int32) (ruUo : Int32) (ruSp : Int32) (ruSs : Int32) (ruUp : Int32) (ruUs : Int32) (txS : Int32) (txN : Nat) (txA : Nat → Int32) (x1 : Int32) (x2 : Int32) : Option (Int32) :=
  if x1 = x2 then
  some 1
  else
  if x1 = (-3 : Int32) then
    f_Zone_isSame_19 nf
    else
    if x2 = (-3 : Int32) then
      f_Zone_isSame_19 nf
      else
      (f_Zone_offsetOf nf x1 zTyc zOfA ruSo ruUo).bind fun r_4 =>
        (f_Zone_offsetOf nf x2 zTyc zOfA ruSo ruUo).bind fun r_5 =>
        if r_4 = r_5 then
        (f_Zone_dstOf nf x1 zTyc zDsA).bind fun r_7 =>
          (f_Zone_dstOf nf x2 zTyc zDsA).bind fun r_8 =>
          if r_7 = r_8 then
          (f_Zone_nameSize nf x1 zTyc zIxA chS chN chA ruSs ruUs).bind fun r_10 =>
            (f_Zone_nameSize nf x2 zTyc zIxA chS chN chA ruSs ruUs).bind fun r_11 =>
            if r_10 = r_11 then
            f_Zone_isSame_69 nf zTyc zIxA chS chN chA ruSp ruUp txS txN txA nf 0 r_10 x1 x2
            else
            some 0
          else
          f_Zone_isSame_47 nf
        else
        f_Zone_isSame_47 nf
def f_Zone_isSame (nf : Nat) (p0 : Int32) (p1 : Int32) (zTyc : Int32) (zOfA : Nat → Int32) (zDsA : Nat → Int32) (zIxA : Nat → Int32) (chS : Int32) (chN : Nat) (chA : Nat → Int32) (ruSo : Int32) (ruUo : Int32) (ruSp : Int32) (ruSs : Int32) (ruUp : Int32) (ruUs : Int32) (txS : Int32) (txN : Nat) (txA : Nat → Int32) : Option (Int32) :=
  f_Zone_isSame_0 nf zTyc zOfA zDsA zIxA chS chN chA ruSo ruUo ruSp ruSs ruUp ruUs txS txN txA p0 p1
section
variable {p : Program} {l : Launch} {e : Env} {R : Room} {s : State} {m : MethodId} {args : Array Value} {below : List Frame} {meth : Method} {c : Code} {Q : State → Prop} {dC : Nat → ClassId} {dI : Nat → Nat → Nat} {nf : Nat}
variable {h0 : Nat} {zTi : Nat} {zTt : Nat} {zOf : Nat} {zDs : Nat} {zIx : Nat} {zSd : Nat} {zUt : Nat} {zCh : Nat} {zLt : Nat} {zLo : Nat} {zRu : Nat} {chR : Nat} {ruT : Nat} {ruB : Nat} {ruE : Nat} {txR : Nat} {cAzOf : ClassId} {cAzDs : ClassId} {cAzIx : ClassId} {cAchR : ClassId} {cAtxR : ClassId} {zVer : Int32} {zTic : Int32} {zTyc : Int32} {zLec : Int32} {zStc : Int32} {zUtc : Int32} {zOfA : Nat → Int32} {zDsA : Nat → Int32} {zIxA : Nat → Int32} {chS : Int32} {chN : Nat} {chA : Nat → Int32} {ruHas : Int32} {ruWide : Int32} {ruSo : Int32} {ruUo : Int32} {ruSp : Int32} {ruSs : Int32} {ruUp : Int32} {ruUs : Int32} {ruNev : Int32} {txS : Int32} {txN : Nat} {txA : Nat → Int32} {r0 : Int32}
set_option maxHeartbeats 400000 in
set_option maxRecDepth 100000 in
theorem k_Zone_isSame_19 (C0 : Cx p s m meth c args R b_Zone_isSame "ZoneFiles$Zone" 5 (some .boolean) 2 44) (hST : ST (fun _ => False) s s.heap) (hK : va_K (dC, dI) classes [(cAzOf, .int), (cAzDs, .int), (cAzIx, .int), (cAchR, .byte), (cAtxR, .byte)] s) (hP : va_P (dC, dI) classes [(h0, .inr (8, [.int zVer, .int zTic, .int zTyc, .int zLec, .int zStc, .int zUtc, .ref zTi, .ref zTt, .ref zOf, .ref zDs, .ref zIx, .ref zSd, .ref zUt, .ref zCh, .ref zLt, .ref zLo, .ref zRu])), (zOf, .inl (cAzOf, 40, .inl zOfA)), (zDs, .inl (cAzDs, 40, .inl zDsA)), (zIx, .inl (cAzIx, 40, .inl zIxA)), (zCh, .inr (0, [.ref chR, .int chS])), (chR, .inl (cAchR, chN, .inl chA)), (zRu, .inr (5, [.ref ruT, .ref ruB, .ref ruE, .int ruHas, .int ruWide, .int ruSo, .int ruUo, .int ruSp, .int ruSs, .int ruUp, .int ruUs, .int ruNev])), (ruT, .inr (0, [.ref txR, .int txS])), (txR, .inl (cAtxR, txN, .inl txA))] s.heap) (hE : ∀ (pc : Nat) (ls : Array Slot), decode b_Zone_isSame pc = .ok (.ireturn, 1) → narrow .boolean (.int r0) = .int r0 → W p l e R s m args below meth c s.heap [] 0 0 Q (F0 m pc ls [.int r0])) (hf : f_Zone_isSame_19 nf = some r0) {ls : Array Slot} (hl : lv_has ls 5 []) : W p l e R s m args below meth c s.heap [] 0 0 Q (F0 m 19 ls []) := by
  obtain ⟨hx, hb, hr, hml, hown, hts, hlocks, hRf, hRl⟩ := id C0
  obtain ⟨tms, hZms, hTms, tmg, hZmg, hTmg, hNW⟩ := id hST
  unfold f_Zone_isSame_19 at hf
  refine lv_iconst (v := 0) hx hb d_Zone_isSame_19 (by decide) ?_
  have e := rs hf
  subst e
  exact hE _ _ d_Zone_isSame_20 rfl
set_option maxHeartbeats 400000 in
set_option maxRecDepth 100000 in
theorem k_Zone_isSame_47 (C0 : Cx p s m meth c args R b_Zone_isSame "ZoneFiles$Zone" 5 (some .boolean) 2 44) (hST : ST (fun _ => False) s s.heap) (hK : va_K (dC, dI) classes [(cAzOf, .int), (cAzDs, .int), (cAzIx, .int), (cAchR, .byte), (cAtxR, .byte)] s) (hP : va_P (dC, dI) classes [(h0, .inr (8, [.int zVer, .int zTic, .int zTyc, .int zLec, .int zStc, .int zUtc, .ref zTi, .ref zTt, .ref zOf, .ref zDs, .ref zIx, .ref zSd, .ref zUt, .ref zCh, .ref zLt, .ref zLo, .ref zRu])), (zOf, .inl (cAzOf, 40, .inl zOfA)), (zDs, .inl (cAzDs, 40, .inl zDsA)), (zIx, .inl (cAzIx, 40, .inl zIxA)), (zCh, .inr (0, [.ref chR, .int chS])), (chR, .inl (cAchR, chN, .inl chA)), (zRu, .inr (5, [.ref ruT, .ref ruB, .ref ruE, .int ruHas, .int ruWide, .int ruSo, .int ruUo, .int ruSp, .int ruSs, .int ruUp, .int ruUs, .int ruNev])), (ruT, .inr (0, [.ref txR, .int txS])), (txR, .inl (cAtxR, txN, .inl txA))] s.heap) (hE : ∀ (pc : Nat) (ls : Array Slot), decode b_Zone_isSame pc = .ok (.ireturn, 1) → narrow .boolean (.int r0) = .int r0 → W p l e R s m args below meth c s.heap [] 0 0 Q (F0 m pc ls [.int r0])) (hf : f_Zone_isSame_47 nf = some r0) {ls : Array Slot} (hl : lv_has ls 5 []) : W p l e R s m args below meth c s.heap [] 0 0 Q (F0 m 47 ls []) := by
  obtain ⟨hx, hb, hr, hml, hown, hts, hlocks, hRf, hRl⟩ := id C0
  obtain ⟨tms, hZms, hTms, tmg, hZmg, hTmg, hNW⟩ := id hST
  unfold f_Zone_isSame_47 at hf
  refine lv_iconst (v := 0) hx hb d_Zone_isSame_47 (by decide) ?_
  have e := rs hf
  subst e
  exact hE _ _ d_Zone_isSame_48 rfl
set_option maxHeartbeats 400000 in
set_option maxRecDepth 100000 in
theorem k_Zone_isSame_69 (C0 : Cx p s m meth c args R b_Zone_isSame "ZoneFiles$Zone" 5 (some .boolean) 2 44) (hST : ST (fun _ => False) s s.heap) (hK : va_K (dC, dI) classes [(cAzOf, .int), (cAzDs, .int), (cAzIx, .int), (cAchR, .byte), (cAtxR, .byte)] s) (hP : va_P (dC, dI) classes [(h0, .inr (8, [.int zVer, .int zTic, .int zTyc, .int zLec, .int zStc, .int zUtc, .ref zTi, .ref zTt, .ref zOf, .ref zDs, .ref zIx, .ref zSd, .ref zUt, .ref zCh, .ref zLt, .ref zLo, .ref zRu])), (zOf, .inl (cAzOf, 40, .inl zOfA)), (zDs, .inl (cAzDs, 40, .inl zDsA)), (zIx, .inl (cAzIx, 40, .inl zIxA)), (zCh, .inr (0, [.ref chR, .int chS])), (chR, .inl (cAchR, chN, .inl chA)), (zRu, .inr (5, [.ref ruT, .ref ruB, .ref ruE, .int ruHas, .int ruWide, .int ruSo, .int ruUo, .int ruSp, .int ruSs, .int ruUp, .int ruUs, .int ruNev])), (ruT, .inr (0, [.ref txR, .int txS])), (txR, .inl (cAtxR, txN, .inl txA))] s.heap) (hE : ∀ (pc : Nat) (ls : Array Slot), decode b_Zone_isSame pc = .ok (.ireturn, 1) → narrow .boolean (.int r0) = .int r0 → W p l e R s m args below meth c s.heap [] 0 0 Q (F0 m pc ls [.int r0])) : ∀ (n : Nat) {x4 : Int32} {x3 : Int32} {x1 : Int32} {x2 : Int32}, f_Zone_isSame_69 nf zTyc zIxA chS chN chA ruSp ruUp txS txN txA n x4 x3 x1 x2 = some r0 → ∀ {ls : Array Slot}, lv_has ls 5 [(4, .int x4), (3, .int x3), (0, .ref h0), (1, .int x1), (2, .int x2)] → W p l e R s m args below meth c s.heap [] 0 0 Q (F0 m 69 ls []) := by
  obtain ⟨hx, hb, hr, hml, hown, hts, hlocks, hRf, hRl⟩ := id C0
  obtain ⟨tms, hZms, hTms, tmg, hZmg, hTmg, hNW⟩ := id hST
  intro n
  induction n with
  | zero =>
    intro x4 x3 x1 x2 hf
    exact absurd hf (by simp [f_Zone_isSame_69])
  | succ n ih =>
    intro x4 x3 x1 x2 hf ls hl
    unfold f_Zone_isSame_69 at hf
    refine lv_iload hx hb d_Zone_isSame_69 (lv_at hl 0 rfl) ?_
    refine lv_iload_n hx hb d_Zone_isSame_71 rfl (lv_at hl 1 rfl) ?_
    refine lv_icmp_ge (tgt := 100) hx hb d_Zone_isSame_72 (by decide) (fun c_13 => ?_) (fun c_13 => ?_)
    · have hf := it_t c_13 hf
      refine lv_iconst (v := 1) hx hb d_Zone_isSame_100 (by decide) ?_
      have e := rs hf
      subst e
      exact hE _ _ d_Zone_isSame_101 rfl
    · have hf := it_f c_13 hf
      refine lv_aload_n hx hb d_Zone_isSame_75 rfl (lv_at hl 2 rfl) ?_
      refine lv_iload_n hx hb d_Zone_isSame_76 rfl (lv_at hl 3 rfl) ?_
      refine lv_iload hx hb d_Zone_isSame_77 (lv_at hl 0 rfl) ?_
      obtain ⟨r_14, hc, hf⟩ := ob hf
      refine cl_S (v := (some (.int r_14))) (st1 := [.int r_14]) (va_runV (As := [.int x1, .int x4]) (rest := []) ⟨hx, hb, hml, hown, hts⟩ (c_Zone_nameByte l dC dI h0 zTi zTt zOf zDs zIx zSd zUt zCh zLt zLo zRu chR ruT ruB ruE txR cAzIx cAchR cAtxR nf x1 x4 zVer zTic zTyc zLec zStc zUtc zIxA chS chN chA ruHas ruWide ruSo ruUo ruSp ruSs ruUp ruUs ruNev txS txN txA hc) (cwV 2 hts (gdV m_2_74 m_2_75 m_2_76 m_1_3 m_2_77) rfl rfl rfl (by decide +kernel) ⟨Nat.le_trans (Nat.le_of_ble_eq_true rfl) hRf, Nat.le_trans (Nat.le_of_ble_eq_true rfl) hRl⟩) ((RO.pre (hP.sub (ws' := [(h0, .inr (8, [.int zVer, .int zTic, .int zTyc, .int zLec, .int zStc, .int zUtc, .ref zTi, .ref zTt, .ref zOf, .ref zDs, .ref zIx, .ref zSd, .ref zUt, .ref zCh, .ref zLt, .ref zLo, .ref zRu])), (zIx, .inl (cAzIx, 40, .inl zIxA)), (zCh, .inr (0, [.ref chR, .int chS])), (chR, .inl (cAchR, chN, .inl chA)), (zRu, .inr (5, [.ref ruT, .ref ruB, .ref ruE, .int ruHas, .int ruWide, .int ruSo, .int ruUo, .int ruSp, .int ruSs, .int ruUp, .int ruUs, .int ruNev])), (ruT, .inr (0, [.ref txR, .int txS])), (txR, .inl (cAtxR, txN, .inl txA))]) [0, 3, 4, 5, 6, 7, 8] rfl) (hK.sub (tys' := [(cAzIx, .int), (cAchR, .byte), (cAtxR, .byte)]) [2, 3, 4] rfl) hST).vir (va_recv (hK.sub (tys' := [(cAzIx, .int), (cAchR, .byte), (cAtxR, .byte)]) [2, 3, 4] rfl) (hP.sub (ws' := [(h0, .inr (8, [.int zVer, .int zTic, .int zTyc, .int zLec, .int zStc, .int zUtc, .ref zTi, .ref zTt, .ref zOf, .ref zDs, .ref zIx, .ref zSd, .ref zUt, .ref zCh, .ref zLt, .ref zLo, .ref zRu])), (zIx, .inl (cAzIx, 40, .inl zIxA)), (zCh, .inr (0, [.ref chR, .int chS])), (chR, .inl (cAchR, chN, .inl chA)), (zRu, .inr (5, [.ref ruT, .ref ruB, .ref ruE, .int ruHas, .int ruWide, .int ruSo, .int ruUo, .int ruSp, .int ruSs, .int ruUp, .int ruUs, .int ruNev])), (ruT, .inr (0, [.ref txR, .int txS])), (txR, .inl (cAtxR, txN, .inl txA))]) [0, 3, 4, 5, 6, 7, 8] rfl) (ci := 8) (q0 := 0) rfl rfl)) rfl rfl hl.1 rfl (lv_room (Nat.le_of_ble_eq_true rfl)) d_Zone_isSame_79 ⟨Nat.zero_le _, Nat.zero_le _⟩) rfl ?_
      refine lv_aload_n hx hb d_Zone_isSame_82 rfl (lv_at hl 2 rfl) ?_
      refine lv_iload_n hx hb d_Zone_isSame_83 rfl (lv_at hl 4 rfl) ?_
      refine lv_iload hx hb d_Zone_isSame_84 (lv_at hl 0 rfl) ?_
      obtain ⟨r_15, hc, hf⟩ := ob hf
      refine cl_S (v := (some (.int r_15))) (st1 := [.int r_15, .int r_14]) (va_runV (As := [.int x2, .int x4]) (rest := [.int r_14]) ⟨hx, hb, hml, hown, hts⟩ (c_Zone_nameByte l dC dI h0 zTi zTt zOf zDs zIx zSd zUt zCh zLt zLo zRu chR ruT ruB ruE txR cAzIx cAchR cAtxR nf x2 x4 zVer zTic zTyc zLec zStc zUtc zIxA chS chN chA ruHas ruWide ruSo ruUo ruSp ruSs ruUp ruUs ruNev txS txN txA hc) (cwV 2 hts (gdV m_2_74 m_2_75 m_2_76 m_1_3 m_2_77) rfl rfl rfl (by decide +kernel) ⟨Nat.le_trans (Nat.le_of_ble_eq_true rfl) hRf, Nat.le_trans (Nat.le_of_ble_eq_true rfl) hRl⟩) ((RO.pre (hP.sub (ws' := [(h0, .inr (8, [.int zVer, .int zTic, .int zTyc, .int zLec, .int zStc, .int zUtc, .ref zTi, .ref zTt, .ref zOf, .ref zDs, .ref zIx, .ref zSd, .ref zUt, .ref zCh, .ref zLt, .ref zLo, .ref zRu])), (zIx, .inl (cAzIx, 40, .inl zIxA)), (zCh, .inr (0, [.ref chR, .int chS])), (chR, .inl (cAchR, chN, .inl chA)), (zRu, .inr (5, [.ref ruT, .ref ruB, .ref ruE, .int ruHas, .int ruWide, .int ruSo, .int ruUo, .int ruSp, .int ruSs, .int ruUp, .int ruUs, .int ruNev])), (ruT, .inr (0, [.ref txR, .int txS])), (txR, .inl (cAtxR, txN, .inl txA))]) [0, 3, 4, 5, 6, 7, 8] rfl) (hK.sub (tys' := [(cAzIx, .int), (cAchR, .byte), (cAtxR, .byte)]) [2, 3, 4] rfl) hST).vir (va_recv (hK.sub (tys' := [(cAzIx, .int), (cAchR, .byte), (cAtxR, .byte)]) [2, 3, 4] rfl) (hP.sub (ws' := [(h0, .inr (8, [.int zVer, .int zTic, .int zTyc, .int zLec, .int zStc, .int zUtc, .ref zTi, .ref zTt, .ref zOf, .ref zDs, .ref zIx, .ref zSd, .ref zUt, .ref zCh, .ref zLt, .ref zLo, .ref zRu])), (zIx, .inl (cAzIx, 40, .inl zIxA)), (zCh, .inr (0, [.ref chR, .int chS])), (chR, .inl (cAchR, chN, .inl chA)), (zRu, .inr (5, [.ref ruT, .ref ruB, .ref ruE, .int ruHas, .int ruWide, .int ruSo, .int ruUo, .int ruSp, .int ruSs, .int ruUp, .int ruUs, .int ruNev])), (ruT, .inr (0, [.ref txR, .int txS])), (txR, .inl (cAtxR, txN, .inl txA))]) [0, 3, 4, 5, 6, 7, 8] rfl) (ci := 8) (q0 := 0) rfl rfl)) rfl rfl hl.1 rfl (lv_room (Nat.le_of_ble_eq_true rfl)) d_Zone_isSame_86 ⟨Nat.zero_le _, Nat.zero_le _⟩) rfl ?_
      refine lv_icmp_eq (tgt := 94) hx hb d_Zone_isSame_89 (by decide) (fun c_16 => ?_) (fun c_16 => ?_)
      · have hf := it_t c_16 hf
        refine lv_iinc (v := x4 + 1) (lv' := [(4, .int (x4 + 1)), (3, .int x3), (0, .ref h0), (1, .int x1), (2, .int x2)]) hx hb d_Zone_isSame_94 hl (k := 0) rfl rfl (by decide) rfl (fun ls hl => ?_)
        refine lv_goto (tgt := 69) hx hb d_Zone_isSame_97 (by decide) ?_
        exact ih hf (lv_sub hl [0, 1, 2, 3, 4] rfl)
      · have hf := it_f c_16 hf
        refine lv_iconst (v := 0) hx hb d_Zone_isSame_92 (by decide) ?_
        have e := rs hf
        subst e
        exact hE _ _ d_Zone_isSame_93 rfl
set_option maxHeartbeats 400000 in
set_option maxRecDepth 100000 in
theorem k_Zone_isSame_0 (C0 : Cx p s m meth c args R b_Zone_isSame "ZoneFiles$Zone" 5 (some .boolean) 2 44) (hST : ST (fun _ => False) s s.heap) (hK : va_K (dC, dI) classes [(cAzOf, .int), (cAzDs, .int), (cAzIx, .int), (cAchR, .byte), (cAtxR, .byte)] s) (hP : va_P (dC, dI) classes [(h0, .inr (8, [.int zVer, .int zTic, .int zTyc, .int zLec, .int zStc, .int zUtc, .ref zTi, .ref zTt, .ref zOf, .ref zDs, .ref zIx, .ref zSd, .ref zUt, .ref zCh, .ref zLt, .ref zLo, .ref zRu])), (zOf, .inl (cAzOf, 40, .inl zOfA)), (zDs, .inl (cAzDs, 40, .inl zDsA)), (zIx, .inl (cAzIx, 40, .inl zIxA)), (zCh, .inr (0, [.ref chR, .int chS])), (chR, .inl (cAchR, chN, .inl chA)), (zRu, .inr (5, [.ref ruT, .ref ruB, .ref ruE, .int ruHas, .int ruWide, .int ruSo, .int ruUo, .int ruSp, .int ruSs, .int ruUp, .int ruUs, .int ruNev])), (ruT, .inr (0, [.ref txR, .int txS])), (txR, .inl (cAtxR, txN, .inl txA))] s.heap) (hE : ∀ (pc : Nat) (ls : Array Slot), decode b_Zone_isSame pc = .ok (.ireturn, 1) → narrow .boolean (.int r0) = .int r0 → W p l e R s m args below meth c s.heap [] 0 0 Q (F0 m pc ls [.int r0])) {x1 : Int32} {x2 : Int32} (hf : f_Zone_isSame_0 nf zTyc zOfA zDsA zIxA chS chN chA ruSo ruUo ruSp ruSs ruUp ruUs txS txN txA x1 x2 = some r0) {ls : Array Slot} (hl : lv_has ls 5 [(0, .ref h0), (1, .int x1), (2, .int x2)]) : W p l e R s m args below meth c s.heap [] 0 0 Q (F0 m 0 ls []) := by
  obtain ⟨hx, hb, hr, hml, hown, hts, hlocks, hRf, hRl⟩ := id C0
  obtain ⟨tms, hZms, hTms, tmg, hZmg, hTmg, hNW⟩ := id hST
  unfold f_Zone_isSame_0 at hf
  refine lv_iload_n hx hb d_Zone_isSame_0 rfl (lv_at hl 1 rfl) ?_
  refine lv_iload_n hx hb d_Zone_isSame_1 rfl (lv_at hl 2 rfl) ?_
  refine lv_icmp_ne (tgt := 7) hx hb d_Zone_isSame_2 (by decide) (fun c_1 => ?_) (fun c_1 => ?_)
  · have hf := it_f c_1 hf
    refine lv_iload_n hx hb d_Zone_isSame_7 rfl (lv_at hl 1 rfl) ?_
    refine lv_bipush (v := -3) hx hb d_Zone_isSame_8 (by decide) ?_
    refine lv_icmp_eq (tgt := 19) hx hb d_Zone_isSame_10 (by decide) (fun c_2 => ?_) (fun c_2 => ?_)
    · have hf := it_t c_2 hf
      exact k_Zone_isSame_19 C0 hST hK hP hE hf (lv_sub hl [] rfl)
    · have hf := it_f c_2 hf
      refine lv_iload_n hx hb d_Zone_isSame_13 rfl (lv_at hl 2 rfl) ?_
      refine lv_bipush (v := -3) hx hb d_Zone_isSame_14 (by decide) ?_
      refine lv_icmp_ne (tgt := 21) hx hb d_Zone_isSame_16 (by decide) (fun c_3 => ?_) (fun c_3 => ?_)
      · have hf := it_f c_3 hf
        refine lv_aload_n hx hb d_Zone_isSame_21 rfl (lv_at hl 0 rfl) ?_
        refine lv_iload_n hx hb d_Zone_isSame_22 rfl (lv_at hl 1 rfl) ?_
        obtain ⟨r_4, hc, hf⟩ := ob hf
        refine cl_S (v := (some (.int r_4))) (st1 := [.int r_4]) (va_runV (As := [.int x1]) (rest := []) ⟨hx, hb, hml, hown, hts⟩ (c_Zone_offsetOf l dC dI h0 zTi zTt zOf zDs zIx zSd zUt zCh zLt zLo zRu ruT ruB ruE cAzOf nf x1 zVer zTic zTyc zLec zStc zUtc zOfA ruHas ruWide ruSo ruUo ruSp ruSs ruUp ruUs ruNev hc) (cwV 1 hts (gdV m_2_82 m_2_83 m_2_84 m_1_3 m_2_85) rfl rfl rfl (by decide +kernel) ⟨Nat.le_trans (Nat.le_of_ble_eq_true rfl) hRf, Nat.le_trans (Nat.le_of_ble_eq_true rfl) hRl⟩) ((RO.pre (hP.sub (ws' := [(h0, .inr (8, [.int zVer, .int zTic, .int zTyc, .int zLec, .int zStc, .int zUtc, .ref zTi, .ref zTt, .ref zOf, .ref zDs, .ref zIx, .ref zSd, .ref zUt, .ref zCh, .ref zLt, .ref zLo, .ref zRu])), (zOf, .inl (cAzOf, 40, .inl zOfA)), (zRu, .inr (5, [.ref ruT, .ref ruB, .ref ruE, .int ruHas, .int ruWide, .int ruSo, .int ruUo, .int ruSp, .int ruSs, .int ruUp, .int ruUs, .int ruNev]))]) [0, 1, 6] rfl) (hK.sub (tys' := [(cAzOf, .int)]) [0] rfl) hST).vir (va_recv (hK.sub (tys' := [(cAzOf, .int)]) [0] rfl) (hP.sub (ws' := [(h0, .inr (8, [.int zVer, .int zTic, .int zTyc, .int zLec, .int zStc, .int zUtc, .ref zTi, .ref zTt, .ref zOf, .ref zDs, .ref zIx, .ref zSd, .ref zUt, .ref zCh, .ref zLt, .ref zLo, .ref zRu])), (zOf, .inl (cAzOf, 40, .inl zOfA)), (zRu, .inr (5, [.ref ruT, .ref ruB, .ref ruE, .int ruHas, .int ruWide, .int ruSo, .int ruUo, .int ruSp, .int ruSs, .int ruUp, .int ruUs, .int ruNev]))]) [0, 1, 6] rfl) (ci := 8) (q0 := 0) rfl rfl)) rfl rfl hl.1 rfl (lv_room (Nat.le_of_ble_eq_true rfl)) d_Zone_isSame_23 ⟨Nat.zero_le _, Nat.zero_le _⟩) rfl ?_
        refine lv_aload_n hx hb d_Zone_isSame_26 rfl (lv_at hl 0 rfl) ?_
        refine lv_iload_n hx hb d_Zone_isSame_27 rfl (lv_at hl 2 rfl) ?_
        obtain ⟨r_5, hc, hf⟩ := ob hf
        refine cl_S (v := (some (.int r_5))) (st1 := [.int r_5, .int r_4]) (va_runV (As := [.int x2]) (rest := [.int r_4]) ⟨hx, hb, hml, hown, hts⟩ (c_Zone_offsetOf l dC dI h0 zTi zTt zOf zDs zIx zSd zUt zCh zLt zLo zRu ruT ruB ruE cAzOf nf x2 zVer zTic zTyc zLec zStc zUtc zOfA ruHas ruWide ruSo ruUo ruSp ruSs ruUp ruUs ruNev hc) (cwV 1 hts (gdV m_2_82 m_2_83 m_2_84 m_1_3 m_2_85) rfl rfl rfl (by decide +kernel) ⟨Nat.le_trans (Nat.le_of_ble_eq_true rfl) hRf, Nat.le_trans (Nat.le_of_ble_eq_true rfl) hRl⟩) ((RO.pre (hP.sub (ws' := [(h0, .inr (8, [.int zVer, .int zTic, .int zTyc, .int zLec, .int zStc, .int zUtc, .ref zTi, .ref zTt, .ref zOf, .ref zDs, .ref zIx, .ref zSd, .ref zUt, .ref zCh, .ref zLt, .ref zLo, .ref zRu])), (zOf, .inl (cAzOf, 40, .inl zOfA)), (zRu, .inr (5, [.ref ruT, .ref ruB, .ref ruE, .int ruHas, .int ruWide, .int ruSo, .int ruUo, .int ruSp, .int ruSs, .int ruUp, .int ruUs, .int ruNev]))]) [0, 1, 6] rfl) (hK.sub (tys' := [(cAzOf, .int)]) [0] rfl) hST).vir (va_recv (hK.sub (tys' := [(cAzOf, .int)]) [0] rfl) (hP.sub (ws' := [(h0, .inr (8, [.int zVer, .int zTic, .int zTyc, .int zLec, .int zStc, .int zUtc, .ref zTi, .ref zTt, .ref zOf, .ref zDs, .ref zIx, .ref zSd, .ref zUt, .ref zCh, .ref zLt, .ref zLo, .ref zRu])), (zOf, .inl (cAzOf, 40, .inl zOfA)), (zRu, .inr (5, [.ref ruT, .ref ruB, .ref ruE, .int ruHas, .int ruWide, .int ruSo, .int ruUo, .int ruSp, .int ruSs, .int ruUp, .int ruUs, .int ruNev]))]) [0, 1, 6] rfl) (ci := 8) (q0 := 0) rfl rfl)) rfl rfl hl.1 rfl (lv_room (Nat.le_of_ble_eq_true rfl)) d_Zone_isSame_28 ⟨Nat.zero_le _, Nat.zero_le _⟩) rfl ?_
        refine lv_icmp_ne (tgt := 47) hx hb d_Zone_isSame_31 (by decide) (fun c_6 => ?_) (fun c_6 => ?_)
        · have hf := it_f c_6 hf
          exact k_Zone_isSame_47 C0 hST hK hP hE hf (lv_sub hl [] rfl)
        · have hf := it_t c_6 hf
          refine lv_aload_n hx hb d_Zone_isSame_34 rfl (lv_at hl 0 rfl) ?_
          refine lv_iload_n hx hb d_Zone_isSame_35 rfl (lv_at hl 1 rfl) ?_
          obtain ⟨r_7, hc, hf⟩ := ob hf
          refine cl_S (v := (some (.int r_7))) (st1 := [.int r_7]) (va_runV (As := [.int x1]) (rest := []) ⟨hx, hb, hml, hown, hts⟩ (c_Zone_dstOf l dC dI h0 zTi zTt zOf zDs zIx zSd zUt zCh zLt zLo zRu cAzDs nf x1 zVer zTic zTyc zLec zStc zUtc zDsA hc) (cwV 1 hts (gdV m_2_86 m_2_87 m_2_88 m_1_3 m_2_89) rfl rfl rfl (by decide +kernel) ⟨Nat.le_trans (Nat.le_of_ble_eq_true rfl) hRf, Nat.le_trans (Nat.le_of_ble_eq_true rfl) hRl⟩) ((RO.pre (hP.sub (ws' := [(h0, .inr (8, [.int zVer, .int zTic, .int zTyc, .int zLec, .int zStc, .int zUtc, .ref zTi, .ref zTt, .ref zOf, .ref zDs, .ref zIx, .ref zSd, .ref zUt, .ref zCh, .ref zLt, .ref zLo, .ref zRu])), (zDs, .inl (cAzDs, 40, .inl zDsA))]) [0, 2] rfl) (hK.sub (tys' := [(cAzDs, .int)]) [1] rfl) hST).vir (va_recv (hK.sub (tys' := [(cAzDs, .int)]) [1] rfl) (hP.sub (ws' := [(h0, .inr (8, [.int zVer, .int zTic, .int zTyc, .int zLec, .int zStc, .int zUtc, .ref zTi, .ref zTt, .ref zOf, .ref zDs, .ref zIx, .ref zSd, .ref zUt, .ref zCh, .ref zLt, .ref zLo, .ref zRu])), (zDs, .inl (cAzDs, 40, .inl zDsA))]) [0, 2] rfl) (ci := 8) (q0 := 0) rfl rfl)) rfl rfl hl.1 rfl (lv_room (Nat.le_of_ble_eq_true rfl)) d_Zone_isSame_36 ⟨Nat.zero_le _, Nat.zero_le _⟩) rfl ?_
          refine lv_aload_n hx hb d_Zone_isSame_39 rfl (lv_at hl 0 rfl) ?_
          refine lv_iload_n hx hb d_Zone_isSame_40 rfl (lv_at hl 2 rfl) ?_
          obtain ⟨r_8, hc, hf⟩ := ob hf
          refine cl_S (v := (some (.int r_8))) (st1 := [.int r_8, .int r_7]) (va_runV (As := [.int x2]) (rest := [.int r_7]) ⟨hx, hb, hml, hown, hts⟩ (c_Zone_dstOf l dC dI h0 zTi zTt zOf zDs zIx zSd zUt zCh zLt zLo zRu cAzDs nf x2 zVer zTic zTyc zLec zStc zUtc zDsA hc) (cwV 1 hts (gdV m_2_86 m_2_87 m_2_88 m_1_3 m_2_89) rfl rfl rfl (by decide +kernel) ⟨Nat.le_trans (Nat.le_of_ble_eq_true rfl) hRf, Nat.le_trans (Nat.le_of_ble_eq_true rfl) hRl⟩) ((RO.pre (hP.sub (ws' := [(h0, .inr (8, [.int zVer, .int zTic, .int zTyc, .int zLec, .int zStc, .int zUtc, .ref zTi, .ref zTt, .ref zOf, .ref zDs, .ref zIx, .ref zSd, .ref zUt, .ref zCh, .ref zLt, .ref zLo, .ref zRu])), (zDs, .inl (cAzDs, 40, .inl zDsA))]) [0, 2] rfl) (hK.sub (tys' := [(cAzDs, .int)]) [1] rfl) hST).vir (va_recv (hK.sub (tys' := [(cAzDs, .int)]) [1] rfl) (hP.sub (ws' := [(h0, .inr (8, [.int zVer, .int zTic, .int zTyc, .int zLec, .int zStc, .int zUtc, .ref zTi, .ref zTt, .ref zOf, .ref zDs, .ref zIx, .ref zSd, .ref zUt, .ref zCh, .ref zLt, .ref zLo, .ref zRu])), (zDs, .inl (cAzDs, 40, .inl zDsA))]) [0, 2] rfl) (ci := 8) (q0 := 0) rfl rfl)) rfl rfl hl.1 rfl (lv_room (Nat.le_of_ble_eq_true rfl)) d_Zone_isSame_41 ⟨Nat.zero_le _, Nat.zero_le _⟩) rfl ?_
          refine lv_icmp_eq (tgt := 49) hx hb d_Zone_isSame_44 (by decide) (fun c_9 => ?_) (fun c_9 => ?_)
          · have hf := it_t c_9 hf
            refine lv_aload_n hx hb d_Zone_isSame_49 rfl (lv_at hl 0 rfl) ?_
            refine lv_iload_n hx hb d_Zone_isSame_50 rfl (lv_at hl 1 rfl) ?_
            obtain ⟨r_10, hc, hf⟩ := ob hf
            refine cl_S (v := (some (.int r_10))) (st1 := [.int r_10]) (va_runV (As := [.int x1]) (rest := []) ⟨hx, hb, hml, hown, hts⟩ (c_Zone_nameSize l dC dI h0 zTi zTt zOf zDs zIx zSd zUt zCh zLt zLo zRu chR ruT ruB ruE cAzIx cAchR nf x1 zVer zTic zTyc zLec zStc zUtc zIxA chS chN chA ruHas ruWide ruSo ruUo ruSp ruSs ruUp ruUs ruNev hc) (cwV 1 hts (gdV m_2_66 m_2_67 m_2_68 m_1_3 m_2_69) rfl rfl rfl (by decide +kernel) ⟨Nat.le_trans (Nat.le_of_ble_eq_true rfl) hRf, Nat.le_trans (Nat.le_of_ble_eq_true rfl) hRl⟩) ((RO.pre (hP.sub (ws' := [(h0, .inr (8, [.int zVer, .int zTic, .int zTyc, .int zLec, .int zStc, .int zUtc, .ref zTi, .ref zTt, .ref zOf, .ref zDs, .ref zIx, .ref zSd, .ref zUt, .ref zCh, .ref zLt, .ref zLo, .ref zRu])), (zIx, .inl (cAzIx, 40, .inl zIxA)), (zCh, .inr (0, [.ref chR, .int chS])), (chR, .inl (cAchR, chN, .inl chA)), (zRu, .inr (5, [.ref ruT, .ref ruB, .ref ruE, .int ruHas, .int ruWide, .int ruSo, .int ruUo, .int ruSp, .int ruSs, .int ruUp, .int ruUs, .int ruNev]))]) [0, 3, 4, 5, 6] rfl) (hK.sub (tys' := [(cAzIx, .int), (cAchR, .byte)]) [2, 3] rfl) hST).vir (va_recv (hK.sub (tys' := [(cAzIx, .int), (cAchR, .byte)]) [2, 3] rfl) (hP.sub (ws' := [(h0, .inr (8, [.int zVer, .int zTic, .int zTyc, .int zLec, .int zStc, .int zUtc, .ref zTi, .ref zTt, .ref zOf, .ref zDs, .ref zIx, .ref zSd, .ref zUt, .ref zCh, .ref zLt, .ref zLo, .ref zRu])), (zIx, .inl (cAzIx, 40, .inl zIxA)), (zCh, .inr (0, [.ref chR, .int chS])), (chR, .inl (cAchR, chN, .inl chA)), (zRu, .inr (5, [.ref ruT, .ref ruB, .ref ruE, .int ruHas, .int ruWide, .int ruSo, .int ruUo, .int ruSp, .int ruSs, .int ruUp, .int ruUs, .int ruNev]))]) [0, 3, 4, 5, 6] rfl) (ci := 8) (q0 := 0) rfl rfl)) rfl rfl hl.1 rfl (lv_room (Nat.le_of_ble_eq_true rfl)) d_Zone_isSame_51 ⟨Nat.zero_le _, Nat.zero_le _⟩) rfl ?_
            refine lv_istore_n (lv' := [(3, .int r_10), (0, .ref h0), (1, .int x1), (2, .int x2)]) hx hb d_Zone_isSame_54 rfl hl (by decide) rfl (fun ls hl => ?_)
            refine lv_iload_n hx hb d_Zone_isSame_55 rfl (lv_at hl 0 rfl) ?_
            refine lv_aload_n hx hb d_Zone_isSame_56 rfl (lv_at hl 1 rfl) ?_
            refine lv_iload_n hx hb d_Zone_isSame_57 rfl (lv_at hl 3 rfl) ?_
            obtain ⟨r_11, hc, hf⟩ := ob hf
            refine cl_S (v := (some (.int r_11))) (st1 := [.int r_11, .int r_10]) (va_runV (As := [.int x2]) (rest := [.int r_10]) ⟨hx, hb, hml, hown, hts⟩ (c_Zone_nameSize l dC dI h0 zTi zTt zOf zDs zIx zSd zUt zCh zLt zLo zRu chR ruT ruB ruE cAzIx cAchR nf x2 zVer zTic zTyc zLec zStc zUtc zIxA chS chN chA ruHas ruWide ruSo ruUo ruSp ruSs ruUp ruUs ruNev hc) (cwV 1 hts (gdV m_2_66 m_2_67 m_2_68 m_1_3 m_2_69) rfl rfl rfl (by decide +kernel) ⟨Nat.le_trans (Nat.le_of_ble_eq_true rfl) hRf, Nat.le_trans (Nat.le_of_ble_eq_true rfl) hRl⟩) ((RO.pre (hP.sub (ws' := [(h0, .inr (8, [.int zVer, .int zTic, .int zTyc, .int zLec, .int zStc, .int zUtc, .ref zTi, .ref zTt, .ref zOf, .ref zDs, .ref zIx, .ref zSd, .ref zUt, .ref zCh, .ref zLt, .ref zLo, .ref zRu])), (zIx, .inl (cAzIx, 40, .inl zIxA)), (zCh, .inr (0, [.ref chR, .int chS])), (chR, .inl (cAchR, chN, .inl chA)), (zRu, .inr (5, [.ref ruT, .ref ruB, .ref ruE, .int ruHas, .int ruWide, .int ruSo, .int ruUo, .int ruSp, .int ruSs, .int ruUp, .int ruUs, .int ruNev]))]) [0, 3, 4, 5, 6] rfl) (hK.sub (tys' := [(cAzIx, .int), (cAchR, .byte)]) [2, 3] rfl) hST).vir (va_recv (hK.sub (tys' := [(cAzIx, .int), (cAchR, .byte)]) [2, 3] rfl) (hP.sub (ws' := [(h0, .inr (8, [.int zVer, .int zTic, .int zTyc, .int zLec, .int zStc, .int zUtc, .ref zTi, .ref zTt, .ref zOf, .ref zDs, .ref zIx, .ref zSd, .ref zUt, .ref zCh, .ref zLt, .ref zLo, .ref zRu])), (zIx, .inl (cAzIx, 40, .inl zIxA)), (zCh, .inr (0, [.ref chR, .int chS])), (chR, .inl (cAchR, chN, .inl chA)), (zRu, .inr (5, [.ref ruT, .ref ruB, .ref ruE, .int ruHas, .int ruWide, .int ruSo, .int ruUo, .int ruSp, .int ruSs, .int ruUp, .int ruUs, .int ruNev]))]) [0, 3, 4, 5, 6] rfl) (ci := 8) (q0 := 0) rfl rfl)) rfl rfl hl.1 rfl (lv_room (Nat.le_of_ble_eq_true rfl)) d_Zone_isSame_58 ⟨Nat.zero_le _, Nat.zero_le _⟩) rfl ?_
            refine lv_icmp_eq (tgt := 66) hx hb d_Zone_isSame_61 (by decide) (fun c_12 => ?_) (fun c_12 => ?_)
            · have hf := it_t c_12 hf
              refine lv_iconst (v := 0) hx hb d_Zone_isSame_66 (by decide) ?_
              refine lv_istore (lv' := [(4, .int 0), (3, .int r_10), (0, .ref h0), (1, .int x1), (2, .int x2)]) hx hb d_Zone_isSame_67 hl (by decide) rfl (fun ls hl => ?_)
              exact k_Zone_isSame_69 C0 hST hK hP hE nf hf (lv_sub hl [0, 1, 2, 3, 4] rfl)
            · have hf := it_f c_12 hf
              refine lv_iconst (v := 0) hx hb d_Zone_isSame_64 (by decide) ?_
              have e := rs hf
              subst e
              exact hE _ _ d_Zone_isSame_65 rfl
          · have hf := it_f c_9 hf
            exact k_Zone_isSame_47 C0 hST hK hP hE hf (lv_sub hl [] rfl)
      · have hf := it_t c_3 hf
        exact k_Zone_isSame_19 C0 hST hK hP hE hf (lv_sub hl [] rfl)
  · have hf := it_t c_1 hf
    refine lv_iconst (v := 1) hx hb d_Zone_isSame_5 (by decide) ?_
    have e := rs hf
    subst e
    exact hE _ _ d_Zone_isSame_6 rfl
end
set_option maxHeartbeats 400000 in
set_option maxRecDepth 100000 in
theorem c_Zone_isSame (l : Launch) (dC : Nat → ClassId) (dI : Nat → Nat → Nat) (h0 : Nat) (zTi : Nat) (zTt : Nat) (zOf : Nat) (zDs : Nat) (zIx : Nat) (zSd : Nat) (zUt : Nat) (zCh : Nat) (zLt : Nat) (zLo : Nat) (zRu : Nat) (chR : Nat) (ruT : Nat) (ruB : Nat) (ruE : Nat) (txR : Nat) (cAzOf : ClassId) (cAzDs : ClassId) (cAzIx : ClassId) (cAchR : ClassId) (cAtxR : ClassId) (nf : Nat) (p0 : Int32) (p1 : Int32) (zVer : Int32) (zTic : Int32) (zTyc : Int32) (zLec : Int32) (zStc : Int32) (zUtc : Int32) (zOfA : Nat → Int32) (zDsA : Nat → Int32) (zIxA : Nat → Int32) (chS : Int32) (chN : Nat) (chA : Nat → Int32) (ruHas : Int32) (ruWide : Int32) (ruSo : Int32) (ruUo : Int32) (ruSp : Int32) (ruSs : Int32) (ruUp : Int32) (ruUs : Int32) (ruNev : Int32) (txS : Int32) (txN : Nat) (txA : Nat → Int32) {r0 : Int32} (hf : f_Zone_isSame nf p0 p1 zTyc zOfA zDsA zIxA chS chN chA ruSo ruUo ruSp ruSs ruUp ruUs txS txN txA = some r0) : Met l y_Zone_isSame (wd y_Zone_isSame b_Zone_isSame 5 (some .boolean)) ({ frames := 2, cells := 0, slots := 0, locals := 44 }) (RO dC dI [(h0, .inr (8, [.int zVer, .int zTic, .int zTyc, .int zLec, .int zStc, .int zUtc, .ref zTi, .ref zTt, .ref zOf, .ref zDs, .ref zIx, .ref zSd, .ref zUt, .ref zCh, .ref zLt, .ref zLo, .ref zRu])), (zOf, .inl (cAzOf, 40, .inl zOfA)), (zDs, .inl (cAzDs, 40, .inl zDsA)), (zIx, .inl (cAzIx, 40, .inl zIxA)), (zCh, .inr (0, [.ref chR, .int chS])), (chR, .inl (cAchR, chN, .inl chA)), (zRu, .inr (5, [.ref ruT, .ref ruB, .ref ruE, .int ruHas, .int ruWide, .int ruSo, .int ruUo, .int ruSp, .int ruSs, .int ruUp, .int ruUs, .int ruNev])), (ruT, .inr (0, [.ref txR, .int txS])), (txR, .inl (cAtxR, txN, .inl txA))] [(cAzOf, .int), (cAzDs, .int), (cAzIx, .int), (cAchR, .byte), (cAtxR, .byte)] [.ref h0, .int p0, .int p1]) (SV (some (.int r0))) 0 0 (fun _ => False) :=
  met_S (plainFor_of_name (by decide)) (Nat.le_of_ble_eq_true rfl) (fun p e R s m args below meth c ls C0 hST hK hP hl => by
    obtain ⟨hx, hb, hr, hml, hown, hts, hlocks, hRf, hRl⟩ := id C0
    unfold f_Zone_isSame at hf
    exact k_Zone_isSame_0 C0 hST hK hP (fun pc ls hd hn => W.zret hx hb hr hn (fun t ht hW => ⟨rfl, ht⟩) (fun q h => by cases h) hd) hf (lv_sub hl [0, 1, 2] rfl))
-- ZoneFiles$Zone.beginsOther(II)Z
def f_Zone_beginsOther_25 (nf : Nat) : Option (Int32) :=
  some 0
def f_Zone_beginsOther_56 (nf : Nat) (s0 : Int32) : Option (Int32) :=
  if s0 = 0 ∨ s0 = 1 then some s0 else none
def f_Zone_beginsOther_44 (nf : Nat) (zTyc : Int32) (zOfA : Nat → Int32) (zDsA : Nat → Int32) (zIxA : Nat → Int32) (chS : Int32) (chN : Nat) (chA : Nat → Int32) (ruSo : Int32) (ruUo : Int32) (ruSp : Int32) (ruSs : Int32) (ruUp : Int32) (ruUs : Int32) (txS : Int32) (txN : Nat) (txA : Nat → Int32) (x2 : Int32) (s0 : Int32) : Option (Int32) :=
  (f_Zone_isSame nf s0 x2 zTyc zOfA zDsA zIxA chS chN chA ruSo ruUo ruSp ruSs ruUp ruUs txS txN txA).bind fun r_7 =>
  if r_7 = 0 then
  f_Zone_beginsOther_56 nf 1
  else
  f_Zone_beginsOther_56 nf 0
def f_Zone_beginsOther_0 (nf : Nat) (zTic : Int32) (zTyc : Int32) (zTiA : Nat → Int64) (zTtA : Nat → Int32) (zOfA : Nat → Int32) (zDsA : Nat → Int32) (zIxA : Nat → Int32) (chS : Int32) (chN : Nat) (chA : Nat → Int32) (ruSo : Int32) (ruUo : Int32) (ruSp : Int32) (ruSs : Int32) (ruUp : Int32) (ruUs : Int32) (txS : Int32) (txN : Nat) (txA : Nat → Int32) (x1 : Int32) (x2 : Int32) : Option (Int32) :=
  if x1 < 0 then
  f_Zone_beginsOther_25 nf
  else
  if zTic ≤ x1 then
    f_Zone_beginsOther_25 nf
    else
    if x1 < 0 ∨ 200 ≤ x1.toNatClampNeg then none else
      if (-1152921504606846975 : Int64) < (zTiA x1.toNatClampNeg) then
      if x1 = 0 then
        f_Zone_beginsOther_44 nf zTyc zOfA zDsA zIxA chS chN chA ruSo ruUo ruSp ruSs ruUp ruUs txS txN txA x2 0
        else
        if (x1 - 1) < 0 ∨ 200 ≤ (x1 - 1).toNatClampNeg then none else
          f_Zone_beginsOther_44 nf zTyc zOfA zDsA zIxA chS chN chA ruSo ruUo ruSp ruSs ruUp ruUs txS txN txA x2 (zTtA (x1 - 1).toNatClampNeg)
      else
      f_Zone_beginsOther_25 nf
def f_Zone_beginsOther (nf : Nat) (p0 : Int32) (p1 : Int32) (zTic : Int32) (zTyc : Int32) (zTiA : Nat → Int64) (zTtA : Nat → Int32) (zOfA : Nat → Int32) (zDsA : Nat → Int32) (zIxA : Nat → Int32) (chS : Int32) (chN : Nat) (chA : Nat → Int32) (ruSo : Int32) (ruUo : Int32) (ruSp : Int32) (ruSs : Int32) (ruUp : Int32) (ruUs : Int32) (txS : Int32) (txN : Nat) (txA : Nat → Int32) : Option (Int32) :=
  f_Zone_beginsOther_0 nf zTic zTyc zTiA zTtA zOfA zDsA zIxA chS chN chA ruSo ruUo ruSp ruSs ruUp ruUs txS txN txA p0 p1
section
variable {p : Program} {l : Launch} {e : Env} {R : Room} {s : State} {m : MethodId} {args : Array Value} {below : List Frame} {meth : Method} {c : Code} {Q : State → Prop} {dC : Nat → ClassId} {dI : Nat → Nat → Nat} {nf : Nat}
variable {h0 : Nat} {zTi : Nat} {zTt : Nat} {zOf : Nat} {zDs : Nat} {zIx : Nat} {zSd : Nat} {zUt : Nat} {zCh : Nat} {zLt : Nat} {zLo : Nat} {zRu : Nat} {chR : Nat} {ruT : Nat} {ruB : Nat} {ruE : Nat} {txR : Nat} {cAzTi : ClassId} {cAzTt : ClassId} {cAzOf : ClassId} {cAzDs : ClassId} {cAzIx : ClassId} {cAchR : ClassId} {cAtxR : ClassId} {zVer : Int32} {zTic : Int32} {zTyc : Int32} {zLec : Int32} {zStc : Int32} {zUtc : Int32} {zTiA : Nat → Int64} {zTtA : Nat → Int32} {zOfA : Nat → Int32} {zDsA : Nat → Int32} {zIxA : Nat → Int32} {chS : Int32} {chN : Nat} {chA : Nat → Int32} {ruHas : Int32} {ruWide : Int32} {ruSo : Int32} {ruUo : Int32} {ruSp : Int32} {ruSs : Int32} {ruUp : Int32} {ruUs : Int32} {ruNev : Int32} {txS : Int32} {txN : Nat} {txA : Nat → Int32} {r0 : Int32}
set_option maxHeartbeats 400000 in
set_option maxRecDepth 100000 in
theorem k_Zone_beginsOther_25 (C0 : Cx p s m meth c args R b_Zone_beginsOther "ZoneFiles$Zone" 3 (some .boolean) 3 68) (hST : ST (fun _ => False) s s.heap) (hK : va_K (dC, dI) classes [(cAzTi, .long), (cAzTt, .int), (cAzOf, .int), (cAzDs, .int), (cAzIx, .int), (cAchR, .byte), (cAtxR, .byte)] s) (hP : va_P (dC, dI) classes [(h0, .inr (8, [.int zVer, .int zTic, .int zTyc, .int zLec, .int zStc, .int zUtc, .ref zTi, .ref zTt, .ref zOf, .ref zDs, .ref zIx, .ref zSd, .ref zUt, .ref zCh, .ref zLt, .ref zLo, .ref zRu])), (zTi, .inl (cAzTi, 200, .inr (.inl zTiA))), (zTt, .inl (cAzTt, 200, .inl zTtA)), (zOf, .inl (cAzOf, 40, .inl zOfA)), (zDs, .inl (cAzDs, 40, .inl zDsA)), (zIx, .inl (cAzIx, 40, .inl zIxA)), (zCh, .inr (0, [.ref chR, .int chS])), (chR, .inl (cAchR, chN, .inl chA)), (zRu, .inr (5, [.ref ruT, .ref ruB, .ref ruE, .int ruHas, .int ruWide, .int ruSo, .int ruUo, .int ruSp, .int ruSs, .int ruUp, .int ruUs, .int ruNev])), (ruT, .inr (0, [.ref txR, .int txS])), (txR, .inl (cAtxR, txN, .inl txA))] s.heap) (hE : ∀ (pc : Nat) (ls : Array Slot), decode b_Zone_beginsOther pc = .ok (.ireturn, 1) → narrow .boolean (.int r0) = .int r0 → W p l e R s m args below meth c s.heap [] 0 0 Q (F0 m pc ls [.int r0])) (hf : f_Zone_beginsOther_25 nf = some r0) {ls : Array Slot} (hl : lv_has ls 3 []) : W p l e R s m args below meth c s.heap [] 0 0 Q (F0 m 25 ls []) := by
  obtain ⟨hx, hb, hr, hml, hown, hts, hlocks, hRf, hRl⟩ := id C0
  obtain ⟨tms, hZms, hTms, tmg, hZmg, hTmg, hNW⟩ := id hST
  unfold f_Zone_beginsOther_25 at hf
  refine lv_iconst (v := 0) hx hb d_Zone_beginsOther_25 (by decide) ?_
  have e := rs hf
  subst e
  exact hE _ _ d_Zone_beginsOther_26 rfl
set_option maxHeartbeats 400000 in
set_option maxRecDepth 100000 in
theorem k_Zone_beginsOther_56 (C0 : Cx p s m meth c args R b_Zone_beginsOther "ZoneFiles$Zone" 3 (some .boolean) 3 68) (hST : ST (fun _ => False) s s.heap) (hK : va_K (dC, dI) classes [(cAzTi, .long), (cAzTt, .int), (cAzOf, .int), (cAzDs, .int), (cAzIx, .int), (cAchR, .byte), (cAtxR, .byte)] s) (hP : va_P (dC, dI) classes [(h0, .inr (8, [.int zVer, .int zTic, .int zTyc, .int zLec, .int zStc, .int zUtc, .ref zTi, .ref zTt, .ref zOf, .ref zDs, .ref zIx, .ref zSd, .ref zUt, .ref zCh, .ref zLt, .ref zLo, .ref zRu])), (zTi, .inl (cAzTi, 200, .inr (.inl zTiA))), (zTt, .inl (cAzTt, 200, .inl zTtA)), (zOf, .inl (cAzOf, 40, .inl zOfA)), (zDs, .inl (cAzDs, 40, .inl zDsA)), (zIx, .inl (cAzIx, 40, .inl zIxA)), (zCh, .inr (0, [.ref chR, .int chS])), (chR, .inl (cAchR, chN, .inl chA)), (zRu, .inr (5, [.ref ruT, .ref ruB, .ref ruE, .int ruHas, .int ruWide, .int ruSo, .int ruUo, .int ruSp, .int ruSs, .int ruUp, .int ruUs, .int ruNev])), (ruT, .inr (0, [.ref txR, .int txS])), (txR, .inl (cAtxR, txN, .inl txA))] s.heap) (hE : ∀ (pc : Nat) (ls : Array Slot), decode b_Zone_beginsOther pc = .ok (.ireturn, 1) → narrow .boolean (.int r0) = .int r0 → W p l e R s m args below meth c s.heap [] 0 0 Q (F0 m pc ls [.int r0])) {s0 : Int32} (hf : f_Zone_beginsOther_56 nf s0 = some r0) {ls : Array Slot} (hl : lv_has ls 3 []) : W p l e R s m args below meth c s.heap [] 0 0 Q (F0 m 56 ls [.int s0]) := by
  obtain ⟨hx, hb, hr, hml, hown, hts, hlocks, hRf, hRl⟩ := id C0
  obtain ⟨tms, hZms, hTms, tmg, hZmg, hTmg, hNW⟩ := id hST
  unfold f_Zone_beginsOther_56 at hf
  obtain ⟨c_9, hf⟩ := it_g hf
  have e := rs hf
  subst e
  exact hE _ _ d_Zone_beginsOther_56 (nb_of c_9)
set_option maxHeartbeats 400000 in
set_option maxRecDepth 100000 in
theorem k_Zone_beginsOther_44 (C0 : Cx p s m meth c args R b_Zone_beginsOther "ZoneFiles$Zone" 3 (some .boolean) 3 68) (hST : ST (fun _ => False) s s.heap) (hK : va_K (dC, dI) classes [(cAzTi, .long), (cAzTt, .int), (cAzOf, .int), (cAzDs, .int), (cAzIx, .int), (cAchR, .byte), (cAtxR, .byte)] s) (hP : va_P (dC, dI) classes [(h0, .inr (8, [.int zVer, .int zTic, .int zTyc, .int zLec, .int zStc, .int zUtc, .ref zTi, .ref zTt, .ref zOf, .ref zDs, .ref zIx, .ref zSd, .ref zUt, .ref zCh, .ref zLt, .ref zLo, .ref zRu])), (zTi, .inl (cAzTi, 200, .inr (.inl zTiA))), (zTt, .inl (cAzTt, 200, .inl zTtA)), (zOf, .inl (cAzOf, 40, .inl zOfA)), (zDs, .inl (cAzDs, 40, .inl zDsA)), (zIx, .inl (cAzIx, 40, .inl zIxA)), (zCh, .inr (0, [.ref chR, .int chS])), (chR, .inl (cAchR, chN, .inl chA)), (zRu, .inr (5, [.ref ruT, .ref ruB, .ref ruE, .int ruHas, .int ruWide, .int ruSo, .int ruUo, .int ruSp, .int ruSs, .int ruUp, .int ruUs, .int ruNev])), (ruT, .inr (0, [.ref txR, .int txS])), (txR, .inl (cAtxR, txN, .inl txA))] s.heap) (hE : ∀ (pc : Nat) (ls : Array Slot), decode b_Zone_beginsOther pc = .ok (.ireturn, 1) → narrow .boolean (.int r0) = .int r0 → W p l e R s m args below meth c s.heap [] 0 0 Q (F0 m pc ls [.int r0])) {x2 : Int32} {s0 : Int32} (hf : f_Zone_beginsOther_44 nf zTyc zOfA zDsA zIxA chS chN chA ruSo ruUo ruSp ruSs ruUp ruUs txS txN txA x2 s0 = some r0) {ls : Array Slot} (hl : lv_has ls 3 [(2, .int x2)]) : W p l e R s m args below meth c s.heap [] 0 0 Q (F0 m 44 ls [.int s0, .ref h0]) := by
  obtain ⟨hx, hb, hr, hml, hown, hts, hlocks, hRf, hRl⟩ := id C0
  obtain ⟨tms, hZms, hTms, tmg, hZmg, hTmg, hNW⟩ := id hST
  unfold f_Zone_beginsOther_44 at hf
  refine lv_iload_n hx hb d_Zone_beginsOther_44 rfl (lv_at hl 0 rfl) ?_
  obtain ⟨r_7, hc, hf⟩ := ob hf
  refine cl_S (v := (some (.int r_7))) (st1 := [.int r_7]) (va_runV (As := [.int s0, .int x2]) (rest := []) ⟨hx, hb, hml, hown, hts⟩ (c_Zone_isSame l dC dI h0 zTi zTt zOf zDs zIx zSd zUt zCh zLt zLo zRu chR ruT ruB ruE txR cAzOf cAzDs cAzIx cAchR cAtxR nf s0 x2 zVer zTic zTyc zLec zStc zUtc zOfA zDsA zIxA chS chN chA ruHas ruWide ruSo ruUo ruSp ruSs ruUp ruUs ruNev txS txN txA hc) (cwV 2 hts (gdV m_5_146 m_4_201 m_4_202 m_1_3 m_4_203) rfl rfl rfl (by decide +kernel) ⟨Nat.le_trans (Nat.le_of_ble_eq_true rfl) hRf, Nat.le_trans (Nat.le_of_ble_eq_true rfl) hRl⟩) ((RO.pre (hP.sub (ws' := [(h0, .inr (8, [.int zVer, .int zTic, .int zTyc, .int zLec, .int zStc, .int zUtc, .ref zTi, .ref zTt, .ref zOf, .ref zDs, .ref zIx, .ref zSd, .ref zUt, .ref zCh, .ref zLt, .ref zLo, .ref zRu])), (zOf, .inl (cAzOf, 40, .inl zOfA)), (zDs, .inl (cAzDs, 40, .inl zDsA)), (zIx, .inl (cAzIx, 40, .inl zIxA)), (zCh, .inr (0, [.ref chR, .int chS])), (chR, .inl (cAchR, chN, .inl chA)), (zRu, .inr (5, [.ref ruT, .ref ruB, .ref ruE, .int ruHas, .int ruWide, .int ruSo, .int ruUo, .int ruSp, .int ruSs, .int ruUp, .int ruUs, .int ruNev])), (ruT, .inr (0, [.ref txR, .int txS])), (txR, .inl (cAtxR, txN, .inl txA))]) [0, 3, 4, 5, 6, 7, 8, 9, 10] rfl) (hK.sub (tys' := [(cAzOf, .int), (cAzDs, .int), (cAzIx, .int), (cAchR, .byte), (cAtxR, .byte)]) [2, 3, 4, 5, 6] rfl) hST).vir (va_recv (hK.sub (tys' := [(cAzOf, .int), (cAzDs, .int), (cAzIx, .int), (cAchR, .byte), (cAtxR, .byte)]) [2, 3, 4, 5, 6] rfl) (hP.sub (ws' := [(h0, .inr (8, [.int zVer, .int zTic, .int zTyc, .int zLec, .int zStc, .int zUtc, .ref zTi, .ref zTt, .ref zOf, .ref zDs, .ref zIx, .ref zSd, .ref zUt, .ref zCh, .ref zLt, .ref zLo, .ref zRu])), (zOf, .inl (cAzOf, 40, .inl zOfA)), (zDs, .inl (cAzDs, 40, .inl zDsA)), (zIx, .inl (cAzIx, 40, .inl zIxA)), (zCh, .inr (0, [.ref chR, .int chS])), (chR, .inl (cAchR, chN, .inl chA)), (zRu, .inr (5, [.ref ruT, .ref ruB, .ref ruE, .int ruHas, .int ruWide, .int ruSo, .int ruUo, .int ruSp, .int ruSs, .int ruUp, .int ruUs, .int ruNev])), (ruT, .inr (0, [.ref txR, .int txS])), (txR, .inl (cAtxR, txN, .inl txA))]) [0, 3, 4, 5, 6, 7, 8, 9, 10] rfl) (ci := 8) (q0 := 0) rfl rfl)) rfl rfl hl.1 rfl (lv_room (Nat.le_of_ble_eq_true rfl)) d_Zone_beginsOther_45 ⟨Nat.zero_le _, Nat.zero_le _⟩) rfl ?_
  refine lv_if_ne (tgt := 55) hx hb d_Zone_beginsOther_48 (by decide) (fun c_8 => ?_) (fun c_8 => ?_)
  · have hf := it_f c_8 hf
    refine lv_iconst (v := 0) hx hb d_Zone_beginsOther_55 (by decide) ?_
    exact k_Zone_beginsOther_56 C0 hST hK hP hE hf (lv_sub hl [] rfl)
  · have hf := it_t c_8 hf
    refine lv_iconst (v := 1) hx hb d_Zone_beginsOther_51 (by decide) ?_
    refine lv_goto (tgt := 56) hx hb d_Zone_beginsOther_52 (by decide) ?_
    exact k_Zone_beginsOther_56 C0 hST hK hP hE hf (lv_sub hl [] rfl)
set_option maxHeartbeats 400000 in
set_option maxRecDepth 100000 in
theorem k_Zone_beginsOther_0 (C0 : Cx p s m meth c args R b_Zone_beginsOther "ZoneFiles$Zone" 3 (some .boolean) 3 68) (hST : ST (fun _ => False) s s.heap) (hK : va_K (dC, dI) classes [(cAzTi, .long), (cAzTt, .int), (cAzOf, .int), (cAzDs, .int), (cAzIx, .int), (cAchR, .byte), (cAtxR, .byte)] s) (hP : va_P (dC, dI) classes [(h0, .inr (8, [.int zVer, .int zTic, .int zTyc, .int zLec, .int zStc, .int zUtc, .ref zTi, .ref zTt, .ref zOf, .ref zDs, .ref zIx, .ref zSd, .ref zUt, .ref zCh, .ref zLt, .ref zLo, .ref zRu])), (zTi, .inl (cAzTi, 200, .inr (.inl zTiA))), (zTt, .inl (cAzTt, 200, .inl zTtA)), (zOf, .inl (cAzOf, 40, .inl zOfA)), (zDs, .inl (cAzDs, 40, .inl zDsA)), (zIx, .inl (cAzIx, 40, .inl zIxA)), (zCh, .inr (0, [.ref chR, .int chS])), (chR, .inl (cAchR, chN, .inl chA)), (zRu, .inr (5, [.ref ruT, .ref ruB, .ref ruE, .int ruHas, .int ruWide, .int ruSo, .int ruUo, .int ruSp, .int ruSs, .int ruUp, .int ruUs, .int ruNev])), (ruT, .inr (0, [.ref txR, .int txS])), (txR, .inl (cAtxR, txN, .inl txA))] s.heap) (hE : ∀ (pc : Nat) (ls : Array Slot), decode b_Zone_beginsOther pc = .ok (.ireturn, 1) → narrow .boolean (.int r0) = .int r0 → W p l e R s m args below meth c s.heap [] 0 0 Q (F0 m pc ls [.int r0])) {x1 : Int32} {x2 : Int32} (hf : f_Zone_beginsOther_0 nf zTic zTyc zTiA zTtA zOfA zDsA zIxA chS chN chA ruSo ruUo ruSp ruSs ruUp ruUs txS txN txA x1 x2 = some r0) {ls : Array Slot} (hl : lv_has ls 3 [(0, .ref h0), (1, .int x1), (2, .int x2)]) : W p l e R s m args below meth c s.heap [] 0 0 Q (F0 m 0 ls []) := by
  obtain ⟨hx, hb, hr, hml, hown, hts, hlocks, hRf, hRl⟩ := id C0
  obtain ⟨tms, hZms, hTms, tmg, hZmg, hTmg, hNW⟩ := id hST
  unfold f_Zone_beginsOther_0 at hf
  refine lv_iload_n hx hb d_Zone_beginsOther_0 rfl (lv_at hl 1 rfl) ?_
  refine lv_if_lt (tgt := 25) hx hb d_Zone_beginsOther_1 (by decide) (fun c_1 => ?_) (fun c_1 => ?_)
  · have hf := it_t c_1 hf
    exact k_Zone_beginsOther_25 C0 hST hK hP hE hf (lv_sub hl [] rfl)
  · have hf := it_f c_1 hf
    refine lv_iload_n hx hb d_Zone_beginsOther_4 rfl (lv_at hl 1 rfl) ?_
    refine lv_aload_n hx hb d_Zone_beginsOther_5 rfl (lv_at hl 0 rfl) ?_
    refine va_get (D := (dC, dI)) (ci := 8) (v := .int zTic) (C := RZone) (T := TZone) (N := 17) hx hb hts in_Zone hown hK hP 0 rfl rfl 1 (by decide) (hts (.fieldLink "ZoneFiles$Zone" 75 "ZoneFiles$Zone" "timeCount" "I") m_1_166) (fun _ h9 => h9) rfl d_Zone_beginsOther_6 ?_
    refine lv_icmp_ge (tgt := 25) hx hb d_Zone_beginsOther_9 (by decide) (fun c_2 => ?_) (fun c_2 => ?_)
    · have hf := it_t c_2 hf
      exact k_Zone_beginsOther_25 C0 hST hK hP hE hf (lv_sub hl [] rfl)
    · have hf := it_f c_2 hf
      refine lv_aload_n hx hb d_Zone_beginsOther_12 rfl (lv_at hl 0 rfl) ?_
      refine va_get (D := (dC, dI)) (ci := 8) (v := .ref zTi) (C := RZone) (T := TZone) (N := 17) hx hb hts in_Zone hown hK hP 0 rfl rfl 6 (by decide) (hts (.fieldLink "ZoneFiles$Zone" 9 "ZoneFiles$Zone" "times" "[J") m_1_186) (fun _ h9 => h9) rfl d_Zone_beginsOther_13 ?_
      refine lv_iload_n hx hb d_Zone_beginsOther_16 rfl (lv_at hl 1 rfl) ?_
      obtain ⟨c_3, hf⟩ := it_n hf
      refine va_lald hx hb hK hP 1 0 rfl rfl c_3 d_Zone_beginsOther_17 ?_
      refine lv_ldc2 (v := (-1152921504606846975)) hx hb hown (hts (.constantLong "ZoneFiles$Zone" 165 (-1152921504606846975)) m_5_145) d_Zone_beginsOther_18 ?_
      refine lc_gt (tgt := 27) hx hb d_Zone_beginsOther_21 d_Zone_beginsOther_22 (by decide) (fun c_4 => ?_) (fun c_4 => ?_)
      · have hf := it_t c_4 hf
        refine lv_aload_n hx hb d_Zone_beginsOther_27 rfl (lv_at hl 0 rfl) ?_
        refine lv_iload_n hx hb d_Zone_beginsOther_28 rfl (lv_at hl 1 rfl) ?_
        refine lv_if_ne (tgt := 36) hx hb d_Zone_beginsOther_29 (by decide) (fun c_5 => ?_) (fun c_5 => ?_)
        · have hf := it_f c_5 hf
          refine lv_aload_n hx hb d_Zone_beginsOther_36 rfl (lv_at hl 0 rfl) ?_
          refine va_get (D := (dC, dI)) (ci := 8) (v := .ref zTt) (C := RZone) (T := TZone) (N := 17) hx hb hts in_Zone hown hK hP 0 rfl rfl 7 (by decide) (hts (.fieldLink "ZoneFiles$Zone" 15 "ZoneFiles$Zone" "timeTypes" "[I") m_1_190) (fun _ h9 => h9) rfl d_Zone_beginsOther_37 ?_
          refine lv_iload_n hx hb d_Zone_beginsOther_40 rfl (lv_at hl 1 rfl) ?_
          refine lv_iconst (v := 1) hx hb d_Zone_beginsOther_41 (by decide) ?_
          refine lv_isub hx hb d_Zone_beginsOther_42 ?_
          obtain ⟨c_6, hf⟩ := it_n hf
          refine va_iald hx hb hK hP 2 1 rfl rfl c_6 d_Zone_beginsOther_43 ?_
          exact k_Zone_beginsOther_44 C0 hST hK hP hE hf (lv_sub hl [2] rfl)
        · have hf := it_t c_5 hf
          refine lv_iconst (v := 0) hx hb d_Zone_beginsOther_32 (by decide) ?_
          refine lv_goto (tgt := 44) hx hb d_Zone_beginsOther_33 (by decide) ?_
          exact k_Zone_beginsOther_44 C0 hST hK hP hE hf (lv_sub hl [2] rfl)
      · have hf := it_f c_4 hf
        exact k_Zone_beginsOther_25 C0 hST hK hP hE hf (lv_sub hl [] rfl)
end
set_option maxHeartbeats 400000 in
set_option maxRecDepth 100000 in
theorem c_Zone_beginsOther (l : Launch) (dC : Nat → ClassId) (dI : Nat → Nat → Nat) (h0 : Nat) (zTi : Nat) (zTt : Nat) (zOf : Nat) (zDs : Nat) (zIx : Nat) (zSd : Nat) (zUt : Nat) (zCh : Nat) (zLt : Nat) (zLo : Nat) (zRu : Nat) (chR : Nat) (ruT : Nat) (ruB : Nat) (ruE : Nat) (txR : Nat) (cAzTi : ClassId) (cAzTt : ClassId) (cAzOf : ClassId) (cAzDs : ClassId) (cAzIx : ClassId) (cAchR : ClassId) (cAtxR : ClassId) (nf : Nat) (p0 : Int32) (p1 : Int32) (zVer : Int32) (zTic : Int32) (zTyc : Int32) (zLec : Int32) (zStc : Int32) (zUtc : Int32) (zTiA : Nat → Int64) (zTtA : Nat → Int32) (zOfA : Nat → Int32) (zDsA : Nat → Int32) (zIxA : Nat → Int32) (chS : Int32) (chN : Nat) (chA : Nat → Int32) (ruHas : Int32) (ruWide : Int32) (ruSo : Int32) (ruUo : Int32) (ruSp : Int32) (ruSs : Int32) (ruUp : Int32) (ruUs : Int32) (ruNev : Int32) (txS : Int32) (txN : Nat) (txA : Nat → Int32) {r0 : Int32} (hf : f_Zone_beginsOther nf p0 p1 zTic zTyc zTiA zTtA zOfA zDsA zIxA chS chN chA ruSo ruUo ruSp ruSs ruUp ruUs txS txN txA = some r0) : Met l y_Zone_beginsOther (wd y_Zone_beginsOther b_Zone_beginsOther 3 (some .boolean)) ({ frames := 3, cells := 0, slots := 0, locals := 68 }) (RO dC dI [(h0, .inr (8, [.int zVer, .int zTic, .int zTyc, .int zLec, .int zStc, .int zUtc, .ref zTi, .ref zTt, .ref zOf, .ref zDs, .ref zIx, .ref zSd, .ref zUt, .ref zCh, .ref zLt, .ref zLo, .ref zRu])), (zTi, .inl (cAzTi, 200, .inr (.inl zTiA))), (zTt, .inl (cAzTt, 200, .inl zTtA)), (zOf, .inl (cAzOf, 40, .inl zOfA)), (zDs, .inl (cAzDs, 40, .inl zDsA)), (zIx, .inl (cAzIx, 40, .inl zIxA)), (zCh, .inr (0, [.ref chR, .int chS])), (chR, .inl (cAchR, chN, .inl chA)), (zRu, .inr (5, [.ref ruT, .ref ruB, .ref ruE, .int ruHas, .int ruWide, .int ruSo, .int ruUo, .int ruSp, .int ruSs, .int ruUp, .int ruUs, .int ruNev])), (ruT, .inr (0, [.ref txR, .int txS])), (txR, .inl (cAtxR, txN, .inl txA))] [(cAzTi, .long), (cAzTt, .int), (cAzOf, .int), (cAzDs, .int), (cAzIx, .int), (cAchR, .byte), (cAtxR, .byte)] [.ref h0, .int p0, .int p1]) (SV (some (.int r0))) 0 0 (fun _ => False) :=
  met_S (plainFor_of_name (by decide)) (Nat.le_of_ble_eq_true rfl) (fun p e R s m args below meth c ls C0 hST hK hP hl => by
    obtain ⟨hx, hb, hr, hml, hown, hts, hlocks, hRf, hRl⟩ := id C0
    unfold f_Zone_beginsOther at hf
    exact k_Zone_beginsOther_0 C0 hST hK hP (fun pc ls hd hn => W.zret hx hb hr hn (fun t ht hW => ⟨rfl, ht⟩) (fun q h => by cases h) hd) hf (lv_sub hl [0, 1, 2] rfl))
-- ZoneFiles$Zone.fitsFourBytes()Z
def f_Zone_fitsFourBytes_38 (nf : Nat) (zLec : Int32) (zLtA : Nat → Int64) : Nat → Int32 → Option (Int32)
  | 0, _ => none
  | n + 1, x1 =>
    if zLec ≤ x1 then
    some 1
    else
    if x1 < 0 ∨ 40 ≤ x1.toNatClampNeg then none else
      if x1 < 0 ∨ 40 ≤ x1.toNatClampNeg then none else
      if (zLtA x1.toNatClampNeg) = (((zLtA x1.toNatClampNeg).toInt32).toInt64) then
      f_Zone_fitsFourBytes_38 nf zLec zLtA n (x1 + 1)
      else
      some 0
def f_Zone_fitsFourBytes_2 (nf : Nat) (zTic : Int32) (zLec : Int32) (zTiA : Nat → Int64) (zLtA : Nat → Int64) : Nat → Int32 → Option (Int32)
  | 0, _ => none
  | n + 1, x1 =>
    if zTic ≤ x1 then
    f_Zone_fitsFourBytes_38 nf zLec zLtA nf 0
    else
    if x1 < 0 ∨ 200 ≤ x1.toNatClampNeg then none else
      if x1 < 0 ∨ 200 ≤ x1.toNatClampNeg then none else
      if (zTiA x1.toNatClampNeg) = (((zTiA x1.toNatClampNeg).toInt32).toInt64) then
      f_Zone_fitsFourBytes_2 nf zTic zLec zTiA zLtA n (x1 + 1)
      else
      some 0
def f_Zone_fitsFourBytes_0 (nf : Nat) (zTic : Int32) (zLec : Int32) (zTiA : Nat → Int64) (zLtA : Nat → Int64) : Option (Int32) :=
  f_Zone_fitsFourBytes_2 nf zTic zLec zTiA zLtA nf 0
def f_Zone_fitsFourBytes (nf : Nat) (zTic : Int32) (zLec : Int32) (zTiA : Nat → Int64) (zLtA : Nat → Int64) : Option (Int32) :=
  f_Zone_fitsFourBytes_0 nf zTic zLec zTiA zLtA
section
variable {p : Program} {l : Launch} {e : Env} {R : Room} {s : State} {m : MethodId} {args : Array Value} {below : List Frame} {meth : Method} {c : Code} {Q : State → Prop} {dC : Nat → ClassId} {dI : Nat → Nat → Nat} {nf : Nat}
variable {h0 : Nat} {zTi : Nat} {zTt : Nat} {zOf : Nat} {zDs : Nat} {zIx : Nat} {zSd : Nat} {zUt : Nat} {zCh : Nat} {zLt : Nat} {zLo : Nat} {zRu : Nat} {cAzTi : ClassId} {cAzLt : ClassId} {zVer : Int32} {zTic : Int32} {zTyc : Int32} {zLec : Int32} {zStc : Int32} {zUtc : Int32} {zTiA : Nat → Int64} {zLtA : Nat → Int64} {r0 : Int32}
set_option maxHeartbeats 400000 in
set_option maxRecDepth 100000 in
theorem k_Zone_fitsFourBytes_38 (C0 : Cx p s m meth c args R b_Zone_fitsFourBytes "ZoneFiles$Zone" 2 (some .boolean) 0 0) (hST : ST (fun _ => False) s s.heap) (hK : va_K (dC, dI) classes [(cAzTi, .long), (cAzLt, .long)] s) (hP : va_P (dC, dI) classes [(h0, .inr (8, [.int zVer, .int zTic, .int zTyc, .int zLec, .int zStc, .int zUtc, .ref zTi, .ref zTt, .ref zOf, .ref zDs, .ref zIx, .ref zSd, .ref zUt, .ref zCh, .ref zLt, .ref zLo, .ref zRu])), (zTi, .inl (cAzTi, 200, .inr (.inl zTiA))), (zLt, .inl (cAzLt, 40, .inr (.inl zLtA)))] s.heap) (hE : ∀ (pc : Nat) (ls : Array Slot), decode b_Zone_fitsFourBytes pc = .ok (.ireturn, 1) → narrow .boolean (.int r0) = .int r0 → W p l e R s m args below meth c s.heap [] 0 0 Q (F0 m pc ls [.int r0])) : ∀ (n : Nat) {x1 : Int32}, f_Zone_fitsFourBytes_38 nf zLec zLtA n x1 = some r0 → ∀ {ls : Array Slot}, lv_has ls 2 [(1, .int x1), (0, .ref h0)] → W p l e R s m args below meth c s.heap [] 0 0 Q (F0 m 38 ls []) := by
  obtain ⟨hx, hb, hr, hml, hown, hts, hlocks, hRf, hRl⟩ := id C0
  obtain ⟨tms, hZms, hTms, tmg, hZmg, hTmg, hNW⟩ := id hST
  intro n
  induction n with
  | zero =>
    intro x1 hf
    exact absurd hf (by simp [f_Zone_fitsFourBytes_38])
  | succ n ih =>
    intro x1 hf ls hl
    unfold f_Zone_fitsFourBytes_38 at hf
    refine lv_iload_n hx hb d_Zone_fitsFourBytes_38 rfl (lv_at hl 0 rfl) ?_
    refine lv_aload_n hx hb d_Zone_fitsFourBytes_39 rfl (lv_at hl 1 rfl) ?_
    refine va_get (D := (dC, dI)) (ci := 8) (v := .int zLec) (C := RZone) (T := TZone) (N := 17) hx hb hts in_Zone hown hK hP 0 rfl rfl 3 (by decide) (hts (.fieldLink "ZoneFiles$Zone" 81 "ZoneFiles$Zone" "leapCount" "I") m_1_174) (fun _ h9 => h9) rfl d_Zone_fitsFourBytes_40 ?_
    refine lv_icmp_ge (tgt := 72) hx hb d_Zone_fitsFourBytes_43 (by decide) (fun c_2 => ?_) (fun c_2 => ?_)
    · have hf := it_t c_2 hf
      refine lv_iconst (v := 1) hx hb d_Zone_fitsFourBytes_72 (by decide) ?_
      have e := rs hf
      subst e
      exact hE _ _ d_Zone_fitsFourBytes_73 rfl
    · have hf := it_f c_2 hf
      refine lv_aload_n hx hb d_Zone_fitsFourBytes_46 rfl (lv_at hl 1 rfl) ?_
      refine va_get (D := (dC, dI)) (ci := 8) (v := .ref zLt) (C := RZone) (T := TZone) (N := 17) hx hb hts in_Zone hown hK hP 0 rfl rfl 14 (by decide) (hts (.fieldLink "ZoneFiles$Zone" 43 "ZoneFiles$Zone" "leapTimes" "[J") m_1_218) (fun _ h9 => h9) rfl d_Zone_fitsFourBytes_47 ?_
      refine lv_iload_n hx hb d_Zone_fitsFourBytes_50 rfl (lv_at hl 0 rfl) ?_
      obtain ⟨c_3, hf⟩ := it_n hf
      refine va_lald hx hb hK hP 2 1 rfl rfl c_3 d_Zone_fitsFourBytes_51 ?_
      refine lv_aload_n hx hb d_Zone_fitsFourBytes_52 rfl (lv_at hl 1 rfl) ?_
      refine va_get (D := (dC, dI)) (ci := 8) (v := .ref zLt) (C := RZone) (T := TZone) (N := 17) hx hb hts in_Zone hown hK hP 0 rfl rfl 14 (by decide) (hts (.fieldLink "ZoneFiles$Zone" 43 "ZoneFiles$Zone" "leapTimes" "[J") m_1_218) (fun _ h9 => h9) rfl d_Zone_fitsFourBytes_53 ?_
      refine lv_iload_n hx hb d_Zone_fitsFourBytes_56 rfl (lv_at hl 0 rfl) ?_
      obtain ⟨c_4, hf⟩ := it_n hf
      refine va_lald hx hb hK hP 2 1 rfl rfl c_4 d_Zone_fitsFourBytes_57 ?_
      refine lv_l2i hx hb d_Zone_fitsFourBytes_58 rfl ?_
      refine lv_i2l hx hb d_Zone_fitsFourBytes_59 rfl ?_
      refine lc_eq (tgt := 66) hx hb d_Zone_fitsFourBytes_60 d_Zone_fitsFourBytes_61 (by decide) (fun c_5 => ?_) (fun c_5 => ?_)
      · have hf := it_t c_5 hf
        refine lv_iinc (v := x1 + 1) (lv' := [(1, .int (x1 + 1)), (0, .ref h0)]) hx hb d_Zone_fitsFourBytes_66 hl (k := 0) rfl rfl (by decide) rfl (fun ls hl => ?_)
        refine lv_goto (tgt := 38) hx hb d_Zone_fitsFourBytes_69 (by decide) ?_
        exact ih hf (lv_sub hl [0, 1] rfl)
      · have hf := it_f c_5 hf
        refine lv_iconst (v := 0) hx hb d_Zone_fitsFourBytes_64 (by decide) ?_
        have e := rs hf
        subst e
        exact hE _ _ d_Zone_fitsFourBytes_65 rfl
set_option maxHeartbeats 400000 in
set_option maxRecDepth 100000 in
theorem k_Zone_fitsFourBytes_2 (C0 : Cx p s m meth c args R b_Zone_fitsFourBytes "ZoneFiles$Zone" 2 (some .boolean) 0 0) (hST : ST (fun _ => False) s s.heap) (hK : va_K (dC, dI) classes [(cAzTi, .long), (cAzLt, .long)] s) (hP : va_P (dC, dI) classes [(h0, .inr (8, [.int zVer, .int zTic, .int zTyc, .int zLec, .int zStc, .int zUtc, .ref zTi, .ref zTt, .ref zOf, .ref zDs, .ref zIx, .ref zSd, .ref zUt, .ref zCh, .ref zLt, .ref zLo, .ref zRu])), (zTi, .inl (cAzTi, 200, .inr (.inl zTiA))), (zLt, .inl (cAzLt, 40, .inr (.inl zLtA)))] s.heap) (hE : ∀ (pc : Nat) (ls : Array Slot), decode b_Zone_fitsFourBytes pc = .ok (.ireturn, 1) → narrow .boolean (.int r0) = .int r0 → W p l e R s m args below meth c s.heap [] 0 0 Q (F0 m pc ls [.int r0])) : ∀ (n : Nat) {x1 : Int32}, f_Zone_fitsFourBytes_2 nf zTic zLec zTiA zLtA n x1 = some r0 → ∀ {ls : Array Slot}, lv_has ls 2 [(1, .int x1), (0, .ref h0)] → W p l e R s m args below meth c s.heap [] 0 0 Q (F0 m 2 ls []) := by
  obtain ⟨hx, hb, hr, hml, hown, hts, hlocks, hRf, hRl⟩ := id C0
  obtain ⟨tms, hZms, hTms, tmg, hZmg, hTmg, hNW⟩ := id hST
  intro n
  induction n with
  | zero =>
    intro x1 hf
    exact absurd hf (by simp [f_Zone_fitsFourBytes_2])
  | succ n ih =>
    intro x1 hf ls hl
    unfold f_Zone_fitsFourBytes_2 at hf
    refine lv_iload_n hx hb d_Zone_fitsFourBytes_2 rfl (lv_at hl 0 rfl) ?_
    refine lv_aload_n hx hb d_Zone_fitsFourBytes_3 rfl (lv_at hl 1 rfl) ?_
    refine va_get (D := (dC, dI)) (ci := 8) (v := .int zTic) (C := RZone) (T := TZone) (N := 17) hx hb hts in_Zone hown hK hP 0 rfl rfl 1 (by decide) (hts (.fieldLink "ZoneFiles$Zone" 75 "ZoneFiles$Zone" "timeCount" "I") m_1_166) (fun _ h9 => h9) rfl d_Zone_fitsFourBytes_4 ?_
    refine lv_icmp_ge (tgt := 36) hx hb d_Zone_fitsFourBytes_7 (by decide) (fun c_1 => ?_) (fun c_1 => ?_)
    · have hf := it_t c_1 hf
      refine lv_iconst (v := 0) hx hb d_Zone_fitsFourBytes_36 (by decide) ?_
      refine lv_istore_n (lv' := [(1, .int 0), (0, .ref h0)]) hx hb d_Zone_fitsFourBytes_37 rfl hl (by decide) rfl (fun ls hl => ?_)
      exact k_Zone_fitsFourBytes_38 C0 hST hK hP hE nf hf (lv_sub hl [0, 1] rfl)
    · have hf := it_f c_1 hf
      refine lv_aload_n hx hb d_Zone_fitsFourBytes_10 rfl (lv_at hl 1 rfl) ?_
      refine va_get (D := (dC, dI)) (ci := 8) (v := .ref zTi) (C := RZone) (T := TZone) (N := 17) hx hb hts in_Zone hown hK hP 0 rfl rfl 6 (by decide) (hts (.fieldLink "ZoneFiles$Zone" 9 "ZoneFiles$Zone" "times" "[J") m_1_186) (fun _ h9 => h9) rfl d_Zone_fitsFourBytes_11 ?_
      refine lv_iload_n hx hb d_Zone_fitsFourBytes_14 rfl (lv_at hl 0 rfl) ?_
      obtain ⟨c_6, hf⟩ := it_n hf
      refine va_lald hx hb hK hP 1 0 rfl rfl c_6 d_Zone_fitsFourBytes_15 ?_
      refine lv_aload_n hx hb d_Zone_fitsFourBytes_16 rfl (lv_at hl 1 rfl) ?_
      refine va_get (D := (dC, dI)) (ci := 8) (v := .ref zTi) (C := RZone) (T := TZone) (N := 17) hx hb hts in_Zone hown hK hP 0 rfl rfl 6 (by decide) (hts (.fieldLink "ZoneFiles$Zone" 9 "ZoneFiles$Zone" "times" "[J") m_1_186) (fun _ h9 => h9) rfl d_Zone_fitsFourBytes_17 ?_
      refine lv_iload_n hx hb d_Zone_fitsFourBytes_20 rfl (lv_at hl 0 rfl) ?_
      obtain ⟨c_7, hf⟩ := it_n hf
      refine va_lald hx hb hK hP 1 0 rfl rfl c_7 d_Zone_fitsFourBytes_21 ?_
      refine lv_l2i hx hb d_Zone_fitsFourBytes_22 rfl ?_
      refine lv_i2l hx hb d_Zone_fitsFourBytes_23 rfl ?_
      refine lc_eq (tgt := 30) hx hb d_Zone_fitsFourBytes_24 d_Zone_fitsFourBytes_25 (by decide) (fun c_8 => ?_) (fun c_8 => ?_)
      · have hf := it_t c_8 hf
        refine lv_iinc (v := x1 + 1) (lv' := [(1, .int (x1 + 1)), (0, .ref h0)]) hx hb d_Zone_fitsFourBytes_30 hl (k := 0) rfl rfl (by decide) rfl (fun ls hl => ?_)
        refine lv_goto (tgt := 2) hx hb d_Zone_fitsFourBytes_33 (by decide) ?_
        exact ih hf (lv_sub hl [0, 1] rfl)
      · have hf := it_f c_8 hf
        refine lv_iconst (v := 0) hx hb d_Zone_fitsFourBytes_28 (by decide) ?_
        have e := rs hf
        subst e
        exact hE _ _ d_Zone_fitsFourBytes_29 rfl
set_option maxHeartbeats 400000 in
set_option maxRecDepth 100000 in
theorem k_Zone_fitsFourBytes_0 (C0 : Cx p s m meth c args R b_Zone_fitsFourBytes "ZoneFiles$Zone" 2 (some .boolean) 0 0) (hST : ST (fun _ => False) s s.heap) (hK : va_K (dC, dI) classes [(cAzTi, .long), (cAzLt, .long)] s) (hP : va_P (dC, dI) classes [(h0, .inr (8, [.int zVer, .int zTic, .int zTyc, .int zLec, .int zStc, .int zUtc, .ref zTi, .ref zTt, .ref zOf, .ref zDs, .ref zIx, .ref zSd, .ref zUt, .ref zCh, .ref zLt, .ref zLo, .ref zRu])), (zTi, .inl (cAzTi, 200, .inr (.inl zTiA))), (zLt, .inl (cAzLt, 40, .inr (.inl zLtA)))] s.heap) (hE : ∀ (pc : Nat) (ls : Array Slot), decode b_Zone_fitsFourBytes pc = .ok (.ireturn, 1) → narrow .boolean (.int r0) = .int r0 → W p l e R s m args below meth c s.heap [] 0 0 Q (F0 m pc ls [.int r0])) (hf : f_Zone_fitsFourBytes_0 nf zTic zLec zTiA zLtA = some r0) {ls : Array Slot} (hl : lv_has ls 2 [(0, .ref h0)]) : W p l e R s m args below meth c s.heap [] 0 0 Q (F0 m 0 ls []) := by
  obtain ⟨hx, hb, hr, hml, hown, hts, hlocks, hRf, hRl⟩ := id C0
  obtain ⟨tms, hZms, hTms, tmg, hZmg, hTmg, hNW⟩ := id hST
  unfold f_Zone_fitsFourBytes_0 at hf
  refine lv_iconst (v := 0) hx hb d_Zone_fitsFourBytes_0 (by decide) ?_
  refine lv_istore_n (lv' := [(1, .int 0), (0, .ref h0)]) hx hb d_Zone_fitsFourBytes_1 rfl hl (by decide) rfl (fun ls hl => ?_)
  exact k_Zone_fitsFourBytes_2 C0 hST hK hP hE nf hf (lv_sub hl [0, 1] rfl)
end
set_option maxHeartbeats 400000 in
set_option maxRecDepth 100000 in
theorem c_Zone_fitsFourBytes (l : Launch) (dC : Nat → ClassId) (dI : Nat → Nat → Nat) (h0 : Nat) (zTi : Nat) (zTt : Nat) (zOf : Nat) (zDs : Nat) (zIx : Nat) (zSd : Nat) (zUt : Nat) (zCh : Nat) (zLt : Nat) (zLo : Nat) (zRu : Nat) (cAzTi : ClassId) (cAzLt : ClassId) (nf : Nat) (zVer : Int32) (zTic : Int32) (zTyc : Int32) (zLec : Int32) (zStc : Int32) (zUtc : Int32) (zTiA : Nat → Int64) (zLtA : Nat → Int64) {r0 : Int32} (hf : f_Zone_fitsFourBytes nf zTic zLec zTiA zLtA = some r0) : Met l y_Zone_fitsFourBytes (wd y_Zone_fitsFourBytes b_Zone_fitsFourBytes 2 (some .boolean)) ({ frames := 0, cells := 0, slots := 0, locals := 0 }) (RO dC dI [(h0, .inr (8, [.int zVer, .int zTic, .int zTyc, .int zLec, .int zStc, .int zUtc, .ref zTi, .ref zTt, .ref zOf, .ref zDs, .ref zIx, .ref zSd, .ref zUt, .ref zCh, .ref zLt, .ref zLo, .ref zRu])), (zTi, .inl (cAzTi, 200, .inr (.inl zTiA))), (zLt, .inl (cAzLt, 40, .inr (.inl zLtA)))] [(cAzTi, .long), (cAzLt, .long)] [.ref h0]) (SV (some (.int r0))) 0 0 (fun _ => False) :=
  met_S (plainFor_of_name (by decide)) (Nat.le_of_ble_eq_true rfl) (fun p e R s m args below meth c ls C0 hST hK hP hl => by
    obtain ⟨hx, hb, hr, hml, hown, hts, hlocks, hRf, hRl⟩ := id C0
    unfold f_Zone_fitsFourBytes at hf
    exact k_Zone_fitsFourBytes_0 C0 hST hK hP (fun pc ls hd hn => W.zret hx hb hr hn (fun t ht hW => ⟨rfl, ht⟩) (fun q h => by cases h) hd) hf (lv_sub hl [0] rfl))
