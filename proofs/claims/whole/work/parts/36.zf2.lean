theorem m_1_105 : Cond.fieldLink "ZoneFiles" 156 "ZoneFiles$Rule" "text" "LZoneFiles$Bytes;" ∈ T0 := tb_1 105 rfl rfl
theorem m_1_165 : Cond.fieldLink "ZoneFiles" 135 "ZoneFiles$Zone" "version" "I" ∈ T0 := tb_1 165 rfl rfl
theorem m_1_169 : Cond.fieldLink "ZoneFiles" 138 "ZoneFiles$Zone" "timeCount" "I" ∈ T0 := tb_1 169 rfl rfl
theorem m_1_172 : Cond.fieldLink "ZoneFiles" 141 "ZoneFiles$Zone" "typeCount" "I" ∈ T0 := tb_1 172 rfl rfl
theorem m_1_176 : Cond.fieldLink "ZoneFiles" 147 "ZoneFiles$Zone" "leapCount" "I" ∈ T0 := tb_1 176 rfl rfl
theorem m_1_180 : Cond.fieldLink "ZoneFiles" 150 "ZoneFiles$Zone" "stdCount" "I" ∈ T0 := tb_1 180 rfl rfl
theorem m_1_184 : Cond.fieldLink "ZoneFiles" 153 "ZoneFiles$Zone" "utCount" "I" ∈ T0 := tb_1 184 rfl rfl
theorem m_1_189 : Cond.fieldLink "ZoneFiles" 170 "ZoneFiles$Zone" "times" "[J" ∈ T0 := tb_1 189 rfl rfl
theorem m_1_193 : Cond.fieldLink "ZoneFiles" 173 "ZoneFiles$Zone" "timeTypes" "[I" ∈ T0 := tb_1 193 rfl rfl
theorem m_1_196 : Cond.fieldLink "ZoneFiles" 177 "ZoneFiles$Zone" "offsets" "[I" ∈ T0 := tb_1 196 rfl rfl
theorem m_1_200 : Cond.fieldLink "ZoneFiles" 180 "ZoneFiles$Zone" "dsts" "[I" ∈ T0 := tb_1 200 rfl rfl
theorem m_1_204 : Cond.fieldLink "ZoneFiles" 183 "ZoneFiles$Zone" "indexes" "[I" ∈ T0 := tb_1 204 rfl rfl
theorem m_1_208 : Cond.fieldLink "ZoneFiles" 189 "ZoneFiles$Zone" "stds" "[I" ∈ T0 := tb_1 208 rfl rfl
theorem m_1_212 : Cond.fieldLink "ZoneFiles" 192 "ZoneFiles$Zone" "uts" "[I" ∈ T0 := tb_1 212 rfl rfl
theorem m_1_216 : Cond.fieldLink "ZoneFiles" 144 "ZoneFiles$Zone" "chars" "LZoneFiles$Bytes;" ∈ T0 := tb_1 216 rfl rfl
theorem m_1_220 : Cond.fieldLink "ZoneFiles" 200 "ZoneFiles$Zone" "leapTimes" "[J" ∈ T0 := tb_1 220 rfl rfl
theorem m_1_224 : Cond.fieldLink "ZoneFiles" 203 "ZoneFiles$Zone" "leapCorrections" "[I" ∈ T0 := tb_1 224 rfl rfl
theorem m_1_229 : Cond.fieldLink "ZoneFiles" 108 "ZoneFiles$Zone" "rule" "LZoneFiles$Rule;" ∈ T0 := tb_1 229 rfl rfl
theorem m_2_119 : Cond.fieldLink "ZoneFiles" 23 "ZoneFiles" "zones" "[LZoneFiles$Zone;" ∈ T0 := tb_2 119 rfl rfl
theorem m_3_131 : Cond.methodLink "ZoneFiles" 71 ⟨"ZoneFiles", "checkZone", "(I)V"⟩ ∈ T0 := tb_3 131 rfl rfl
theorem m_3_132 : Cond.static ⟨"ZoneFiles", "checkZone", "(I)V"⟩ ∈ T0 := tb_3 132 rfl rfl
theorem m_3_133 : Cond.code ⟨"ZoneFiles", "checkZone", "(I)V"⟩ prog_1_method_30_code 1 none ∈ T0 := tb_3 133 rfl rfl
theorem m_5_12 : Cond.methodLink "ZoneFiles" 186 ⟨"ZoneFiles$Zone", "nameSize", "(I)I"⟩ ∈ T0 := tb_5 12 rfl rfl
theorem m_5_41 : Cond.methodLink "ZoneFiles" 210 ⟨"ZoneFiles$Zone", "stateAt", "(J)I"⟩ ∈ T0 := tb_5 41 rfl rfl
theorem m_5_42 : Cond.constant "ZoneFiles" 214 (-2147483648) ∈ T0 := tb_5 42 rfl rfl
theorem m_5_43 : Cond.methodLink "ZoneFiles" 215 ⟨"ZoneFiles$Zone", "offsetOf", "(I)I"⟩ ∈ T0 := tb_5 43 rfl rfl
theorem m_5_44 : Cond.methodLink "ZoneFiles" 218 ⟨"ZoneFiles$Zone", "dstOf", "(I)I"⟩ ∈ T0 := tb_5 44 rfl rfl
theorem m_5_69 : Cond.methodLink "ZoneFiles" 226 ⟨"ZoneFiles$Zone", "nameByte", "(II)I"⟩ ∈ T0 := tb_5 69 rfl rfl
abbrev b_ZF_zone : ByteArray := prog_1_method_7_code
def y_ZF_zone : MethodName := ⟨"ZoneFiles", "zone", "(II)I"⟩
theorem d_ZF_zone_0 : decode b_ZF_zone 0 = .ok (.iload_n 1, 1) := by decide +kernel
theorem d_ZF_zone_1 : decode b_ZF_zone 1 = .ok (.invokestatic 71, 3) := by decide +kernel
theorem d_ZF_zone_4 : decode b_ZF_zone 4 = .ok (.aload_n 0, 1) := by decide +kernel
theorem d_ZF_zone_5 : decode b_ZF_zone 5 = .ok (.getfield 23, 3) := by decide +kernel
theorem d_ZF_zone_8 : decode b_ZF_zone 8 = .ok (.iload_n 1, 1) := by decide +kernel
theorem d_ZF_zone_9 : decode b_ZF_zone 9 = .ok (.aaload, 1) := by decide +kernel
theorem d_ZF_zone_10 : decode b_ZF_zone 10 = .ok (.astore_n 3, 1) := by decide +kernel
theorem d_ZF_zone_11 : decode b_ZF_zone 11 = .ok (.iload_n 2, 1) := by decide +kernel
theorem d_ZF_zone_12 : decode b_ZF_zone 12 = .ok (.tableswitch 97 0 7 #[48, 53, 58, 63, 71, 76, 81, 86], 48) := by decide +kernel
theorem d_ZF_zone_60 : decode b_ZF_zone 60 = .ok (.aload_n 3, 1) := by decide +kernel
theorem d_ZF_zone_61 : decode b_ZF_zone 61 = .ok (.getfield 135, 3) := by decide +kernel
theorem d_ZF_zone_64 : decode b_ZF_zone 64 = .ok (.ireturn, 1) := by decide +kernel
theorem d_ZF_zone_65 : decode b_ZF_zone 65 = .ok (.aload_n 3, 1) := by decide +kernel
theorem d_ZF_zone_66 : decode b_ZF_zone 66 = .ok (.getfield 138, 3) := by decide +kernel
theorem d_ZF_zone_69 : decode b_ZF_zone 69 = .ok (.ireturn, 1) := by decide +kernel
theorem d_ZF_zone_70 : decode b_ZF_zone 70 = .ok (.aload_n 3, 1) := by decide +kernel
theorem d_ZF_zone_71 : decode b_ZF_zone 71 = .ok (.getfield 141, 3) := by decide +kernel
theorem d_ZF_zone_74 : decode b_ZF_zone 74 = .ok (.ireturn, 1) := by decide +kernel
theorem d_ZF_zone_75 : decode b_ZF_zone 75 = .ok (.aload_n 3, 1) := by decide +kernel
theorem d_ZF_zone_76 : decode b_ZF_zone 76 = .ok (.getfield 144, 3) := by decide +kernel
theorem d_ZF_zone_79 : decode b_ZF_zone 79 = .ok (.getfield 63, 3) := by decide +kernel
theorem d_ZF_zone_82 : decode b_ZF_zone 82 = .ok (.ireturn, 1) := by decide +kernel
theorem d_ZF_zone_83 : decode b_ZF_zone 83 = .ok (.aload_n 3, 1) := by decide +kernel
theorem d_ZF_zone_84 : decode b_ZF_zone 84 = .ok (.getfield 147, 3) := by decide +kernel
theorem d_ZF_zone_87 : decode b_ZF_zone 87 = .ok (.ireturn, 1) := by decide +kernel
theorem d_ZF_zone_88 : decode b_ZF_zone 88 = .ok (.aload_n 3, 1) := by decide +kernel
theorem d_ZF_zone_89 : decode b_ZF_zone 89 = .ok (.getfield 150, 3) := by decide +kernel
theorem d_ZF_zone_92 : decode b_ZF_zone 92 = .ok (.ireturn, 1) := by decide +kernel
theorem d_ZF_zone_93 : decode b_ZF_zone 93 = .ok (.aload_n 3, 1) := by decide +kernel
theorem d_ZF_zone_94 : decode b_ZF_zone 94 = .ok (.getfield 153, 3) := by decide +kernel
theorem d_ZF_zone_97 : decode b_ZF_zone 97 = .ok (.ireturn, 1) := by decide +kernel
theorem d_ZF_zone_98 : decode b_ZF_zone 98 = .ok (.aload_n 3, 1) := by decide +kernel
theorem d_ZF_zone_99 : decode b_ZF_zone 99 = .ok (.getfield 108, 3) := by decide +kernel
theorem d_ZF_zone_102 : decode b_ZF_zone 102 = .ok (.getfield 156, 3) := by decide +kernel
theorem d_ZF_zone_105 : decode b_ZF_zone 105 = .ok (.getfield 63, 3) := by decide +kernel
theorem d_ZF_zone_108 : decode b_ZF_zone 108 = .ok (.ireturn, 1) := by decide +kernel
theorem d_ZF_zone_109 : decode b_ZF_zone 109 = .ok (.new 161, 3) := by decide +kernel
theorem d_ZF_zone_112 : decode b_ZF_zone 112 = .ok (.dup, 1) := by decide +kernel
theorem d_ZF_zone_113 : decode b_ZF_zone 113 = .ok (.ldc 163, 2) := by decide +kernel
theorem d_ZF_zone_115 : decode b_ZF_zone 115 = .ok (.invokespecial 165, 3) := by decide +kernel
theorem d_ZF_zone_118 : decode b_ZF_zone 118 = .ok (.athrow, 1) := by decide +kernel
abbrev b_ZF_time : ByteArray := prog_1_method_8_code
def y_ZF_time : MethodName := ⟨"ZoneFiles", "time", "(II)J"⟩
theorem d_ZF_time_0 : decode b_ZF_time 0 = .ok (.iload_n 1, 1) := by decide +kernel
theorem d_ZF_time_1 : decode b_ZF_time 1 = .ok (.invokestatic 71, 3) := by decide +kernel
theorem d_ZF_time_4 : decode b_ZF_time 4 = .ok (.iload_n 2, 1) := by decide +kernel
theorem d_ZF_time_5 : decode b_ZF_time 5 = .ok (.aload_n 0, 1) := by decide +kernel
theorem d_ZF_time_6 : decode b_ZF_time 6 = .ok (.getfield 23, 3) := by decide +kernel
theorem d_ZF_time_9 : decode b_ZF_time 9 = .ok (.iload_n 1, 1) := by decide +kernel
theorem d_ZF_time_10 : decode b_ZF_time 10 = .ok (.aaload, 1) := by decide +kernel
theorem d_ZF_time_11 : decode b_ZF_time 11 = .ok (.getfield 138, 3) := by decide +kernel
theorem d_ZF_time_14 : decode b_ZF_time 14 = .ok (.invokestatic 166, 3) := by decide +kernel
theorem d_ZF_time_17 : decode b_ZF_time 17 = .ok (.aload_n 0, 1) := by decide +kernel
theorem d_ZF_time_18 : decode b_ZF_time 18 = .ok (.getfield 23, 3) := by decide +kernel
theorem d_ZF_time_21 : decode b_ZF_time 21 = .ok (.iload_n 1, 1) := by decide +kernel
theorem d_ZF_time_22 : decode b_ZF_time 22 = .ok (.aaload, 1) := by decide +kernel
theorem d_ZF_time_23 : decode b_ZF_time 23 = .ok (.getfield 170, 3) := by decide +kernel
theorem d_ZF_time_26 : decode b_ZF_time 26 = .ok (.iload_n 2, 1) := by decide +kernel
theorem d_ZF_time_27 : decode b_ZF_time 27 = .ok (.laload, 1) := by decide +kernel
theorem d_ZF_time_28 : decode b_ZF_time 28 = .ok (.lreturn, 1) := by decide +kernel
abbrev b_ZF_typeAt : ByteArray := prog_1_method_9_code
def y_ZF_typeAt : MethodName := ⟨"ZoneFiles", "typeAt", "(II)I"⟩
theorem d_ZF_typeAt_0 : decode b_ZF_typeAt 0 = .ok (.iload_n 1, 1) := by decide +kernel
theorem d_ZF_typeAt_1 : decode b_ZF_typeAt 1 = .ok (.invokestatic 71, 3) := by decide +kernel
theorem d_ZF_typeAt_4 : decode b_ZF_typeAt 4 = .ok (.iload_n 2, 1) := by decide +kernel
theorem d_ZF_typeAt_5 : decode b_ZF_typeAt 5 = .ok (.aload_n 0, 1) := by decide +kernel
theorem d_ZF_typeAt_6 : decode b_ZF_typeAt 6 = .ok (.getfield 23, 3) := by decide +kernel
theorem d_ZF_typeAt_9 : decode b_ZF_typeAt 9 = .ok (.iload_n 1, 1) := by decide +kernel
theorem d_ZF_typeAt_10 : decode b_ZF_typeAt 10 = .ok (.aaload, 1) := by decide +kernel
theorem d_ZF_typeAt_11 : decode b_ZF_typeAt 11 = .ok (.getfield 138, 3) := by decide +kernel
theorem d_ZF_typeAt_14 : decode b_ZF_typeAt 14 = .ok (.invokestatic 166, 3) := by decide +kernel
theorem d_ZF_typeAt_17 : decode b_ZF_typeAt 17 = .ok (.aload_n 0, 1) := by decide +kernel
theorem d_ZF_typeAt_18 : decode b_ZF_typeAt 18 = .ok (.getfield 23, 3) := by decide +kernel
theorem d_ZF_typeAt_21 : decode b_ZF_typeAt 21 = .ok (.iload_n 1, 1) := by decide +kernel
theorem d_ZF_typeAt_22 : decode b_ZF_typeAt 22 = .ok (.aaload, 1) := by decide +kernel
theorem d_ZF_typeAt_23 : decode b_ZF_typeAt 23 = .ok (.getfield 173, 3) := by decide +kernel
theorem d_ZF_typeAt_26 : decode b_ZF_typeAt 26 = .ok (.iload_n 2, 1) := by decide +kernel
theorem d_ZF_typeAt_27 : decode b_ZF_typeAt 27 = .ok (.iaload, 1) := by decide +kernel
theorem d_ZF_typeAt_28 : decode b_ZF_typeAt 28 = .ok (.ireturn, 1) := by decide +kernel
abbrev b_ZF_type : ByteArray := prog_1_method_10_code
def y_ZF_type : MethodName := ⟨"ZoneFiles", "type", "(III)I"⟩
theorem d_ZF_type_0 : decode b_ZF_type 0 = .ok (.iload_n 1, 1) := by decide +kernel
theorem d_ZF_type_1 : decode b_ZF_type 1 = .ok (.invokestatic 71, 3) := by decide +kernel
theorem d_ZF_type_4 : decode b_ZF_type 4 = .ok (.aload_n 0, 1) := by decide +kernel
theorem d_ZF_type_5 : decode b_ZF_type 5 = .ok (.getfield 23, 3) := by decide +kernel
theorem d_ZF_type_8 : decode b_ZF_type 8 = .ok (.iload_n 1, 1) := by decide +kernel
theorem d_ZF_type_9 : decode b_ZF_type 9 = .ok (.aaload, 1) := by decide +kernel
theorem d_ZF_type_10 : decode b_ZF_type 10 = .ok (.astore 4, 2) := by decide +kernel
theorem d_ZF_type_12 : decode b_ZF_type 12 = .ok (.iload_n 2, 1) := by decide +kernel
theorem d_ZF_type_13 : decode b_ZF_type 13 = .ok (.aload 4, 2) := by decide +kernel
theorem d_ZF_type_15 : decode b_ZF_type 15 = .ok (.getfield 141, 3) := by decide +kernel
theorem d_ZF_type_18 : decode b_ZF_type 18 = .ok (.invokestatic 166, 3) := by decide +kernel
theorem d_ZF_type_21 : decode b_ZF_type 21 = .ok (.iload_n 3, 1) := by decide +kernel
theorem d_ZF_type_22 : decode b_ZF_type 22 = .ok (.tableswitch 111 0 5 #[38, 46, 54, 62, 69, 90], 38) := by decide +kernel
theorem d_ZF_type_60 : decode b_ZF_type 60 = .ok (.aload 4, 2) := by decide +kernel
theorem d_ZF_type_62 : decode b_ZF_type 62 = .ok (.getfield 177, 3) := by decide +kernel
theorem d_ZF_type_65 : decode b_ZF_type 65 = .ok (.iload_n 2, 1) := by decide +kernel
theorem d_ZF_type_66 : decode b_ZF_type 66 = .ok (.iaload, 1) := by decide +kernel
theorem d_ZF_type_67 : decode b_ZF_type 67 = .ok (.ireturn, 1) := by decide +kernel
theorem d_ZF_type_68 : decode b_ZF_type 68 = .ok (.aload 4, 2) := by decide +kernel
theorem d_ZF_type_70 : decode b_ZF_type 70 = .ok (.getfield 180, 3) := by decide +kernel
theorem d_ZF_type_73 : decode b_ZF_type 73 = .ok (.iload_n 2, 1) := by decide +kernel
theorem d_ZF_type_74 : decode b_ZF_type 74 = .ok (.iaload, 1) := by decide +kernel
theorem d_ZF_type_75 : decode b_ZF_type 75 = .ok (.ireturn, 1) := by decide +kernel
theorem d_ZF_type_76 : decode b_ZF_type 76 = .ok (.aload 4, 2) := by decide +kernel
theorem d_ZF_type_78 : decode b_ZF_type 78 = .ok (.getfield 183, 3) := by decide +kernel
theorem d_ZF_type_81 : decode b_ZF_type 81 = .ok (.iload_n 2, 1) := by decide +kernel
theorem d_ZF_type_82 : decode b_ZF_type 82 = .ok (.iaload, 1) := by decide +kernel
theorem d_ZF_type_83 : decode b_ZF_type 83 = .ok (.ireturn, 1) := by decide +kernel
theorem d_ZF_type_84 : decode b_ZF_type 84 = .ok (.aload 4, 2) := by decide +kernel
theorem d_ZF_type_86 : decode b_ZF_type 86 = .ok (.iload_n 2, 1) := by decide +kernel
theorem d_ZF_type_87 : decode b_ZF_type 87 = .ok (.invokevirtual 186, 3) := by decide +kernel
theorem d_ZF_type_90 : decode b_ZF_type 90 = .ok (.ireturn, 1) := by decide +kernel
theorem d_ZF_type_91 : decode b_ZF_type 91 = .ok (.iload_n 2, 1) := by decide +kernel
theorem d_ZF_type_92 : decode b_ZF_type 92 = .ok (.aload 4, 2) := by decide +kernel
theorem d_ZF_type_94 : decode b_ZF_type 94 = .ok (.getfield 150, 3) := by decide +kernel
theorem d_ZF_type_97 : decode b_ZF_type 97 = .ok (.if_icmp .ge 13, 3) := by decide +kernel
theorem d_ZF_type_100 : decode b_ZF_type 100 = .ok (.aload 4, 2) := by decide +kernel
theorem d_ZF_type_102 : decode b_ZF_type 102 = .ok (.getfield 189, 3) := by decide +kernel
theorem d_ZF_type_105 : decode b_ZF_type 105 = .ok (.iload_n 2, 1) := by decide +kernel
theorem d_ZF_type_106 : decode b_ZF_type 106 = .ok (.iaload, 1) := by decide +kernel
theorem d_ZF_type_107 : decode b_ZF_type 107 = .ok (.goto 4, 3) := by decide +kernel
theorem d_ZF_type_110 : decode b_ZF_type 110 = .ok (.iconst 0, 1) := by decide +kernel
theorem d_ZF_type_111 : decode b_ZF_type 111 = .ok (.ireturn, 1) := by decide +kernel
theorem d_ZF_type_112 : decode b_ZF_type 112 = .ok (.iload_n 2, 1) := by decide +kernel
theorem d_ZF_type_113 : decode b_ZF_type 113 = .ok (.aload 4, 2) := by decide +kernel
theorem d_ZF_type_115 : decode b_ZF_type 115 = .ok (.getfield 153, 3) := by decide +kernel
theorem d_ZF_type_118 : decode b_ZF_type 118 = .ok (.if_icmp .ge 13, 3) := by decide +kernel
theorem d_ZF_type_121 : decode b_ZF_type 121 = .ok (.aload 4, 2) := by decide +kernel
theorem d_ZF_type_123 : decode b_ZF_type 123 = .ok (.getfield 192, 3) := by decide +kernel
theorem d_ZF_type_126 : decode b_ZF_type 126 = .ok (.iload_n 2, 1) := by decide +kernel
theorem d_ZF_type_127 : decode b_ZF_type 127 = .ok (.iaload, 1) := by decide +kernel
theorem d_ZF_type_128 : decode b_ZF_type 128 = .ok (.goto 4, 3) := by decide +kernel
theorem d_ZF_type_131 : decode b_ZF_type 131 = .ok (.iconst 0, 1) := by decide +kernel
theorem d_ZF_type_132 : decode b_ZF_type 132 = .ok (.ireturn, 1) := by decide +kernel
theorem d_ZF_type_133 : decode b_ZF_type 133 = .ok (.new 161, 3) := by decide +kernel
theorem d_ZF_type_136 : decode b_ZF_type 136 = .ok (.dup, 1) := by decide +kernel
theorem d_ZF_type_137 : decode b_ZF_type 137 = .ok (.ldc 195, 2) := by decide +kernel
theorem d_ZF_type_139 : decode b_ZF_type 139 = .ok (.invokespecial 165, 3) := by decide +kernel
theorem d_ZF_type_142 : decode b_ZF_type 142 = .ok (.athrow, 1) := by decide +kernel
abbrev b_ZF_letter : ByteArray := prog_1_method_11_code
def y_ZF_letter : MethodName := ⟨"ZoneFiles", "letter", "(III)I"⟩
theorem d_ZF_letter_0 : decode b_ZF_letter 0 = .ok (.iload_n 1, 1) := by decide +kernel
theorem d_ZF_letter_1 : decode b_ZF_letter 1 = .ok (.invokestatic 71, 3) := by decide +kernel
theorem d_ZF_letter_4 : decode b_ZF_letter 4 = .ok (.iload_n 2, 1) := by decide +kernel
theorem d_ZF_letter_5 : decode b_ZF_letter 5 = .ok (.iconst 2, 1) := by decide +kernel
theorem d_ZF_letter_6 : decode b_ZF_letter 6 = .ok (.invokestatic 166, 3) := by decide +kernel
theorem d_ZF_letter_9 : decode b_ZF_letter 9 = .ok (.iload_n 2, 1) := by decide +kernel
theorem d_ZF_letter_10 : decode b_ZF_letter 10 = .ok (.ifCond .ne 15, 3) := by decide +kernel
theorem d_ZF_letter_13 : decode b_ZF_letter 13 = .ok (.aload_n 0, 1) := by decide +kernel
theorem d_ZF_letter_14 : decode b_ZF_letter 14 = .ok (.getfield 23, 3) := by decide +kernel
theorem d_ZF_letter_17 : decode b_ZF_letter 17 = .ok (.iload_n 1, 1) := by decide +kernel
theorem d_ZF_letter_18 : decode b_ZF_letter 18 = .ok (.aaload, 1) := by decide +kernel
theorem d_ZF_letter_19 : decode b_ZF_letter 19 = .ok (.getfield 144, 3) := by decide +kernel
theorem d_ZF_letter_22 : decode b_ZF_letter 22 = .ok (.goto 15, 3) := by decide +kernel
theorem d_ZF_letter_25 : decode b_ZF_letter 25 = .ok (.aload_n 0, 1) := by decide +kernel
theorem d_ZF_letter_26 : decode b_ZF_letter 26 = .ok (.getfield 23, 3) := by decide +kernel
theorem d_ZF_letter_29 : decode b_ZF_letter 29 = .ok (.iload_n 1, 1) := by decide +kernel
theorem d_ZF_letter_30 : decode b_ZF_letter 30 = .ok (.aaload, 1) := by decide +kernel
theorem d_ZF_letter_31 : decode b_ZF_letter 31 = .ok (.getfield 108, 3) := by decide +kernel
theorem d_ZF_letter_34 : decode b_ZF_letter 34 = .ok (.getfield 156, 3) := by decide +kernel
theorem d_ZF_letter_37 : decode b_ZF_letter 37 = .ok (.astore 4, 2) := by decide +kernel
theorem d_ZF_letter_39 : decode b_ZF_letter 39 = .ok (.iload_n 3, 1) := by decide +kernel
theorem d_ZF_letter_40 : decode b_ZF_letter 40 = .ok (.aload 4, 2) := by decide +kernel
theorem d_ZF_letter_42 : decode b_ZF_letter 42 = .ok (.getfield 63, 3) := by decide +kernel
theorem d_ZF_letter_45 : decode b_ZF_letter 45 = .ok (.invokestatic 166, 3) := by decide +kernel
theorem d_ZF_letter_48 : decode b_ZF_letter 48 = .ok (.aload 4, 2) := by decide +kernel
theorem d_ZF_letter_50 : decode b_ZF_letter 50 = .ok (.iload_n 3, 1) := by decide +kernel
theorem d_ZF_letter_51 : decode b_ZF_letter 51 = .ok (.invokevirtual 197, 3) := by decide +kernel
theorem d_ZF_letter_54 : decode b_ZF_letter 54 = .ok (.ireturn, 1) := by decide +kernel
abbrev b_ZF_leap : ByteArray := prog_1_method_12_code
def y_ZF_leap : MethodName := ⟨"ZoneFiles", "leap", "(III)J"⟩
theorem d_ZF_leap_0 : decode b_ZF_leap 0 = .ok (.iload_n 1, 1) := by decide +kernel
theorem d_ZF_leap_1 : decode b_ZF_leap 1 = .ok (.invokestatic 71, 3) := by decide +kernel
theorem d_ZF_leap_4 : decode b_ZF_leap 4 = .ok (.iload_n 2, 1) := by decide +kernel
theorem d_ZF_leap_5 : decode b_ZF_leap 5 = .ok (.aload_n 0, 1) := by decide +kernel
theorem d_ZF_leap_6 : decode b_ZF_leap 6 = .ok (.getfield 23, 3) := by decide +kernel
theorem d_ZF_leap_9 : decode b_ZF_leap 9 = .ok (.iload_n 1, 1) := by decide +kernel
theorem d_ZF_leap_10 : decode b_ZF_leap 10 = .ok (.aaload, 1) := by decide +kernel
theorem d_ZF_leap_11 : decode b_ZF_leap 11 = .ok (.getfield 147, 3) := by decide +kernel
theorem d_ZF_leap_14 : decode b_ZF_leap 14 = .ok (.invokestatic 166, 3) := by decide +kernel
theorem d_ZF_leap_17 : decode b_ZF_leap 17 = .ok (.iload_n 3, 1) := by decide +kernel
theorem d_ZF_leap_18 : decode b_ZF_leap 18 = .ok (.iconst 2, 1) := by decide +kernel
theorem d_ZF_leap_19 : decode b_ZF_leap 19 = .ok (.invokestatic 166, 3) := by decide +kernel
theorem d_ZF_leap_22 : decode b_ZF_leap 22 = .ok (.iload_n 3, 1) := by decide +kernel
theorem d_ZF_leap_23 : decode b_ZF_leap 23 = .ok (.ifCond .ne 17, 3) := by decide +kernel
theorem d_ZF_leap_26 : decode b_ZF_leap 26 = .ok (.aload_n 0, 1) := by decide +kernel
theorem d_ZF_leap_27 : decode b_ZF_leap 27 = .ok (.getfield 23, 3) := by decide +kernel
theorem d_ZF_leap_30 : decode b_ZF_leap 30 = .ok (.iload_n 1, 1) := by decide +kernel
theorem d_ZF_leap_31 : decode b_ZF_leap 31 = .ok (.aaload, 1) := by decide +kernel
theorem d_ZF_leap_32 : decode b_ZF_leap 32 = .ok (.getfield 200, 3) := by decide +kernel
theorem d_ZF_leap_35 : decode b_ZF_leap 35 = .ok (.iload_n 2, 1) := by decide +kernel
theorem d_ZF_leap_36 : decode b_ZF_leap 36 = .ok (.laload, 1) := by decide +kernel
theorem d_ZF_leap_37 : decode b_ZF_leap 37 = .ok (.goto 15, 3) := by decide +kernel
theorem d_ZF_leap_40 : decode b_ZF_leap 40 = .ok (.aload_n 0, 1) := by decide +kernel
theorem d_ZF_leap_41 : decode b_ZF_leap 41 = .ok (.getfield 23, 3) := by decide +kernel
theorem d_ZF_leap_44 : decode b_ZF_leap 44 = .ok (.iload_n 1, 1) := by decide +kernel
theorem d_ZF_leap_45 : decode b_ZF_leap 45 = .ok (.aaload, 1) := by decide +kernel
theorem d_ZF_leap_46 : decode b_ZF_leap 46 = .ok (.getfield 203, 3) := by decide +kernel
theorem d_ZF_leap_49 : decode b_ZF_leap 49 = .ok (.iload_n 2, 1) := by decide +kernel
theorem d_ZF_leap_50 : decode b_ZF_leap 50 = .ok (.iaload, 1) := by decide +kernel
theorem d_ZF_leap_51 : decode b_ZF_leap 51 = .ok (.i2l, 1) := by decide +kernel
theorem d_ZF_leap_52 : decode b_ZF_leap 52 = .ok (.lreturn, 1) := by decide +kernel
abbrev b_ZF_at : ByteArray := prog_1_method_13_code
def y_ZF_at : MethodName := ⟨"ZoneFiles", "at", "(IJI)I"⟩
theorem d_ZF_at_0 : decode b_ZF_at 0 = .ok (.iload_n 1, 1) := by decide +kernel
theorem d_ZF_at_1 : decode b_ZF_at 1 = .ok (.invokestatic 71, 3) := by decide +kernel
theorem d_ZF_at_4 : decode b_ZF_at 4 = .ok (.iload 4, 2) := by decide +kernel
theorem d_ZF_at_6 : decode b_ZF_at 6 = .ok (.iconst 4, 1) := by decide +kernel
theorem d_ZF_at_7 : decode b_ZF_at 7 = .ok (.invokestatic 166, 3) := by decide +kernel
theorem d_ZF_at_10 : decode b_ZF_at 10 = .ok (.lload_n 2, 1) := by decide +kernel
theorem d_ZF_at_11 : decode b_ZF_at 11 = .ok (.invokestatic 206, 3) := by decide +kernel
theorem d_ZF_at_14 : decode b_ZF_at 14 = .ok (.aload_n 0, 1) := by decide +kernel
theorem d_ZF_at_15 : decode b_ZF_at 15 = .ok (.getfield 23, 3) := by decide +kernel
theorem d_ZF_at_18 : decode b_ZF_at 18 = .ok (.iload_n 1, 1) := by decide +kernel
theorem d_ZF_at_19 : decode b_ZF_at 19 = .ok (.aaload, 1) := by decide +kernel
theorem d_ZF_at_20 : decode b_ZF_at 20 = .ok (.astore 5, 2) := by decide +kernel
theorem d_ZF_at_22 : decode b_ZF_at 22 = .ok (.aload 5, 2) := by decide +kernel
theorem d_ZF_at_24 : decode b_ZF_at 24 = .ok (.lload_n 2, 1) := by decide +kernel
theorem d_ZF_at_25 : decode b_ZF_at 25 = .ok (.invokevirtual 210, 3) := by decide +kernel
theorem d_ZF_at_28 : decode b_ZF_at 28 = .ok (.istore 6, 2) := by decide +kernel
theorem d_ZF_at_30 : decode b_ZF_at 30 = .ok (.iload 6, 2) := by decide +kernel
theorem d_ZF_at_32 : decode b_ZF_at 32 = .ok (.bipush (-3), 2) := by decide +kernel
theorem d_ZF_at_34 : decode b_ZF_at 34 = .ok (.if_icmp .ne 6, 3) := by decide +kernel
theorem d_ZF_at_37 : decode b_ZF_at 37 = .ok (.ldc 214, 2) := by decide +kernel
theorem d_ZF_at_39 : decode b_ZF_at 39 = .ok (.ireturn, 1) := by decide +kernel
theorem d_ZF_at_40 : decode b_ZF_at 40 = .ok (.iload 4, 2) := by decide +kernel
theorem d_ZF_at_42 : decode b_ZF_at 42 = .ok (.tableswitch 50 0 2 #[26, 34, 42], 26) := by decide +kernel
theorem d_ZF_at_68 : decode b_ZF_at 68 = .ok (.aload 5, 2) := by decide +kernel
theorem d_ZF_at_70 : decode b_ZF_at 70 = .ok (.iload 6, 2) := by decide +kernel
theorem d_ZF_at_72 : decode b_ZF_at 72 = .ok (.invokevirtual 215, 3) := by decide +kernel
theorem d_ZF_at_75 : decode b_ZF_at 75 = .ok (.ireturn, 1) := by decide +kernel
theorem d_ZF_at_76 : decode b_ZF_at 76 = .ok (.aload 5, 2) := by decide +kernel
theorem d_ZF_at_78 : decode b_ZF_at 78 = .ok (.iload 6, 2) := by decide +kernel
theorem d_ZF_at_80 : decode b_ZF_at 80 = .ok (.invokevirtual 218, 3) := by decide +kernel
theorem d_ZF_at_83 : decode b_ZF_at 83 = .ok (.ireturn, 1) := by decide +kernel
theorem d_ZF_at_84 : decode b_ZF_at 84 = .ok (.aload 5, 2) := by decide +kernel
theorem d_ZF_at_86 : decode b_ZF_at 86 = .ok (.iload 6, 2) := by decide +kernel
theorem d_ZF_at_88 : decode b_ZF_at 88 = .ok (.invokevirtual 186, 3) := by decide +kernel
theorem d_ZF_at_91 : decode b_ZF_at 91 = .ok (.ireturn, 1) := by decide +kernel
theorem d_ZF_at_92 : decode b_ZF_at 92 = .ok (.iload 6, 2) := by decide +kernel
theorem d_ZF_at_94 : decode b_ZF_at 94 = .ok (.ifCond .lt 8, 3) := by decide +kernel
theorem d_ZF_at_97 : decode b_ZF_at 97 = .ok (.iload 6, 2) := by decide +kernel
theorem d_ZF_at_99 : decode b_ZF_at 99 = .ok (.goto 4, 3) := by decide +kernel
theorem d_ZF_at_102 : decode b_ZF_at 102 = .ok (.iconst (-1), 1) := by decide +kernel
theorem d_ZF_at_103 : decode b_ZF_at 103 = .ok (.ireturn, 1) := by decide +kernel
abbrev b_ZF_name : ByteArray := prog_1_method_14_code
def y_ZF_name : MethodName := ⟨"ZoneFiles", "name", "(IJI)I"⟩
theorem d_ZF_name_0 : decode b_ZF_name 0 = .ok (.iload_n 1, 1) := by decide +kernel
theorem d_ZF_name_1 : decode b_ZF_name 1 = .ok (.invokestatic 71, 3) := by decide +kernel
theorem d_ZF_name_4 : decode b_ZF_name 4 = .ok (.lload_n 2, 1) := by decide +kernel
theorem d_ZF_name_5 : decode b_ZF_name 5 = .ok (.invokestatic 206, 3) := by decide +kernel
theorem d_ZF_name_8 : decode b_ZF_name 8 = .ok (.aload_n 0, 1) := by decide +kernel
theorem d_ZF_name_9 : decode b_ZF_name 9 = .ok (.getfield 23, 3) := by decide +kernel
theorem d_ZF_name_12 : decode b_ZF_name 12 = .ok (.iload_n 1, 1) := by decide +kernel
theorem d_ZF_name_13 : decode b_ZF_name 13 = .ok (.aaload, 1) := by decide +kernel
theorem d_ZF_name_14 : decode b_ZF_name 14 = .ok (.lload_n 2, 1) := by decide +kernel
theorem d_ZF_name_15 : decode b_ZF_name 15 = .ok (.invokevirtual 210, 3) := by decide +kernel
theorem d_ZF_name_18 : decode b_ZF_name 18 = .ok (.istore 5, 2) := by decide +kernel
theorem d_ZF_name_20 : decode b_ZF_name 20 = .ok (.iload 4, 2) := by decide +kernel
theorem d_ZF_name_22 : decode b_ZF_name 22 = .ok (.ifCond .lt 19, 3) := by decide +kernel
theorem d_ZF_name_25 : decode b_ZF_name 25 = .ok (.iload 4, 2) := by decide +kernel
theorem d_ZF_name_27 : decode b_ZF_name 27 = .ok (.aload_n 0, 1) := by decide +kernel
theorem d_ZF_name_28 : decode b_ZF_name 28 = .ok (.getfield 23, 3) := by decide +kernel
theorem d_ZF_name_31 : decode b_ZF_name 31 = .ok (.iload_n 1, 1) := by decide +kernel
theorem d_ZF_name_32 : decode b_ZF_name 32 = .ok (.aaload, 1) := by decide +kernel
theorem d_ZF_name_33 : decode b_ZF_name 33 = .ok (.iload 5, 2) := by decide +kernel
theorem d_ZF_name_35 : decode b_ZF_name 35 = .ok (.invokevirtual 186, 3) := by decide +kernel
theorem d_ZF_name_38 : decode b_ZF_name 38 = .ok (.if_icmp .lt 13, 3) := by decide +kernel
theorem d_ZF_name_41 : decode b_ZF_name 41 = .ok (.new 221, 3) := by decide +kernel
theorem d_ZF_name_44 : decode b_ZF_name 44 = .ok (.dup, 1) := by decide +kernel
theorem d_ZF_name_45 : decode b_ZF_name 45 = .ok (.ldc 223, 2) := by decide +kernel
theorem d_ZF_name_47 : decode b_ZF_name 47 = .ok (.invokespecial 225, 3) := by decide +kernel
theorem d_ZF_name_50 : decode b_ZF_name 50 = .ok (.athrow, 1) := by decide +kernel
theorem d_ZF_name_51 : decode b_ZF_name 51 = .ok (.aload_n 0, 1) := by decide +kernel
theorem d_ZF_name_52 : decode b_ZF_name 52 = .ok (.getfield 23, 3) := by decide +kernel
theorem d_ZF_name_55 : decode b_ZF_name 55 = .ok (.iload_n 1, 1) := by decide +kernel
theorem d_ZF_name_56 : decode b_ZF_name 56 = .ok (.aaload, 1) := by decide +kernel
theorem d_ZF_name_57 : decode b_ZF_name 57 = .ok (.iload 5, 2) := by decide +kernel
theorem d_ZF_name_59 : decode b_ZF_name 59 = .ok (.iload 4, 2) := by decide +kernel
theorem d_ZF_name_61 : decode b_ZF_name 61 = .ok (.invokevirtual 226, 3) := by decide +kernel
theorem d_ZF_name_64 : decode b_ZF_name 64 = .ok (.ireturn, 1) := by decide +kernel
-- ZoneFiles.zone(II)I
def f_ZF_zone_0 (nf : Nat) (p0 : Int32) (zVer : Int32) (zTic : Int32) (zTyc : Int32) (zLec : Int32) (zStc : Int32) (zUtc : Int32) (chS : Int32) (txS : Int32) (x2 : Int32) : Option (Int32) :=
  (f_ZF_checkZone nf p0).bind fun _u =>
  if p0 < 0 ∨ 4 ≤ p0.toNatClampNeg then none else
  if x2 = 0 then
  some zVer
  else
  if x2 = 1 then
    some zTic
    else
    if x2 = 2 then
      some zTyc
      else
      if x2 = 3 then
        some chS
        else
        if x2 = 4 then
          some zLec
          else
          if x2 = 5 then
            some zStc
            else
            if x2 = 6 then
              some zUtc
              else
              if x2 = 7 then
                some txS
                else
                none
def f_ZF_zone (nf : Nat) (p0 : Int32) (p1 : Int32) (zVer : Int32) (zTic : Int32) (zTyc : Int32) (zLec : Int32) (zStc : Int32) (zUtc : Int32) (chS : Int32) (txS : Int32) : Option (Int32) :=
  f_ZF_zone_0 nf p0 zVer zTic zTyc zLec zStc zUtc chS txS p1
section
variable {p : Program} {l : Launch} {e : Env} {R : Room} {s : State} {m : MethodId} {args : Array Value} {below : List Frame} {meth : Method} {c : Code} {Q : State → Prop} {dC : Nat → ClassId} {dI : Nat → Nat → Nat} {nf : Nat}
variable {h0 : Nat} {zfTp : Nat} {zfWr : Nat} {zfZs : Nat} {zfSp : Nat} {zfLt : Nat} {zfSt : Nat} {zfFd : Nat} {zz : Nat} {zTi : Nat} {zTt : Nat} {zOf : Nat} {zDs : Nat} {zIx : Nat} {zSd : Nat} {zUt : Nat} {zCh : Nat} {zLt : Nat} {zLo : Nat} {zRu : Nat} {chR : Nat} {ruT : Nat} {ruB : Nat} {ruE : Nat} {txR : Nat} {cAzfZs : ClassId} {p0 : Int32} {zfFc : Int32} {zfFp : Int32} {zg : Nat → Option Nat} {zVer : Int32} {zTic : Int32} {zTyc : Int32} {zLec : Int32} {zStc : Int32} {zUtc : Int32} {chS : Int32} {ruHas : Int32} {ruWide : Int32} {ruSo : Int32} {ruUo : Int32} {ruSp : Int32} {ruSs : Int32} {ruUp : Int32} {ruUs : Int32} {ruNev : Int32} {txS : Int32} {r0 : Int32}
set_option maxHeartbeats 400000 in
set_option maxRecDepth 100000 in
theorem k_ZF_zone_0 (C0 : Cx p s m meth c args R b_ZF_zone "ZoneFiles" 4 (some .int) 1 20) (hST : ST (fun _ => False) s s.heap) (hK : va_K (dC, dI) classes [(cAzfZs, .object "ZoneFiles$Zone")] s) (hP : va_P (dC, dI) classes [(h0, .inr (9, [.ref zfTp, .ref zfWr, .ref zfZs, .ref zfSp, .ref zfLt, .ref zfSt, .ref zfFd, .int zfFc, .int zfFp])), (zfZs, .inl (cAzfZs, 4, .inr (.inr (.inr (.inr zg))))), (zz, .inr (8, [.int zVer, .int zTic, .int zTyc, .int zLec, .int zStc, .int zUtc, .ref zTi, .ref zTt, .ref zOf, .ref zDs, .ref zIx, .ref zSd, .ref zUt, .ref zCh, .ref zLt, .ref zLo, .ref zRu])), (zCh, .inr (0, [.ref chR, .int chS])), (zRu, .inr (5, [.ref ruT, .ref ruB, .ref ruE, .int ruHas, .int ruWide, .int ruSo, .int ruUo, .int ruSp, .int ruSs, .int ruUp, .int ruUs, .int ruNev])), (ruT, .inr (0, [.ref txR, .int txS]))] s.heap) (hz : zg p0.toNatClampNeg = some zz) (hE : ∀ (pc : Nat) (ls : Array Slot), decode b_ZF_zone pc = .ok (.ireturn, 1) → narrow .int (.int r0) = .int r0 → W p l e R s m args below meth c s.heap [] 0 0 Q (F0 m pc ls [.int r0])) {x2 : Int32} (hf : f_ZF_zone_0 nf p0 zVer zTic zTyc zLec zStc zUtc chS txS x2 = some r0) {ls : Array Slot} (hl : lv_has ls 4 [(0, .ref h0), (1, .int p0), (2, .int x2)]) : W p l e R s m args below meth c s.heap [] 0 0 Q (F0 m 0 ls []) := by
  obtain ⟨hx, hb, hr, hml, hown, hts, hlocks, hRf, hRl⟩ := id C0
  obtain ⟨tms, hZms, hTms, tmg, hZmg, hTmg, hNW⟩ := id hST
  unfold f_ZF_zone_0 at hf
  refine lv_iload_n hx hb d_ZF_zone_0 rfl (lv_at hl 1 rfl) ?_
  obtain ⟨_u, hc, hf⟩ := ob hf
  refine cl_S (v := none) (st1 := []) (va_runS (As := [.int p0]) (rest := []) ⟨hx, hb, hml, hown, hts⟩ (c_ZF_checkZone l dC dI nf p0 hc) (va_cwS 1 hts (gdS m_3_131 m_3_132 m_1_1 m_3_133) rfl rfl rfl (by decide +kernel) ⟨Nat.le_trans (Nat.le_of_ble_eq_true rfl) hRf, Nat.le_trans (Nat.le_of_ble_eq_true rfl) hRl⟩) (RO.pre0 hK hST).sta rfl rfl hl.1 rfl (lv_room (Nat.le_of_ble_eq_true rfl)) d_ZF_zone_1 ⟨Nat.zero_le _, Nat.zero_le _⟩) rfl ?_
  refine lv_aload_n hx hb d_ZF_zone_4 rfl (lv_at hl 0 rfl) ?_
  refine va_get (D := (dC, dI)) (ci := 9) (v := .ref zfZs) (C := RZoneFiles) (T := TZoneFiles) (N := 9) hx hb hts in_ZoneFiles hown hK hP 0 rfl rfl 2 (by decide) (hts (.fieldLink "ZoneFiles" 23 "ZoneFiles" "zones" "[LZoneFiles$Zone;") m_2_119) (fun _ h9 => h9) rfl d_ZF_zone_5 ?_
  refine lv_iload_n hx hb d_ZF_zone_8 rfl (lv_at hl 1 rfl) ?_
  obtain ⟨c_1, hf⟩ := it_n hf
  refine zf_ald (zz := zz) hx hb hK hP 1 0 rfl rfl c_1 hz d_ZF_zone_9 ?_
  refine lv_astore_n (lv' := [(3, .ref zz), (0, .ref h0), (1, .int p0), (2, .int x2)]) hx hb d_ZF_zone_10 rfl hl (by decide) rfl (fun ls hl => ?_)
  refine lv_iload_n hx hb d_ZF_zone_11 rfl (lv_at hl 3 rfl) ?_
  by_cases c_2 : x2 = 0
  · have hf := it_t c_2 hf
    refine lv_tableIn (tgt := 60) hx hb d_ZF_zone_12 (by rw [c_2]; decide) (by rw [c_2]; decide) (by rw [c_2]; rfl) (by decide) ?_
    refine lv_aload_n hx hb d_ZF_zone_60 rfl (lv_at hl 0 rfl) ?_
    refine va_get (D := (dC, dI)) (ci := 8) (v := .int zVer) (C := RZone) (T := TZone) (N := 17) hx hb hts in_Zone hown hK hP 2 rfl rfl 0 (by decide) (hts (.fieldLink "ZoneFiles" 135 "ZoneFiles$Zone" "version" "I") m_1_165) (fun _ h9 => h9) rfl d_ZF_zone_61 ?_
    have e := rs hf
    subst e
    exact hE _ _ d_ZF_zone_64 rfl
  · have hf := it_f c_2 hf
    by_cases c_3 : x2 = 1
    · have hf := it_t c_3 hf
      refine lv_tableIn (tgt := 65) hx hb d_ZF_zone_12 (by rw [c_3]; decide) (by rw [c_3]; decide) (by rw [c_3]; rfl) (by decide) ?_
      refine lv_aload_n hx hb d_ZF_zone_65 rfl (lv_at hl 0 rfl) ?_
      refine va_get (D := (dC, dI)) (ci := 8) (v := .int zTic) (C := RZone) (T := TZone) (N := 17) hx hb hts in_Zone hown hK hP 2 rfl rfl 1 (by decide) (hts (.fieldLink "ZoneFiles" 138 "ZoneFiles$Zone" "timeCount" "I") m_1_169) (fun _ h9 => h9) rfl d_ZF_zone_66 ?_
      have e := rs hf
      subst e
      exact hE _ _ d_ZF_zone_69 rfl
    · have hf := it_f c_3 hf
      by_cases c_4 : x2 = 2
      · have hf := it_t c_4 hf
        refine lv_tableIn (tgt := 70) hx hb d_ZF_zone_12 (by rw [c_4]; decide) (by rw [c_4]; decide) (by rw [c_4]; rfl) (by decide) ?_
        refine lv_aload_n hx hb d_ZF_zone_70 rfl (lv_at hl 0 rfl) ?_
        refine va_get (D := (dC, dI)) (ci := 8) (v := .int zTyc) (C := RZone) (T := TZone) (N := 17) hx hb hts in_Zone hown hK hP 2 rfl rfl 2 (by decide) (hts (.fieldLink "ZoneFiles" 141 "ZoneFiles$Zone" "typeCount" "I") m_1_172) (fun _ h9 => h9) rfl d_ZF_zone_71 ?_
        have e := rs hf
        subst e
        exact hE _ _ d_ZF_zone_74 rfl
      · have hf := it_f c_4 hf
        by_cases c_5 : x2 = 3
        · have hf := it_t c_5 hf
          refine lv_tableIn (tgt := 75) hx hb d_ZF_zone_12 (by rw [c_5]; decide) (by rw [c_5]; decide) (by rw [c_5]; rfl) (by decide) ?_
          refine lv_aload_n hx hb d_ZF_zone_75 rfl (lv_at hl 0 rfl) ?_
          refine va_get (D := (dC, dI)) (ci := 8) (v := .ref zCh) (C := RZone) (T := TZone) (N := 17) hx hb hts in_Zone hown hK hP 2 rfl rfl 13 (by decide) (hts (.fieldLink "ZoneFiles" 144 "ZoneFiles$Zone" "chars" "LZoneFiles$Bytes;") m_1_216) (fun _ h9 => h9) rfl d_ZF_zone_76 ?_
          refine va_get (D := (dC, dI)) (ci := 0) (v := .int chS) (C := RBytes) (T := TBytes) (N := 2) hx hb hts in_Bytes hown hK hP 3 rfl rfl 1 (by decide) (hts (.fieldLink "ZoneFiles" 63 "ZoneFiles$Bytes" "size" "I") m_1_39) (fun _ h9 => h9) rfl d_ZF_zone_79 ?_
          have e := rs hf
          subst e
          exact hE _ _ d_ZF_zone_82 rfl
        · have hf := it_f c_5 hf
          by_cases c_6 : x2 = 4
          · have hf := it_t c_6 hf
            refine lv_tableIn (tgt := 83) hx hb d_ZF_zone_12 (by rw [c_6]; decide) (by rw [c_6]; decide) (by rw [c_6]; rfl) (by decide) ?_
            refine lv_aload_n hx hb d_ZF_zone_83 rfl (lv_at hl 0 rfl) ?_
            refine va_get (D := (dC, dI)) (ci := 8) (v := .int zLec) (C := RZone) (T := TZone) (N := 17) hx hb hts in_Zone hown hK hP 2 rfl rfl 3 (by decide) (hts (.fieldLink "ZoneFiles" 147 "ZoneFiles$Zone" "leapCount" "I") m_1_176) (fun _ h9 => h9) rfl d_ZF_zone_84 ?_
            have e := rs hf
            subst e
            exact hE _ _ d_ZF_zone_87 rfl
          · have hf := it_f c_6 hf
            by_cases c_7 : x2 = 5
            · have hf := it_t c_7 hf
              refine lv_tableIn (tgt := 88) hx hb d_ZF_zone_12 (by rw [c_7]; decide) (by rw [c_7]; decide) (by rw [c_7]; rfl) (by decide) ?_
              refine lv_aload_n hx hb d_ZF_zone_88 rfl (lv_at hl 0 rfl) ?_
              refine va_get (D := (dC, dI)) (ci := 8) (v := .int zStc) (C := RZone) (T := TZone) (N := 17) hx hb hts in_Zone hown hK hP 2 rfl rfl 4 (by decide) (hts (.fieldLink "ZoneFiles" 150 "ZoneFiles$Zone" "stdCount" "I") m_1_180) (fun _ h9 => h9) rfl d_ZF_zone_89 ?_
              have e := rs hf
              subst e
              exact hE _ _ d_ZF_zone_92 rfl
            · have hf := it_f c_7 hf
              by_cases c_8 : x2 = 6
              · have hf := it_t c_8 hf
                refine lv_tableIn (tgt := 93) hx hb d_ZF_zone_12 (by rw [c_8]; decide) (by rw [c_8]; decide) (by rw [c_8]; rfl) (by decide) ?_
                refine lv_aload_n hx hb d_ZF_zone_93 rfl (lv_at hl 0 rfl) ?_
                refine va_get (D := (dC, dI)) (ci := 8) (v := .int zUtc) (C := RZone) (T := TZone) (N := 17) hx hb hts in_Zone hown hK hP 2 rfl rfl 5 (by decide) (hts (.fieldLink "ZoneFiles" 153 "ZoneFiles$Zone" "utCount" "I") m_1_184) (fun _ h9 => h9) rfl d_ZF_zone_94 ?_
                have e := rs hf
                subst e
                exact hE _ _ d_ZF_zone_97 rfl
              · have hf := it_f c_8 hf
                by_cases c_9 : x2 = 7
                · have hf := it_t c_9 hf
                  refine lv_tableIn (tgt := 98) hx hb d_ZF_zone_12 (by rw [c_9]; decide) (by rw [c_9]; decide) (by rw [c_9]; rfl) (by decide) ?_
                  refine lv_aload_n hx hb d_ZF_zone_98 rfl (lv_at hl 0 rfl) ?_
                  refine va_get (D := (dC, dI)) (ci := 8) (v := .ref zRu) (C := RZone) (T := TZone) (N := 17) hx hb hts in_Zone hown hK hP 2 rfl rfl 16 (by decide) (hts (.fieldLink "ZoneFiles" 108 "ZoneFiles$Zone" "rule" "LZoneFiles$Rule;") m_1_229) (fun _ h9 => h9) rfl d_ZF_zone_99 ?_
                  refine va_get (D := (dC, dI)) (ci := 5) (v := .ref ruT) (C := RRule) (T := TRule) (N := 12) hx hb hts in_Rule hown hK hP 4 rfl rfl 0 (by decide) (hts (.fieldLink "ZoneFiles" 156 "ZoneFiles$Rule" "text" "LZoneFiles$Bytes;") m_1_105) (fun _ h9 => h9) rfl d_ZF_zone_102 ?_
                  refine va_get (D := (dC, dI)) (ci := 0) (v := .int txS) (C := RBytes) (T := TBytes) (N := 2) hx hb hts in_Bytes hown hK hP 5 rfl rfl 1 (by decide) (hts (.fieldLink "ZoneFiles" 63 "ZoneFiles$Bytes" "size" "I") m_1_39) (fun _ h9 => h9) rfl d_ZF_zone_105 ?_
                  have e := rs hf
                  subst e
                  exact hE _ _ d_ZF_zone_108 rfl
                · have hf := it_f c_9 hf
                  have hsw : x2.toInt < 0 ∨ 7 < x2.toInt := by
                    have hsw0 := lv_neT c_2 (a := 0) rfl
                    have hsw1 := lv_neT c_3 (a := 1) rfl
                    have hsw2 := lv_neT c_4 (a := 2) rfl
                    have hsw3 := lv_neT c_5 (a := 3) rfl
                    have hsw4 := lv_neT c_6 (a := 4) rfl
                    have hsw5 := lv_neT c_7 (a := 5) rfl
                    have hsw6 := lv_neT c_8 (a := 6) rfl
                    have hsw7 := lv_neT c_9 (a := 7) rfl
                    omega
                  refine lv_tableOut (tgt := 109) hx hb d_ZF_zone_12 hsw (by decide) ?_
                  exact absurd hf (by simp)
end
set_option maxHeartbeats 400000 in
set_option maxRecDepth 100000 in
theorem c_ZF_zone (l : Launch) (dC : Nat → ClassId) (dI : Nat → Nat → Nat) (h0 : Nat) (zfTp : Nat) (zfWr : Nat) (zfZs : Nat) (zfSp : Nat) (zfLt : Nat) (zfSt : Nat) (zfFd : Nat) (zz : Nat) (zTi : Nat) (zTt : Nat) (zOf : Nat) (zDs : Nat) (zIx : Nat) (zSd : Nat) (zUt : Nat) (zCh : Nat) (zLt : Nat) (zLo : Nat) (zRu : Nat) (chR : Nat) (ruT : Nat) (ruB : Nat) (ruE : Nat) (txR : Nat) (cAzfZs : ClassId) (nf : Nat) (p0 : Int32) (p1 : Int32) (zfFc : Int32) (zfFp : Int32) (zg : Nat → Option Nat) (zVer : Int32) (zTic : Int32) (zTyc : Int32) (zLec : Int32) (zStc : Int32) (zUtc : Int32) (chS : Int32) (ruHas : Int32) (ruWide : Int32) (ruSo : Int32) (ruUo : Int32) (ruSp : Int32) (ruSs : Int32) (ruUp : Int32) (ruUs : Int32) (ruNev : Int32) (txS : Int32) {r0 : Int32} (hf : f_ZF_zone nf p0 p1 zVer zTic zTyc zLec zStc zUtc chS txS = some r0) (hz : zg p0.toNatClampNeg = some zz) : Met l y_ZF_zone (wd y_ZF_zone b_ZF_zone 4 (some .int)) ({ frames := 1, cells := 0, slots := 0, locals := 20 }) (RO dC dI [(h0, .inr (9, [.ref zfTp, .ref zfWr, .ref zfZs, .ref zfSp, .ref zfLt, .ref zfSt, .ref zfFd, .int zfFc, .int zfFp])), (zfZs, .inl (cAzfZs, 4, .inr (.inr (.inr (.inr zg))))), (zz, .inr (8, [.int zVer, .int zTic, .int zTyc, .int zLec, .int zStc, .int zUtc, .ref zTi, .ref zTt, .ref zOf, .ref zDs, .ref zIx, .ref zSd, .ref zUt, .ref zCh, .ref zLt, .ref zLo, .ref zRu])), (zCh, .inr (0, [.ref chR, .int chS])), (zRu, .inr (5, [.ref ruT, .ref ruB, .ref ruE, .int ruHas, .int ruWide, .int ruSo, .int ruUo, .int ruSp, .int ruSs, .int ruUp, .int ruUs, .int ruNev])), (ruT, .inr (0, [.ref txR, .int txS]))] [(cAzfZs, .object "ZoneFiles$Zone")] [.ref h0, .int p0, .int p1]) (SV (some (.int r0))) 0 0 (fun _ => False) :=
  met_S (plainFor_of_name (by decide)) (Nat.le_of_ble_eq_true rfl) (fun p e R s m args below meth c ls C0 hST hK hP hl => by
    obtain ⟨hx, hb, hr, hml, hown, hts, hlocks, hRf, hRl⟩ := id C0
    unfold f_ZF_zone at hf
    exact k_ZF_zone_0 C0 hST hK hP hz (fun pc ls hd hn => W.zret hx hb hr hn (fun t ht hW => ⟨rfl, ht⟩) (fun q h => by cases h) hd) hf (lv_sub hl [0, 1, 2] rfl))
-- ZoneFiles.time(II)J
def f_ZF_time_0 (nf : Nat) (p0 : Int32) (zTic : Int32) (zTiA : Nat → Int64) (x2 : Int32) : Option (Int64) :=
  (f_ZF_checkZone nf p0).bind fun _u =>
  if p0 < 0 ∨ 4 ≤ p0.toNatClampNeg then none else
  (f_ZF_checkIndex nf x2 zTic).bind fun _u =>
  if p0 < 0 ∨ 4 ≤ p0.toNatClampNeg then none else
  if x2 < 0 ∨ 200 ≤ x2.toNatClampNeg then none else
  some (zTiA x2.toNatClampNeg)
def f_ZF_time (nf : Nat) (p0 : Int32) (p1 : Int32) (zTic : Int32) (zTiA : Nat → Int64) : Option (Int64) :=
  f_ZF_time_0 nf p0 zTic zTiA p1
section
variable {p : Program} {l : Launch} {e : Env} {R : Room} {s : State} {m : MethodId} {args : Array Value} {below : List Frame} {meth : Method} {c : Code} {Q : State → Prop} {dC : Nat → ClassId} {dI : Nat → Nat → Nat} {nf : Nat}
variable {h0 : Nat} {zfTp : Nat} {zfWr : Nat} {zfZs : Nat} {zfSp : Nat} {zfLt : Nat} {zfSt : Nat} {zfFd : Nat} {zz : Nat} {zTi : Nat} {zTt : Nat} {zOf : Nat} {zDs : Nat} {zIx : Nat} {zSd : Nat} {zUt : Nat} {zCh : Nat} {zLt : Nat} {zLo : Nat} {zRu : Nat} {cAzfZs : ClassId} {cAzTi : ClassId} {p0 : Int32} {zfFc : Int32} {zfFp : Int32} {zg : Nat → Option Nat} {zVer : Int32} {zTic : Int32} {zTyc : Int32} {zLec : Int32} {zStc : Int32} {zUtc : Int32} {zTiA : Nat → Int64} {r0 : Int64}
set_option maxHeartbeats 400000 in
set_option maxRecDepth 100000 in
theorem k_ZF_time_0 (C0 : Cx p s m meth c args R b_ZF_time "ZoneFiles" 3 (some .long) 1 21) (hST : ST (fun _ => False) s s.heap) (hK : va_K (dC, dI) classes [(cAzfZs, .object "ZoneFiles$Zone"), (cAzTi, .long)] s) (hP : va_P (dC, dI) classes [(h0, .inr (9, [.ref zfTp, .ref zfWr, .ref zfZs, .ref zfSp, .ref zfLt, .ref zfSt, .ref zfFd, .int zfFc, .int zfFp])), (zfZs, .inl (cAzfZs, 4, .inr (.inr (.inr (.inr zg))))), (zz, .inr (8, [.int zVer, .int zTic, .int zTyc, .int zLec, .int zStc, .int zUtc, .ref zTi, .ref zTt, .ref zOf, .ref zDs, .ref zIx, .ref zSd, .ref zUt, .ref zCh, .ref zLt, .ref zLo, .ref zRu])), (zTi, .inl (cAzTi, 200, .inr (.inl zTiA)))] s.heap) (hz : zg p0.toNatClampNeg = some zz) (hE : ∀ (pc : Nat) (ls : Array Slot), decode b_ZF_time pc = .ok (.lreturn, 1) → W p l e R s m args below meth c s.heap [] 0 0 Q (F0 m pc ls [.long r0])) {x2 : Int32} (hf : f_ZF_time_0 nf p0 zTic zTiA x2 = some r0) {ls : Array Slot} (hl : lv_has ls 3 [(0, .ref h0), (1, .int p0), (2, .int x2)]) : W p l e R s m args below meth c s.heap [] 0 0 Q (F0 m 0 ls []) := by
  obtain ⟨hx, hb, hr, hml, hown, hts, hlocks, hRf, hRl⟩ := id C0
  obtain ⟨tms, hZms, hTms, tmg, hZmg, hTmg, hNW⟩ := id hST
  unfold f_ZF_time_0 at hf
  refine lv_iload_n hx hb d_ZF_time_0 rfl (lv_at hl 1 rfl) ?_
  obtain ⟨_u, hc, hf⟩ := ob hf
  refine cl_S (v := none) (st1 := []) (va_runS (As := [.int p0]) (rest := []) ⟨hx, hb, hml, hown, hts⟩ (c_ZF_checkZone l dC dI nf p0 hc) (va_cwS 1 hts (gdS m_3_131 m_3_132 m_1_1 m_3_133) rfl rfl rfl (by decide +kernel) ⟨Nat.le_trans (Nat.le_of_ble_eq_true rfl) hRf, Nat.le_trans (Nat.le_of_ble_eq_true rfl) hRl⟩) (RO.pre0 hK hST).sta rfl rfl hl.1 rfl (lv_room (Nat.le_of_ble_eq_true rfl)) d_ZF_time_1 ⟨Nat.zero_le _, Nat.zero_le _⟩) rfl ?_
  refine lv_iload_n hx hb d_ZF_time_4 rfl (lv_at hl 2 rfl) ?_
  refine lv_aload_n hx hb d_ZF_time_5 rfl (lv_at hl 0 rfl) ?_
  refine va_get (D := (dC, dI)) (ci := 9) (v := .ref zfZs) (C := RZoneFiles) (T := TZoneFiles) (N := 9) hx hb hts in_ZoneFiles hown hK hP 0 rfl rfl 2 (by decide) (hts (.fieldLink "ZoneFiles" 23 "ZoneFiles" "zones" "[LZoneFiles$Zone;") m_2_119) (fun _ h9 => h9) rfl d_ZF_time_6 ?_
  refine lv_iload_n hx hb d_ZF_time_9 rfl (lv_at hl 1 rfl) ?_
  obtain ⟨c_1, hf⟩ := it_n hf
  refine zf_ald (zz := zz) hx hb hK hP 1 0 rfl rfl c_1 hz d_ZF_time_10 ?_
  refine va_get (D := (dC, dI)) (ci := 8) (v := .int zTic) (C := RZone) (T := TZone) (N := 17) hx hb hts in_Zone hown hK hP 2 rfl rfl 1 (by decide) (hts (.fieldLink "ZoneFiles" 138 "ZoneFiles$Zone" "timeCount" "I") m_1_169) (fun _ h9 => h9) rfl d_ZF_time_11 ?_
  obtain ⟨_u, hc, hf⟩ := ob hf
  refine cl_S (v := none) (st1 := []) (va_runS (As := [.int x2, .int zTic]) (rest := []) ⟨hx, hb, hml, hown, hts⟩ (c_ZF_checkIndex l dC dI nf x2 zTic hc) (va_cwS 2 hts (gdS m_4_234 m_4_235 m_1_1 m_4_236) rfl rfl rfl (by decide +kernel) ⟨Nat.le_trans (Nat.le_of_ble_eq_true rfl) hRf, Nat.le_trans (Nat.le_of_ble_eq_true rfl) hRl⟩) (RO.pre0 hK hST).sta rfl rfl hl.1 rfl (lv_room (Nat.le_of_ble_eq_true rfl)) d_ZF_time_14 ⟨Nat.zero_le _, Nat.zero_le _⟩) rfl ?_
  refine lv_aload_n hx hb d_ZF_time_17 rfl (lv_at hl 0 rfl) ?_
  refine va_get (D := (dC, dI)) (ci := 9) (v := .ref zfZs) (C := RZoneFiles) (T := TZoneFiles) (N := 9) hx hb hts in_ZoneFiles hown hK hP 0 rfl rfl 2 (by decide) (hts (.fieldLink "ZoneFiles" 23 "ZoneFiles" "zones" "[LZoneFiles$Zone;") m_2_119) (fun _ h9 => h9) rfl d_ZF_time_18 ?_
  refine lv_iload_n hx hb d_ZF_time_21 rfl (lv_at hl 1 rfl) ?_
  obtain ⟨c_2, hf⟩ := it_n hf
  refine zf_ald (zz := zz) hx hb hK hP 1 0 rfl rfl c_2 hz d_ZF_time_22 ?_
  refine va_get (D := (dC, dI)) (ci := 8) (v := .ref zTi) (C := RZone) (T := TZone) (N := 17) hx hb hts in_Zone hown hK hP 2 rfl rfl 6 (by decide) (hts (.fieldLink "ZoneFiles" 170 "ZoneFiles$Zone" "times" "[J") m_1_189) (fun _ h9 => h9) rfl d_ZF_time_23 ?_
  refine lv_iload_n hx hb d_ZF_time_26 rfl (lv_at hl 2 rfl) ?_
  obtain ⟨c_3, hf⟩ := it_n hf
  refine va_lald hx hb hK hP 3 1 rfl rfl c_3 d_ZF_time_27 ?_
  have e := rs hf
  subst e
  exact hE _ _ d_ZF_time_28
end
set_option maxHeartbeats 400000 in
set_option maxRecDepth 100000 in
theorem c_ZF_time (l : Launch) (dC : Nat → ClassId) (dI : Nat → Nat → Nat) (h0 : Nat) (zfTp : Nat) (zfWr : Nat) (zfZs : Nat) (zfSp : Nat) (zfLt : Nat) (zfSt : Nat) (zfFd : Nat) (zz : Nat) (zTi : Nat) (zTt : Nat) (zOf : Nat) (zDs : Nat) (zIx : Nat) (zSd : Nat) (zUt : Nat) (zCh : Nat) (zLt : Nat) (zLo : Nat) (zRu : Nat) (cAzfZs : ClassId) (cAzTi : ClassId) (nf : Nat) (p0 : Int32) (p1 : Int32) (zfFc : Int32) (zfFp : Int32) (zg : Nat → Option Nat) (zVer : Int32) (zTic : Int32) (zTyc : Int32) (zLec : Int32) (zStc : Int32) (zUtc : Int32) (zTiA : Nat → Int64) {r0 : Int64} (hf : f_ZF_time nf p0 p1 zTic zTiA = some r0) (hz : zg p0.toNatClampNeg = some zz) : Met l y_ZF_time (wd y_ZF_time b_ZF_time 3 (some .long)) ({ frames := 1, cells := 0, slots := 0, locals := 21 }) (RO dC dI [(h0, .inr (9, [.ref zfTp, .ref zfWr, .ref zfZs, .ref zfSp, .ref zfLt, .ref zfSt, .ref zfFd, .int zfFc, .int zfFp])), (zfZs, .inl (cAzfZs, 4, .inr (.inr (.inr (.inr zg))))), (zz, .inr (8, [.int zVer, .int zTic, .int zTyc, .int zLec, .int zStc, .int zUtc, .ref zTi, .ref zTt, .ref zOf, .ref zDs, .ref zIx, .ref zSd, .ref zUt, .ref zCh, .ref zLt, .ref zLo, .ref zRu])), (zTi, .inl (cAzTi, 200, .inr (.inl zTiA)))] [(cAzfZs, .object "ZoneFiles$Zone"), (cAzTi, .long)] [.ref h0, .int p0, .int p1]) (SV (some (.long r0))) 0 0 (fun _ => False) :=
  met_S (plainFor_of_name (by decide)) (Nat.le_of_ble_eq_true rfl) (fun p e R s m args below meth c ls C0 hST hK hP hl => by
    obtain ⟨hx, hb, hr, hml, hown, hts, hlocks, hRf, hRl⟩ := id C0
    unfold f_ZF_time at hf
    exact k_ZF_time_0 C0 hST hK hP hz (fun pc ls hd => W.lret hx hb hr (fun t ht hW => ⟨rfl, ht⟩) (fun q h => by cases h) hd) hf (lv_sub hl [0, 1, 2] rfl))
-- ZoneFiles.typeAt(II)I
def f_ZF_typeAt_0 (nf : Nat) (p0 : Int32) (zTic : Int32) (zTtA : Nat → Int32) (x2 : Int32) : Option (Int32) :=
  (f_ZF_checkZone nf p0).bind fun _u =>
  if p0 < 0 ∨ 4 ≤ p0.toNatClampNeg then none else
  (f_ZF_checkIndex nf x2 zTic).bind fun _u =>
  if p0 < 0 ∨ 4 ≤ p0.toNatClampNeg then none else
  if x2 < 0 ∨ 200 ≤ x2.toNatClampNeg then none else
  some (zTtA x2.toNatClampNeg)
def f_ZF_typeAt (nf : Nat) (p0 : Int32) (p1 : Int32) (zTic : Int32) (zTtA : Nat → Int32) : Option (Int32) :=
  f_ZF_typeAt_0 nf p0 zTic zTtA p1
section
variable {p : Program} {l : Launch} {e : Env} {R : Room} {s : State} {m : MethodId} {args : Array Value} {below : List Frame} {meth : Method} {c : Code} {Q : State → Prop} {dC : Nat → ClassId} {dI : Nat → Nat → Nat} {nf : Nat}
variable {h0 : Nat} {zfTp : Nat} {zfWr : Nat} {zfZs : Nat} {zfSp : Nat} {zfLt : Nat} {zfSt : Nat} {zfFd : Nat} {zz : Nat} {zTi : Nat} {zTt : Nat} {zOf : Nat} {zDs : Nat} {zIx : Nat} {zSd : Nat} {zUt : Nat} {zCh : Nat} {zLt : Nat} {zLo : Nat} {zRu : Nat} {cAzfZs : ClassId} {cAzTt : ClassId} {p0 : Int32} {zfFc : Int32} {zfFp : Int32} {zg : Nat → Option Nat} {zVer : Int32} {zTic : Int32} {zTyc : Int32} {zLec : Int32} {zStc : Int32} {zUtc : Int32} {zTtA : Nat → Int32} {r0 : Int32}
set_option maxHeartbeats 400000 in
set_option maxRecDepth 100000 in
theorem k_ZF_typeAt_0 (C0 : Cx p s m meth c args R b_ZF_typeAt "ZoneFiles" 3 (some .int) 1 21) (hST : ST (fun _ => False) s s.heap) (hK : va_K (dC, dI) classes [(cAzfZs, .object "ZoneFiles$Zone"), (cAzTt, .int)] s) (hP : va_P (dC, dI) classes [(h0, .inr (9, [.ref zfTp, .ref zfWr, .ref zfZs, .ref zfSp, .ref zfLt, .ref zfSt, .ref zfFd, .int zfFc, .int zfFp])), (zfZs, .inl (cAzfZs, 4, .inr (.inr (.inr (.inr zg))))), (zz, .inr (8, [.int zVer, .int zTic, .int zTyc, .int zLec, .int zStc, .int zUtc, .ref zTi, .ref zTt, .ref zOf, .ref zDs, .ref zIx, .ref zSd, .ref zUt, .ref zCh, .ref zLt, .ref zLo, .ref zRu])), (zTt, .inl (cAzTt, 200, .inl zTtA))] s.heap) (hz : zg p0.toNatClampNeg = some zz) (hE : ∀ (pc : Nat) (ls : Array Slot), decode b_ZF_typeAt pc = .ok (.ireturn, 1) → narrow .int (.int r0) = .int r0 → W p l e R s m args below meth c s.heap [] 0 0 Q (F0 m pc ls [.int r0])) {x2 : Int32} (hf : f_ZF_typeAt_0 nf p0 zTic zTtA x2 = some r0) {ls : Array Slot} (hl : lv_has ls 3 [(0, .ref h0), (1, .int p0), (2, .int x2)]) : W p l e R s m args below meth c s.heap [] 0 0 Q (F0 m 0 ls []) := by
  obtain ⟨hx, hb, hr, hml, hown, hts, hlocks, hRf, hRl⟩ := id C0
  obtain ⟨tms, hZms, hTms, tmg, hZmg, hTmg, hNW⟩ := id hST
  unfold f_ZF_typeAt_0 at hf
  refine lv_iload_n hx hb d_ZF_typeAt_0 rfl (lv_at hl 1 rfl) ?_
  obtain ⟨_u, hc, hf⟩ := ob hf
  refine cl_S (v := none) (st1 := []) (va_runS (As := [.int p0]) (rest := []) ⟨hx, hb, hml, hown, hts⟩ (c_ZF_checkZone l dC dI nf p0 hc) (va_cwS 1 hts (gdS m_3_131 m_3_132 m_1_1 m_3_133) rfl rfl rfl (by decide +kernel) ⟨Nat.le_trans (Nat.le_of_ble_eq_true rfl) hRf, Nat.le_trans (Nat.le_of_ble_eq_true rfl) hRl⟩) (RO.pre0 hK hST).sta rfl rfl hl.1 rfl (lv_room (Nat.le_of_ble_eq_true rfl)) d_ZF_typeAt_1 ⟨Nat.zero_le _, Nat.zero_le _⟩) rfl ?_
  refine lv_iload_n hx hb d_ZF_typeAt_4 rfl (lv_at hl 2 rfl) ?_
  refine lv_aload_n hx hb d_ZF_typeAt_5 rfl (lv_at hl 0 rfl) ?_
  refine va_get (D := (dC, dI)) (ci := 9) (v := .ref zfZs) (C := RZoneFiles) (T := TZoneFiles) (N := 9) hx hb hts in_ZoneFiles hown hK hP 0 rfl rfl 2 (by decide) (hts (.fieldLink "ZoneFiles" 23 "ZoneFiles" "zones" "[LZoneFiles$Zone;") m_2_119) (fun _ h9 => h9) rfl d_ZF_typeAt_6 ?_
  refine lv_iload_n hx hb d_ZF_typeAt_9 rfl (lv_at hl 1 rfl) ?_
  obtain ⟨c_1, hf⟩ := it_n hf
  refine zf_ald (zz := zz) hx hb hK hP 1 0 rfl rfl c_1 hz d_ZF_typeAt_10 ?_
  refine va_get (D := (dC, dI)) (ci := 8) (v := .int zTic) (C := RZone) (T := TZone) (N := 17) hx hb hts in_Zone hown hK hP 2 rfl rfl 1 (by decide) (hts (.fieldLink "ZoneFiles" 138 "ZoneFiles$Zone" "timeCount" "I") m_1_169) (fun _ h9 => h9) rfl d_ZF_typeAt_11 ?_
  obtain ⟨_u, hc, hf⟩ := ob hf
  refine cl_S (v := none) (st1 := []) (va_runS (As := [.int x2, .int zTic]) (rest := []) ⟨hx, hb, hml, hown, hts⟩ (c_ZF_checkIndex l dC dI nf x2 zTic hc) (va_cwS 2 hts (gdS m_4_234 m_4_235 m_1_1 m_4_236) rfl rfl rfl (by decide +kernel) ⟨Nat.le_trans (Nat.le_of_ble_eq_true rfl) hRf, Nat.le_trans (Nat.le_of_ble_eq_true rfl) hRl⟩) (RO.pre0 hK hST).sta rfl rfl hl.1 rfl (lv_room (Nat.le_of_ble_eq_true rfl)) d_ZF_typeAt_14 ⟨Nat.zero_le _, Nat.zero_le _⟩) rfl ?_
  refine lv_aload_n hx hb d_ZF_typeAt_17 rfl (lv_at hl 0 rfl) ?_
  refine va_get (D := (dC, dI)) (ci := 9) (v := .ref zfZs) (C := RZoneFiles) (T := TZoneFiles) (N := 9) hx hb hts in_ZoneFiles hown hK hP 0 rfl rfl 2 (by decide) (hts (.fieldLink "ZoneFiles" 23 "ZoneFiles" "zones" "[LZoneFiles$Zone;") m_2_119) (fun _ h9 => h9) rfl d_ZF_typeAt_18 ?_
  refine lv_iload_n hx hb d_ZF_typeAt_21 rfl (lv_at hl 1 rfl) ?_
  obtain ⟨c_2, hf⟩ := it_n hf
  refine zf_ald (zz := zz) hx hb hK hP 1 0 rfl rfl c_2 hz d_ZF_typeAt_22 ?_
  refine va_get (D := (dC, dI)) (ci := 8) (v := .ref zTt) (C := RZone) (T := TZone) (N := 17) hx hb hts in_Zone hown hK hP 2 rfl rfl 7 (by decide) (hts (.fieldLink "ZoneFiles" 173 "ZoneFiles$Zone" "timeTypes" "[I") m_1_193) (fun _ h9 => h9) rfl d_ZF_typeAt_23 ?_
  refine lv_iload_n hx hb d_ZF_typeAt_26 rfl (lv_at hl 2 rfl) ?_
  obtain ⟨c_3, hf⟩ := it_n hf
  refine va_iald hx hb hK hP 3 1 rfl rfl c_3 d_ZF_typeAt_27 ?_
  have e := rs hf
  subst e
  exact hE _ _ d_ZF_typeAt_28 rfl
end
set_option maxHeartbeats 400000 in
set_option maxRecDepth 100000 in
theorem c_ZF_typeAt (l : Launch) (dC : Nat → ClassId) (dI : Nat → Nat → Nat) (h0 : Nat) (zfTp : Nat) (zfWr : Nat) (zfZs : Nat) (zfSp : Nat) (zfLt : Nat) (zfSt : Nat) (zfFd : Nat) (zz : Nat) (zTi : Nat) (zTt : Nat) (zOf : Nat) (zDs : Nat) (zIx : Nat) (zSd : Nat) (zUt : Nat) (zCh : Nat) (zLt : Nat) (zLo : Nat) (zRu : Nat) (cAzfZs : ClassId) (cAzTt : ClassId) (nf : Nat) (p0 : Int32) (p1 : Int32) (zfFc : Int32) (zfFp : Int32) (zg : Nat → Option Nat) (zVer : Int32) (zTic : Int32) (zTyc : Int32) (zLec : Int32) (zStc : Int32) (zUtc : Int32) (zTtA : Nat → Int32) {r0 : Int32} (hf : f_ZF_typeAt nf p0 p1 zTic zTtA = some r0) (hz : zg p0.toNatClampNeg = some zz) : Met l y_ZF_typeAt (wd y_ZF_typeAt b_ZF_typeAt 3 (some .int)) ({ frames := 1, cells := 0, slots := 0, locals := 21 }) (RO dC dI [(h0, .inr (9, [.ref zfTp, .ref zfWr, .ref zfZs, .ref zfSp, .ref zfLt, .ref zfSt, .ref zfFd, .int zfFc, .int zfFp])), (zfZs, .inl (cAzfZs, 4, .inr (.inr (.inr (.inr zg))))), (zz, .inr (8, [.int zVer, .int zTic, .int zTyc, .int zLec, .int zStc, .int zUtc, .ref zTi, .ref zTt, .ref zOf, .ref zDs, .ref zIx, .ref zSd, .ref zUt, .ref zCh, .ref zLt, .ref zLo, .ref zRu])), (zTt, .inl (cAzTt, 200, .inl zTtA))] [(cAzfZs, .object "ZoneFiles$Zone"), (cAzTt, .int)] [.ref h0, .int p0, .int p1]) (SV (some (.int r0))) 0 0 (fun _ => False) :=
  met_S (plainFor_of_name (by decide)) (Nat.le_of_ble_eq_true rfl) (fun p e R s m args below meth c ls C0 hST hK hP hl => by
    obtain ⟨hx, hb, hr, hml, hown, hts, hlocks, hRf, hRl⟩ := id C0
    unfold f_ZF_typeAt at hf
    exact k_ZF_typeAt_0 C0 hST hK hP hz (fun pc ls hd hn => W.zret hx hb hr hn (fun t ht hW => ⟨rfl, ht⟩) (fun q h => by cases h) hd) hf (lv_sub hl [0, 1, 2] rfl))
-- ZoneFiles.type(III)I
def f_ZF_type_111 (nf : Nat) (s0 : Int32) : Option (Int32) :=
  some s0
def f_ZF_type_132 (nf : Nat) (s0 : Int32) : Option (Int32) :=
  some s0
def f_ZF_type_0 (nf : Nat) (p0 : Int32) (zTyc : Int32) (zStc : Int32) (zUtc : Int32) (zOfA : Nat → Int32) (zDsA : Nat → Int32) (zIxA : Nat → Int32) (zSdA : Nat → Int32) (zUtA : Nat → Int32) (chS : Int32) (chN : Nat) (chA : Nat → Int32) (ruSs : Int32) (ruUs : Int32) (x2 : Int32) (x3 : Int32) : Option (Int32) :=
  (f_ZF_checkZone nf p0).bind fun _u =>
  if p0 < 0 ∨ 4 ≤ p0.toNatClampNeg then none else
  (f_ZF_checkIndex nf x2 zTyc).bind fun _u =>
  if x3 = 0 then
  if x2 < 0 ∨ 40 ≤ x2.toNatClampNeg then none else
    some (zOfA x2.toNatClampNeg)
  else
  if x3 = 1 then
    if x2 < 0 ∨ 40 ≤ x2.toNatClampNeg then none else
      some (zDsA x2.toNatClampNeg)
    else
    if x3 = 2 then
      if x2 < 0 ∨ 40 ≤ x2.toNatClampNeg then none else
        some (zIxA x2.toNatClampNeg)
      else
      if x3 = 3 then
        (f_Zone_nameSize nf x2 zTyc zIxA chS chN chA ruSs ruUs).bind fun r_9 =>
          some r_9
        else
        if x3 = 4 then
          if zStc ≤ x2 then
            f_ZF_type_111 nf 0
            else
            if x2 < 0 ∨ 40 ≤ x2.toNatClampNeg then none else
              f_ZF_type_111 nf (zSdA x2.toNatClampNeg)
          else
          if x3 = 5 then
            if zUtc ≤ x2 then
              f_ZF_type_132 nf 0
              else
              if x2 < 0 ∨ 40 ≤ x2.toNatClampNeg then none else
                f_ZF_type_132 nf (zUtA x2.toNatClampNeg)
            else
            none
def f_ZF_type (nf : Nat) (p0 : Int32) (p1 : Int32) (p2 : Int32) (zTyc : Int32) (zStc : Int32) (zUtc : Int32) (zOfA : Nat → Int32) (zDsA : Nat → Int32) (zIxA : Nat → Int32) (zSdA : Nat → Int32) (zUtA : Nat → Int32) (chS : Int32) (chN : Nat) (chA : Nat → Int32) (ruSs : Int32) (ruUs : Int32) : Option (Int32) :=
  f_ZF_type_0 nf p0 zTyc zStc zUtc zOfA zDsA zIxA zSdA zUtA chS chN chA ruSs ruUs p1 p2
section
variable {p : Program} {l : Launch} {e : Env} {R : Room} {s : State} {m : MethodId} {args : Array Value} {below : List Frame} {meth : Method} {c : Code} {Q : State → Prop} {dC : Nat → ClassId} {dI : Nat → Nat → Nat} {nf : Nat}
variable {h0 : Nat} {zfTp : Nat} {zfWr : Nat} {zfZs : Nat} {zfSp : Nat} {zfLt : Nat} {zfSt : Nat} {zfFd : Nat} {zz : Nat} {zTi : Nat} {zTt : Nat} {zOf : Nat} {zDs : Nat} {zIx : Nat} {zSd : Nat} {zUt : Nat} {zCh : Nat} {zLt : Nat} {zLo : Nat} {zRu : Nat} {chR : Nat} {ruT : Nat} {ruB : Nat} {ruE : Nat} {cAzfZs : ClassId} {cAzOf : ClassId} {cAzDs : ClassId} {cAzIx : ClassId} {cAzSd : ClassId} {cAzUt : ClassId} {cAchR : ClassId} {p0 : Int32} {zfFc : Int32} {zfFp : Int32} {zg : Nat → Option Nat} {zVer : Int32} {zTic : Int32} {zTyc : Int32} {zLec : Int32} {zStc : Int32} {zUtc : Int32} {zOfA : Nat → Int32} {zDsA : Nat → Int32} {zIxA : Nat → Int32} {zSdA : Nat → Int32} {zUtA : Nat → Int32} {chS : Int32} {chN : Nat} {chA : Nat → Int32} {ruHas : Int32} {ruWide : Int32} {ruSo : Int32} {ruUo : Int32} {ruSp : Int32} {ruSs : Int32} {ruUp : Int32} {ruUs : Int32} {ruNev : Int32} {r0 : Int32}
set_option maxHeartbeats 400000 in
set_option maxRecDepth 100000 in
theorem k_ZF_type_111 (C0 : Cx p s m meth c args R b_ZF_type "ZoneFiles" 5 (some .int) 2 44) (hST : ST (fun _ => False) s s.heap) (hK : va_K (dC, dI) classes [(cAzfZs, .object "ZoneFiles$Zone"), (cAzOf, .int), (cAzDs, .int), (cAzIx, .int), (cAzSd, .int), (cAzUt, .int), (cAchR, .byte)] s) (hP : va_P (dC, dI) classes [(h0, .inr (9, [.ref zfTp, .ref zfWr, .ref zfZs, .ref zfSp, .ref zfLt, .ref zfSt, .ref zfFd, .int zfFc, .int zfFp])), (zfZs, .inl (cAzfZs, 4, .inr (.inr (.inr (.inr zg))))), (zz, .inr (8, [.int zVer, .int zTic, .int zTyc, .int zLec, .int zStc, .int zUtc, .ref zTi, .ref zTt, .ref zOf, .ref zDs, .ref zIx, .ref zSd, .ref zUt, .ref zCh, .ref zLt, .ref zLo, .ref zRu])), (zOf, .inl (cAzOf, 40, .inl zOfA)), (zDs, .inl (cAzDs, 40, .inl zDsA)), (zIx, .inl (cAzIx, 40, .inl zIxA)), (zSd, .inl (cAzSd, 40, .inl zSdA)), (zUt, .inl (cAzUt, 40, .inl zUtA)), (zCh, .inr (0, [.ref chR, .int chS])), (chR, .inl (cAchR, chN, .inl chA)), (zRu, .inr (5, [.ref ruT, .ref ruB, .ref ruE, .int ruHas, .int ruWide, .int ruSo, .int ruUo, .int ruSp, .int ruSs, .int ruUp, .int ruUs, .int ruNev]))] s.heap) (hz : zg p0.toNatClampNeg = some zz) (hE : ∀ (pc : Nat) (ls : Array Slot), decode b_ZF_type pc = .ok (.ireturn, 1) → narrow .int (.int r0) = .int r0 → W p l e R s m args below meth c s.heap [] 0 0 Q (F0 m pc ls [.int r0])) {s0 : Int32} (hf : f_ZF_type_111 nf s0 = some r0) {ls : Array Slot} (hl : lv_has ls 5 []) : W p l e R s m args below meth c s.heap [] 0 0 Q (F0 m 111 ls [.int s0]) := by
  obtain ⟨hx, hb, hr, hml, hown, hts, hlocks, hRf, hRl⟩ := id C0
  obtain ⟨tms, hZms, hTms, tmg, hZmg, hTmg, hNW⟩ := id hST
  unfold f_ZF_type_111 at hf
  have e := rs hf
  subst e
  exact hE _ _ d_ZF_type_111 rfl
set_option maxHeartbeats 400000 in
set_option maxRecDepth 100000 in
theorem k_ZF_type_132 (C0 : Cx p s m meth c args R b_ZF_type "ZoneFiles" 5 (some .int) 2 44) (hST : ST (fun _ => False) s s.heap) (hK : va_K (dC, dI) classes [(cAzfZs, .object "ZoneFiles$Zone"), (cAzOf, .int), (cAzDs, .int), (cAzIx, .int), (cAzSd, .int), (cAzUt, .int), (cAchR, .byte)] s) (hP : va_P (dC, dI) classes [(h0, .inr (9, [.ref zfTp, .ref zfWr, .ref zfZs, .ref zfSp, .ref zfLt, .ref zfSt, .ref zfFd, .int zfFc, .int zfFp])), (zfZs, .inl (cAzfZs, 4, .inr (.inr (.inr (.inr zg))))), (zz, .inr (8, [.int zVer, .int zTic, .int zTyc, .int zLec, .int zStc, .int zUtc, .ref zTi, .ref zTt, .ref zOf, .ref zDs, .ref zIx, .ref zSd, .ref zUt, .ref zCh, .ref zLt, .ref zLo, .ref zRu])), (zOf, .inl (cAzOf, 40, .inl zOfA)), (zDs, .inl (cAzDs, 40, .inl zDsA)), (zIx, .inl (cAzIx, 40, .inl zIxA)), (zSd, .inl (cAzSd, 40, .inl zSdA)), (zUt, .inl (cAzUt, 40, .inl zUtA)), (zCh, .inr (0, [.ref chR, .int chS])), (chR, .inl (cAchR, chN, .inl chA)), (zRu, .inr (5, [.ref ruT, .ref ruB, .ref ruE, .int ruHas, .int ruWide, .int ruSo, .int ruUo, .int ruSp, .int ruSs, .int ruUp, .int ruUs, .int ruNev]))] s.heap) (hz : zg p0.toNatClampNeg = some zz) (hE : ∀ (pc : Nat) (ls : Array Slot), decode b_ZF_type pc = .ok (.ireturn, 1) → narrow .int (.int r0) = .int r0 → W p l e R s m args below meth c s.heap [] 0 0 Q (F0 m pc ls [.int r0])) {s0 : Int32} (hf : f_ZF_type_132 nf s0 = some r0) {ls : Array Slot} (hl : lv_has ls 5 []) : W p l e R s m args below meth c s.heap [] 0 0 Q (F0 m 132 ls [.int s0]) := by
  obtain ⟨hx, hb, hr, hml, hown, hts, hlocks, hRf, hRl⟩ := id C0
  obtain ⟨tms, hZms, hTms, tmg, hZmg, hTmg, hNW⟩ := id hST
  unfold f_ZF_type_132 at hf
  have e := rs hf
  subst e
  exact hE _ _ d_ZF_type_132 rfl
set_option maxHeartbeats 400000 in
set_option maxRecDepth 100000 in
theorem k_ZF_type_0 (C0 : Cx p s m meth c args R b_ZF_type "ZoneFiles" 5 (some .int) 2 44) (hST : ST (fun _ => False) s s.heap) (hK : va_K (dC, dI) classes [(cAzfZs, .object "ZoneFiles$Zone"), (cAzOf, .int), (cAzDs, .int), (cAzIx, .int), (cAzSd, .int), (cAzUt, .int), (cAchR, .byte)] s) (hP : va_P (dC, dI) classes [(h0, .inr (9, [.ref zfTp, .ref zfWr, .ref zfZs, .ref zfSp, .ref zfLt, .ref zfSt, .ref zfFd, .int zfFc, .int zfFp])), (zfZs, .inl (cAzfZs, 4, .inr (.inr (.inr (.inr zg))))), (zz, .inr (8, [.int zVer, .int zTic, .int zTyc, .int zLec, .int zStc, .int zUtc, .ref zTi, .ref zTt, .ref zOf, .ref zDs, .ref zIx, .ref zSd, .ref zUt, .ref zCh, .ref zLt, .ref zLo, .ref zRu])), (zOf, .inl (cAzOf, 40, .inl zOfA)), (zDs, .inl (cAzDs, 40, .inl zDsA)), (zIx, .inl (cAzIx, 40, .inl zIxA)), (zSd, .inl (cAzSd, 40, .inl zSdA)), (zUt, .inl (cAzUt, 40, .inl zUtA)), (zCh, .inr (0, [.ref chR, .int chS])), (chR, .inl (cAchR, chN, .inl chA)), (zRu, .inr (5, [.ref ruT, .ref ruB, .ref ruE, .int ruHas, .int ruWide, .int ruSo, .int ruUo, .int ruSp, .int ruSs, .int ruUp, .int ruUs, .int ruNev]))] s.heap) (hz : zg p0.toNatClampNeg = some zz) (hE : ∀ (pc : Nat) (ls : Array Slot), decode b_ZF_type pc = .ok (.ireturn, 1) → narrow .int (.int r0) = .int r0 → W p l e R s m args below meth c s.heap [] 0 0 Q (F0 m pc ls [.int r0])) {x2 : Int32} {x3 : Int32} (hf : f_ZF_type_0 nf p0 zTyc zStc zUtc zOfA zDsA zIxA zSdA zUtA chS chN chA ruSs ruUs x2 x3 = some r0) {ls : Array Slot} (hl : lv_has ls 5 [(0, .ref h0), (1, .int p0), (2, .int x2), (3, .int x3)]) : W p l e R s m args below meth c s.heap [] 0 0 Q (F0 m 0 ls []) := by
  obtain ⟨hx, hb, hr, hml, hown, hts, hlocks, hRf, hRl⟩ := id C0
  obtain ⟨tms, hZms, hTms, tmg, hZmg, hTmg, hNW⟩ := id hST
  unfold f_ZF_type_0 at hf
  refine lv_iload_n hx hb d_ZF_type_0 rfl (lv_at hl 1 rfl) ?_
  obtain ⟨_u, hc, hf⟩ := ob hf
  refine cl_S (v := none) (st1 := []) (va_runS (As := [.int p0]) (rest := []) ⟨hx, hb, hml, hown, hts⟩ (c_ZF_checkZone l dC dI nf p0 hc) (va_cwS 1 hts (gdS m_3_131 m_3_132 m_1_1 m_3_133) rfl rfl rfl (by decide +kernel) ⟨Nat.le_trans (Nat.le_of_ble_eq_true rfl) hRf, Nat.le_trans (Nat.le_of_ble_eq_true rfl) hRl⟩) (RO.pre0 hK hST).sta rfl rfl hl.1 rfl (lv_room (Nat.le_of_ble_eq_true rfl)) d_ZF_type_1 ⟨Nat.zero_le _, Nat.zero_le _⟩) rfl ?_
  refine lv_aload_n hx hb d_ZF_type_4 rfl (lv_at hl 0 rfl) ?_
  refine va_get (D := (dC, dI)) (ci := 9) (v := .ref zfZs) (C := RZoneFiles) (T := TZoneFiles) (N := 9) hx hb hts in_ZoneFiles hown hK hP 0 rfl rfl 2 (by decide) (hts (.fieldLink "ZoneFiles" 23 "ZoneFiles" "zones" "[LZoneFiles$Zone;") m_2_119) (fun _ h9 => h9) rfl d_ZF_type_5 ?_
  refine lv_iload_n hx hb d_ZF_type_8 rfl (lv_at hl 1 rfl) ?_
  obtain ⟨c_1, hf⟩ := it_n hf
  refine zf_ald (zz := zz) hx hb hK hP 1 0 rfl rfl c_1 hz d_ZF_type_9 ?_
  refine lv_astore (lv' := [(4, .ref zz), (0, .ref h0), (1, .int p0), (2, .int x2), (3, .int x3)]) hx hb d_ZF_type_10 hl (by decide) rfl (fun ls hl => ?_)
  refine lv_iload_n hx hb d_ZF_type_12 rfl (lv_at hl 3 rfl) ?_
  refine lv_aload hx hb d_ZF_type_13 (lv_at hl 0 rfl) ?_
  refine va_get (D := (dC, dI)) (ci := 8) (v := .int zTyc) (C := RZone) (T := TZone) (N := 17) hx hb hts in_Zone hown hK hP 2 rfl rfl 2 (by decide) (hts (.fieldLink "ZoneFiles" 141 "ZoneFiles$Zone" "typeCount" "I") m_1_172) (fun _ h9 => h9) rfl d_ZF_type_15 ?_
  obtain ⟨_u, hc, hf⟩ := ob hf
  refine cl_S (v := none) (st1 := []) (va_runS (As := [.int x2, .int zTyc]) (rest := []) ⟨hx, hb, hml, hown, hts⟩ (c_ZF_checkIndex l dC dI nf x2 zTyc hc) (va_cwS 2 hts (gdS m_4_234 m_4_235 m_1_1 m_4_236) rfl rfl rfl (by decide +kernel) ⟨Nat.le_trans (Nat.le_of_ble_eq_true rfl) hRf, Nat.le_trans (Nat.le_of_ble_eq_true rfl) hRl⟩) (RO.pre0 hK hST).sta rfl rfl hl.1 rfl (lv_room (Nat.le_of_ble_eq_true rfl)) d_ZF_type_18 ⟨Nat.zero_le _, Nat.zero_le _⟩) rfl ?_
  refine lv_iload_n hx hb d_ZF_type_21 rfl (lv_at hl 4 rfl) ?_
  by_cases c_2 : x3 = 0
  · have hf := it_t c_2 hf
    refine lv_tableIn (tgt := 60) hx hb d_ZF_type_22 (by rw [c_2]; decide) (by rw [c_2]; decide) (by rw [c_2]; rfl) (by decide) ?_
    refine lv_aload hx hb d_ZF_type_60 (lv_at hl 0 rfl) ?_
    refine va_get (D := (dC, dI)) (ci := 8) (v := .ref zOf) (C := RZone) (T := TZone) (N := 17) hx hb hts in_Zone hown hK hP 2 rfl rfl 8 (by decide) (hts (.fieldLink "ZoneFiles" 177 "ZoneFiles$Zone" "offsets" "[I") m_1_196) (fun _ h9 => h9) rfl d_ZF_type_62 ?_
    refine lv_iload_n hx hb d_ZF_type_65 rfl (lv_at hl 3 rfl) ?_
    obtain ⟨c_3, hf⟩ := it_n hf
    refine va_iald hx hb hK hP 3 1 rfl rfl c_3 d_ZF_type_66 ?_
    have e := rs hf
    subst e
    exact hE _ _ d_ZF_type_67 rfl
  · have hf := it_f c_2 hf
    by_cases c_4 : x3 = 1
    · have hf := it_t c_4 hf
      refine lv_tableIn (tgt := 68) hx hb d_ZF_type_22 (by rw [c_4]; decide) (by rw [c_4]; decide) (by rw [c_4]; rfl) (by decide) ?_
      refine lv_aload hx hb d_ZF_type_68 (lv_at hl 0 rfl) ?_
      refine va_get (D := (dC, dI)) (ci := 8) (v := .ref zDs) (C := RZone) (T := TZone) (N := 17) hx hb hts in_Zone hown hK hP 2 rfl rfl 9 (by decide) (hts (.fieldLink "ZoneFiles" 180 "ZoneFiles$Zone" "dsts" "[I") m_1_200) (fun _ h9 => h9) rfl d_ZF_type_70 ?_
      refine lv_iload_n hx hb d_ZF_type_73 rfl (lv_at hl 3 rfl) ?_
      obtain ⟨c_5, hf⟩ := it_n hf
      refine va_iald hx hb hK hP 4 2 rfl rfl c_5 d_ZF_type_74 ?_
      have e := rs hf
      subst e
      exact hE _ _ d_ZF_type_75 rfl
    · have hf := it_f c_4 hf
      by_cases c_6 : x3 = 2
      · have hf := it_t c_6 hf
        refine lv_tableIn (tgt := 76) hx hb d_ZF_type_22 (by rw [c_6]; decide) (by rw [c_6]; decide) (by rw [c_6]; rfl) (by decide) ?_
        refine lv_aload hx hb d_ZF_type_76 (lv_at hl 0 rfl) ?_
        refine va_get (D := (dC, dI)) (ci := 8) (v := .ref zIx) (C := RZone) (T := TZone) (N := 17) hx hb hts in_Zone hown hK hP 2 rfl rfl 10 (by decide) (hts (.fieldLink "ZoneFiles" 183 "ZoneFiles$Zone" "indexes" "[I") m_1_204) (fun _ h9 => h9) rfl d_ZF_type_78 ?_
        refine lv_iload_n hx hb d_ZF_type_81 rfl (lv_at hl 3 rfl) ?_
        obtain ⟨c_7, hf⟩ := it_n hf
        refine va_iald hx hb hK hP 5 3 rfl rfl c_7 d_ZF_type_82 ?_
        have e := rs hf
        subst e
        exact hE _ _ d_ZF_type_83 rfl
      · have hf := it_f c_6 hf
        by_cases c_8 : x3 = 3
        · have hf := it_t c_8 hf
          refine lv_tableIn (tgt := 84) hx hb d_ZF_type_22 (by rw [c_8]; decide) (by rw [c_8]; decide) (by rw [c_8]; rfl) (by decide) ?_
          refine lv_aload hx hb d_ZF_type_84 (lv_at hl 0 rfl) ?_
          refine lv_iload_n hx hb d_ZF_type_86 rfl (lv_at hl 3 rfl) ?_
          obtain ⟨r_9, hc, hf⟩ := ob hf
          refine cl_S (v := (some (.int r_9))) (st1 := [.int r_9]) (va_runV (As := [.int x2]) (rest := []) ⟨hx, hb, hml, hown, hts⟩ (c_Zone_nameSize l dC dI zz zTi zTt zOf zDs zIx zSd zUt zCh zLt zLo zRu chR ruT ruB ruE cAzIx cAchR nf x2 zVer zTic zTyc zLec zStc zUtc zIxA chS chN chA ruHas ruWide ruSo ruUo ruSp ruSs ruUp ruUs ruNev hc) (cwV 1 hts (gdV m_5_12 m_2_67 m_2_68 m_1_3 m_2_69) rfl rfl rfl (by decide +kernel) ⟨Nat.le_trans (Nat.le_of_ble_eq_true rfl) hRf, Nat.le_trans (Nat.le_of_ble_eq_true rfl) hRl⟩) ((RO.pre (hP.sub (ws' := [(zz, .inr (8, [.int zVer, .int zTic, .int zTyc, .int zLec, .int zStc, .int zUtc, .ref zTi, .ref zTt, .ref zOf, .ref zDs, .ref zIx, .ref zSd, .ref zUt, .ref zCh, .ref zLt, .ref zLo, .ref zRu])), (zIx, .inl (cAzIx, 40, .inl zIxA)), (zCh, .inr (0, [.ref chR, .int chS])), (chR, .inl (cAchR, chN, .inl chA)), (zRu, .inr (5, [.ref ruT, .ref ruB, .ref ruE, .int ruHas, .int ruWide, .int ruSo, .int ruUo, .int ruSp, .int ruSs, .int ruUp, .int ruUs, .int ruNev]))]) [2, 5, 8, 9, 10] rfl) (hK.sub (tys' := [(cAzIx, .int), (cAchR, .byte)]) [3, 6] rfl) hST).vir (va_recv (hK.sub (tys' := [(cAzIx, .int), (cAchR, .byte)]) [3, 6] rfl) (hP.sub (ws' := [(zz, .inr (8, [.int zVer, .int zTic, .int zTyc, .int zLec, .int zStc, .int zUtc, .ref zTi, .ref zTt, .ref zOf, .ref zDs, .ref zIx, .ref zSd, .ref zUt, .ref zCh, .ref zLt, .ref zLo, .ref zRu])), (zIx, .inl (cAzIx, 40, .inl zIxA)), (zCh, .inr (0, [.ref chR, .int chS])), (chR, .inl (cAchR, chN, .inl chA)), (zRu, .inr (5, [.ref ruT, .ref ruB, .ref ruE, .int ruHas, .int ruWide, .int ruSo, .int ruUo, .int ruSp, .int ruSs, .int ruUp, .int ruUs, .int ruNev]))]) [2, 5, 8, 9, 10] rfl) (ci := 8) (q0 := 0) rfl rfl)) rfl rfl hl.1 rfl (lv_room (Nat.le_of_ble_eq_true rfl)) d_ZF_type_87 ⟨Nat.zero_le _, Nat.zero_le _⟩) rfl ?_
          have e := rs hf
          subst e
          exact hE _ _ d_ZF_type_90 rfl
        · have hf := it_f c_8 hf
          by_cases c_10 : x3 = 4
          · have hf := it_t c_10 hf
            refine lv_tableIn (tgt := 91) hx hb d_ZF_type_22 (by rw [c_10]; decide) (by rw [c_10]; decide) (by rw [c_10]; rfl) (by decide) ?_
            refine lv_iload_n hx hb d_ZF_type_91 rfl (lv_at hl 3 rfl) ?_
            refine lv_aload hx hb d_ZF_type_92 (lv_at hl 0 rfl) ?_
            refine va_get (D := (dC, dI)) (ci := 8) (v := .int zStc) (C := RZone) (T := TZone) (N := 17) hx hb hts in_Zone hown hK hP 2 rfl rfl 4 (by decide) (hts (.fieldLink "ZoneFiles" 150 "ZoneFiles$Zone" "stdCount" "I") m_1_180) (fun _ h9 => h9) rfl d_ZF_type_94 ?_
            refine lv_icmp_ge (tgt := 110) hx hb d_ZF_type_97 (by decide) (fun c_11 => ?_) (fun c_11 => ?_)
            · have hf := it_t c_11 hf
              refine lv_iconst (v := 0) hx hb d_ZF_type_110 (by decide) ?_
              exact k_ZF_type_111 C0 hST hK hP hz hE hf (lv_sub hl [] rfl)
            · have hf := it_f c_11 hf
              refine lv_aload hx hb d_ZF_type_100 (lv_at hl 0 rfl) ?_
              refine va_get (D := (dC, dI)) (ci := 8) (v := .ref zSd) (C := RZone) (T := TZone) (N := 17) hx hb hts in_Zone hown hK hP 2 rfl rfl 11 (by decide) (hts (.fieldLink "ZoneFiles" 189 "ZoneFiles$Zone" "stds" "[I") m_1_208) (fun _ h9 => h9) rfl d_ZF_type_102 ?_
              refine lv_iload_n hx hb d_ZF_type_105 rfl (lv_at hl 3 rfl) ?_
              obtain ⟨c_12, hf⟩ := it_n hf
              refine va_iald hx hb hK hP 6 4 rfl rfl c_12 d_ZF_type_106 ?_
              refine lv_goto (tgt := 111) hx hb d_ZF_type_107 (by decide) ?_
              exact k_ZF_type_111 C0 hST hK hP hz hE hf (lv_sub hl [] rfl)
          · have hf := it_f c_10 hf
            by_cases c_13 : x3 = 5
            · have hf := it_t c_13 hf
              refine lv_tableIn (tgt := 112) hx hb d_ZF_type_22 (by rw [c_13]; decide) (by rw [c_13]; decide) (by rw [c_13]; rfl) (by decide) ?_
              refine lv_iload_n hx hb d_ZF_type_112 rfl (lv_at hl 3 rfl) ?_
              refine lv_aload hx hb d_ZF_type_113 (lv_at hl 0 rfl) ?_
              refine va_get (D := (dC, dI)) (ci := 8) (v := .int zUtc) (C := RZone) (T := TZone) (N := 17) hx hb hts in_Zone hown hK hP 2 rfl rfl 5 (by decide) (hts (.fieldLink "ZoneFiles" 153 "ZoneFiles$Zone" "utCount" "I") m_1_184) (fun _ h9 => h9) rfl d_ZF_type_115 ?_
              refine lv_icmp_ge (tgt := 131) hx hb d_ZF_type_118 (by decide) (fun c_14 => ?_) (fun c_14 => ?_)
              · have hf := it_t c_14 hf
                refine lv_iconst (v := 0) hx hb d_ZF_type_131 (by decide) ?_
                exact k_ZF_type_132 C0 hST hK hP hz hE hf (lv_sub hl [] rfl)
              · have hf := it_f c_14 hf
                refine lv_aload hx hb d_ZF_type_121 (lv_at hl 0 rfl) ?_
                refine va_get (D := (dC, dI)) (ci := 8) (v := .ref zUt) (C := RZone) (T := TZone) (N := 17) hx hb hts in_Zone hown hK hP 2 rfl rfl 12 (by decide) (hts (.fieldLink "ZoneFiles" 192 "ZoneFiles$Zone" "uts" "[I") m_1_212) (fun _ h9 => h9) rfl d_ZF_type_123 ?_
                refine lv_iload_n hx hb d_ZF_type_126 rfl (lv_at hl 3 rfl) ?_
                obtain ⟨c_15, hf⟩ := it_n hf
                refine va_iald hx hb hK hP 7 5 rfl rfl c_15 d_ZF_type_127 ?_
                refine lv_goto (tgt := 132) hx hb d_ZF_type_128 (by decide) ?_
                exact k_ZF_type_132 C0 hST hK hP hz hE hf (lv_sub hl [] rfl)
            · have hf := it_f c_13 hf
              have hsw : x3.toInt < 0 ∨ 5 < x3.toInt := by
                have hsw0 := lv_neT c_2 (a := 0) rfl
                have hsw1 := lv_neT c_4 (a := 1) rfl
                have hsw2 := lv_neT c_6 (a := 2) rfl
                have hsw3 := lv_neT c_8 (a := 3) rfl
                have hsw4 := lv_neT c_10 (a := 4) rfl
                have hsw5 := lv_neT c_13 (a := 5) rfl
                omega
              refine lv_tableOut (tgt := 133) hx hb d_ZF_type_22 hsw (by decide) ?_
              exact absurd hf (by simp)
end
set_option maxHeartbeats 400000 in
set_option maxRecDepth 100000 in
theorem c_ZF_type (l : Launch) (dC : Nat → ClassId) (dI : Nat → Nat → Nat) (h0 : Nat) (zfTp : Nat) (zfWr : Nat) (zfZs : Nat) (zfSp : Nat) (zfLt : Nat) (zfSt : Nat) (zfFd : Nat) (zz : Nat) (zTi : Nat) (zTt : Nat) (zOf : Nat) (zDs : Nat) (zIx : Nat) (zSd : Nat) (zUt : Nat) (zCh : Nat) (zLt : Nat) (zLo : Nat) (zRu : Nat) (chR : Nat) (ruT : Nat) (ruB : Nat) (ruE : Nat) (cAzfZs : ClassId) (cAzOf : ClassId) (cAzDs : ClassId) (cAzIx : ClassId) (cAzSd : ClassId) (cAzUt : ClassId) (cAchR : ClassId) (nf : Nat) (p0 : Int32) (p1 : Int32) (p2 : Int32) (zfFc : Int32) (zfFp : Int32) (zg : Nat → Option Nat) (zVer : Int32) (zTic : Int32) (zTyc : Int32) (zLec : Int32) (zStc : Int32) (zUtc : Int32) (zOfA : Nat → Int32) (zDsA : Nat → Int32) (zIxA : Nat → Int32) (zSdA : Nat → Int32) (zUtA : Nat → Int32) (chS : Int32) (chN : Nat) (chA : Nat → Int32) (ruHas : Int32) (ruWide : Int32) (ruSo : Int32) (ruUo : Int32) (ruSp : Int32) (ruSs : Int32) (ruUp : Int32) (ruUs : Int32) (ruNev : Int32) {r0 : Int32} (hf : f_ZF_type nf p0 p1 p2 zTyc zStc zUtc zOfA zDsA zIxA zSdA zUtA chS chN chA ruSs ruUs = some r0) (hz : zg p0.toNatClampNeg = some zz) : Met l y_ZF_type (wd y_ZF_type b_ZF_type 5 (some .int)) ({ frames := 2, cells := 0, slots := 0, locals := 44 }) (RO dC dI [(h0, .inr (9, [.ref zfTp, .ref zfWr, .ref zfZs, .ref zfSp, .ref zfLt, .ref zfSt, .ref zfFd, .int zfFc, .int zfFp])), (zfZs, .inl (cAzfZs, 4, .inr (.inr (.inr (.inr zg))))), (zz, .inr (8, [.int zVer, .int zTic, .int zTyc, .int zLec, .int zStc, .int zUtc, .ref zTi, .ref zTt, .ref zOf, .ref zDs, .ref zIx, .ref zSd, .ref zUt, .ref zCh, .ref zLt, .ref zLo, .ref zRu])), (zOf, .inl (cAzOf, 40, .inl zOfA)), (zDs, .inl (cAzDs, 40, .inl zDsA)), (zIx, .inl (cAzIx, 40, .inl zIxA)), (zSd, .inl (cAzSd, 40, .inl zSdA)), (zUt, .inl (cAzUt, 40, .inl zUtA)), (zCh, .inr (0, [.ref chR, .int chS])), (chR, .inl (cAchR, chN, .inl chA)), (zRu, .inr (5, [.ref ruT, .ref ruB, .ref ruE, .int ruHas, .int ruWide, .int ruSo, .int ruUo, .int ruSp, .int ruSs, .int ruUp, .int ruUs, .int ruNev]))] [(cAzfZs, .object "ZoneFiles$Zone"), (cAzOf, .int), (cAzDs, .int), (cAzIx, .int), (cAzSd, .int), (cAzUt, .int), (cAchR, .byte)] [.ref h0, .int p0, .int p1, .int p2]) (SV (some (.int r0))) 0 0 (fun _ => False) :=
  met_S (plainFor_of_name (by decide)) (Nat.le_of_ble_eq_true rfl) (fun p e R s m args below meth c ls C0 hST hK hP hl => by
    obtain ⟨hx, hb, hr, hml, hown, hts, hlocks, hRf, hRl⟩ := id C0
    unfold f_ZF_type at hf
    exact k_ZF_type_0 C0 hST hK hP hz (fun pc ls hd hn => W.zret hx hb hr hn (fun t ht hW => ⟨rfl, ht⟩) (fun q h => by cases h) hd) hf (lv_sub hl [0, 1, 2, 3] rfl))
-- ZoneFiles.letter(III)I
def f_ZF_letter_0 (nf : Nat) (p0 : Int32) (chS : Int32) (chN : Nat) (chA : Nat → Int32) (txS : Int32) (txN : Nat) (txA : Nat → Int32) (x2 : Int32) (x3 : Int32) : Option (Int32) :=
  (f_ZF_checkZone nf p0).bind fun _u =>
  (f_ZF_checkIndex nf x2 2).bind fun _u =>
  if x2 = 0 then
  if p0 < 0 ∨ 4 ≤ p0.toNatClampNeg then none else
    (f_ZF_checkIndex nf x3 chS).bind fun _u =>
    (f_By_get nf x3 chS chN chA).bind fun r_5 =>
    some r_5
  else
  if p0 < 0 ∨ 4 ≤ p0.toNatClampNeg then none else
    (f_ZF_checkIndex nf x3 txS).bind fun _u =>
    (f_By_get nf x3 txS txN txA).bind fun r_3 =>
    some r_3
def f_ZF_letter (nf : Nat) (p0 : Int32) (p1 : Int32) (p2 : Int32) (chS : Int32) (chN : Nat) (chA : Nat → Int32) (txS : Int32) (txN : Nat) (txA : Nat → Int32) : Option (Int32) :=
  f_ZF_letter_0 nf p0 chS chN chA txS txN txA p1 p2
section
variable {p : Program} {l : Launch} {e : Env} {R : Room} {s : State} {m : MethodId} {args : Array Value} {below : List Frame} {meth : Method} {c : Code} {Q : State → Prop} {dC : Nat → ClassId} {dI : Nat → Nat → Nat} {nf : Nat}
variable {h0 : Nat} {zfTp : Nat} {zfWr : Nat} {zfZs : Nat} {zfSp : Nat} {zfLt : Nat} {zfSt : Nat} {zfFd : Nat} {zz : Nat} {zTi : Nat} {zTt : Nat} {zOf : Nat} {zDs : Nat} {zIx : Nat} {zSd : Nat} {zUt : Nat} {zCh : Nat} {zLt : Nat} {zLo : Nat} {zRu : Nat} {chR : Nat} {ruT : Nat} {ruB : Nat} {ruE : Nat} {txR : Nat} {cAzfZs : ClassId} {cAchR : ClassId} {cAtxR : ClassId} {p0 : Int32} {zfFc : Int32} {zfFp : Int32} {zg : Nat → Option Nat} {zVer : Int32} {zTic : Int32} {zTyc : Int32} {zLec : Int32} {zStc : Int32} {zUtc : Int32} {chS : Int32} {chN : Nat} {chA : Nat → Int32} {ruHas : Int32} {ruWide : Int32} {ruSo : Int32} {ruUo : Int32} {ruSp : Int32} {ruSs : Int32} {ruUp : Int32} {ruUs : Int32} {ruNev : Int32} {txS : Int32} {txN : Nat} {txA : Nat → Int32} {r0 : Int32}
set_option maxHeartbeats 400000 in
set_option maxRecDepth 100000 in
theorem k_ZF_letter_0 (C0 : Cx p s m meth c args R b_ZF_letter "ZoneFiles" 5 (some .int) 1 21) (hST : ST (fun _ => False) s s.heap) (hK : va_K (dC, dI) classes [(cAzfZs, .object "ZoneFiles$Zone"), (cAchR, .byte), (cAtxR, .byte)] s) (hP : va_P (dC, dI) classes [(h0, .inr (9, [.ref zfTp, .ref zfWr, .ref zfZs, .ref zfSp, .ref zfLt, .ref zfSt, .ref zfFd, .int zfFc, .int zfFp])), (zfZs, .inl (cAzfZs, 4, .inr (.inr (.inr (.inr zg))))), (zz, .inr (8, [.int zVer, .int zTic, .int zTyc, .int zLec, .int zStc, .int zUtc, .ref zTi, .ref zTt, .ref zOf, .ref zDs, .ref zIx, .ref zSd, .ref zUt, .ref zCh, .ref zLt, .ref zLo, .ref zRu])), (zCh, .inr (0, [.ref chR, .int chS])), (chR, .inl (cAchR, chN, .inl chA)), (zRu, .inr (5, [.ref ruT, .ref ruB, .ref ruE, .int ruHas, .int ruWide, .int ruSo, .int ruUo, .int ruSp, .int ruSs, .int ruUp, .int ruUs, .int ruNev])), (ruT, .inr (0, [.ref txR, .int txS])), (txR, .inl (cAtxR, txN, .inl txA))] s.heap) (hz : zg p0.toNatClampNeg = some zz) (hE : ∀ (pc : Nat) (ls : Array Slot), decode b_ZF_letter pc = .ok (.ireturn, 1) → narrow .int (.int r0) = .int r0 → W p l e R s m args below meth c s.heap [] 0 0 Q (F0 m pc ls [.int r0])) {x2 : Int32} {x3 : Int32} (hf : f_ZF_letter_0 nf p0 chS chN chA txS txN txA x2 x3 = some r0) {ls : Array Slot} (hl : lv_has ls 5 [(0, .ref h0), (1, .int p0), (2, .int x2), (3, .int x3)]) : W p l e R s m args below meth c s.heap [] 0 0 Q (F0 m 0 ls []) := by
  obtain ⟨hx, hb, hr, hml, hown, hts, hlocks, hRf, hRl⟩ := id C0
  obtain ⟨tms, hZms, hTms, tmg, hZmg, hTmg, hNW⟩ := id hST
  unfold f_ZF_letter_0 at hf
  refine lv_iload_n hx hb d_ZF_letter_0 rfl (lv_at hl 1 rfl) ?_
  obtain ⟨_u, hc, hf⟩ := ob hf
  refine cl_S (v := none) (st1 := []) (va_runS (As := [.int p0]) (rest := []) ⟨hx, hb, hml, hown, hts⟩ (c_ZF_checkZone l dC dI nf p0 hc) (va_cwS 1 hts (gdS m_3_131 m_3_132 m_1_1 m_3_133) rfl rfl rfl (by decide +kernel) ⟨Nat.le_trans (Nat.le_of_ble_eq_true rfl) hRf, Nat.le_trans (Nat.le_of_ble_eq_true rfl) hRl⟩) (RO.pre0 hK hST).sta rfl rfl hl.1 rfl (lv_room (Nat.le_of_ble_eq_true rfl)) d_ZF_letter_1 ⟨Nat.zero_le _, Nat.zero_le _⟩) rfl ?_
  refine lv_iload_n hx hb d_ZF_letter_4 rfl (lv_at hl 2 rfl) ?_
  refine lv_iconst (v := 2) hx hb d_ZF_letter_5 (by decide) ?_
  obtain ⟨_u, hc, hf⟩ := ob hf
  refine cl_S (v := none) (st1 := []) (va_runS (As := [.int x2, .int 2]) (rest := []) ⟨hx, hb, hml, hown, hts⟩ (c_ZF_checkIndex l dC dI nf x2 2 hc) (va_cwS 2 hts (gdS m_4_234 m_4_235 m_1_1 m_4_236) rfl rfl rfl (by decide +kernel) ⟨Nat.le_trans (Nat.le_of_ble_eq_true rfl) hRf, Nat.le_trans (Nat.le_of_ble_eq_true rfl) hRl⟩) (RO.pre0 hK hST).sta rfl rfl hl.1 rfl (lv_room (Nat.le_of_ble_eq_true rfl)) d_ZF_letter_6 ⟨Nat.zero_le _, Nat.zero_le _⟩) rfl ?_
  refine lv_iload_n hx hb d_ZF_letter_9 rfl (lv_at hl 2 rfl) ?_
  refine lv_if_ne (tgt := 25) hx hb d_ZF_letter_10 (by decide) (fun c_1 => ?_) (fun c_1 => ?_)
  · have hf := it_f c_1 hf
    refine lv_aload_n hx hb d_ZF_letter_25 rfl (lv_at hl 0 rfl) ?_
    refine va_get (D := (dC, dI)) (ci := 9) (v := .ref zfZs) (C := RZoneFiles) (T := TZoneFiles) (N := 9) hx hb hts in_ZoneFiles hown hK hP 0 rfl rfl 2 (by decide) (hts (.fieldLink "ZoneFiles" 23 "ZoneFiles" "zones" "[LZoneFiles$Zone;") m_2_119) (fun _ h9 => h9) rfl d_ZF_letter_26 ?_
    refine lv_iload_n hx hb d_ZF_letter_29 rfl (lv_at hl 1 rfl) ?_
    obtain ⟨c_2, hf⟩ := it_n hf
    refine zf_ald (zz := zz) hx hb hK hP 1 0 rfl rfl c_2 hz d_ZF_letter_30 ?_
    refine va_get (D := (dC, dI)) (ci := 8) (v := .ref zRu) (C := RZone) (T := TZone) (N := 17) hx hb hts in_Zone hown hK hP 2 rfl rfl 16 (by decide) (hts (.fieldLink "ZoneFiles" 108 "ZoneFiles$Zone" "rule" "LZoneFiles$Rule;") m_1_229) (fun _ h9 => h9) rfl d_ZF_letter_31 ?_
    refine va_get (D := (dC, dI)) (ci := 5) (v := .ref ruT) (C := RRule) (T := TRule) (N := 12) hx hb hts in_Rule hown hK hP 5 rfl rfl 0 (by decide) (hts (.fieldLink "ZoneFiles" 156 "ZoneFiles$Rule" "text" "LZoneFiles$Bytes;") m_1_105) (fun _ h9 => h9) rfl d_ZF_letter_34 ?_
    refine lv_astore (lv' := [(4, .ref ruT), (0, .ref h0), (1, .int p0), (2, .int x2), (3, .int x3)]) hx hb d_ZF_letter_37 hl (by decide) rfl (fun ls hl => ?_)
    refine lv_iload_n hx hb d_ZF_letter_39 rfl (lv_at hl 4 rfl) ?_
    refine lv_aload hx hb d_ZF_letter_40 (lv_at hl 0 rfl) ?_
    refine va_get (D := (dC, dI)) (ci := 0) (v := .int txS) (C := RBytes) (T := TBytes) (N := 2) hx hb hts in_Bytes hown hK hP 6 rfl rfl 1 (by decide) (hts (.fieldLink "ZoneFiles" 63 "ZoneFiles$Bytes" "size" "I") m_1_39) (fun _ h9 => h9) rfl d_ZF_letter_42 ?_
    obtain ⟨_u, hc, hf⟩ := ob hf
    refine cl_S (v := none) (st1 := []) (va_runS (As := [.int x3, .int txS]) (rest := []) ⟨hx, hb, hml, hown, hts⟩ (c_ZF_checkIndex l dC dI nf x3 txS hc) (va_cwS 2 hts (gdS m_4_234 m_4_235 m_1_1 m_4_236) rfl rfl rfl (by decide +kernel) ⟨Nat.le_trans (Nat.le_of_ble_eq_true rfl) hRf, Nat.le_trans (Nat.le_of_ble_eq_true rfl) hRl⟩) (RO.pre0 hK hST).sta rfl rfl hl.1 rfl (lv_room (Nat.le_of_ble_eq_true rfl)) d_ZF_letter_45 ⟨Nat.zero_le _, Nat.zero_le _⟩) rfl ?_
    refine lv_aload hx hb d_ZF_letter_48 (lv_at hl 0 rfl) ?_
    refine lv_iload_n hx hb d_ZF_letter_50 rfl (lv_at hl 4 rfl) ?_
    obtain ⟨r_3, hc, hf⟩ := ob hf
    refine cl_S (v := (some (.int r_3))) (st1 := [.int r_3]) (va_runV (As := [.int x3]) (rest := []) ⟨hx, hb, hml, hown, hts⟩ (c_By_get l dC dI ruT txR cAtxR nf x3 txS txN txA hc) (cwV 1 hts (gdV m_5_21 m_2_71 m_2_72 m_1_2 m_2_73) rfl rfl rfl (by decide +kernel) ⟨Nat.le_trans (Nat.le_of_ble_eq_true rfl) hRf, Nat.le_trans (Nat.le_of_ble_eq_true rfl) hRl⟩) ((RO.pre (hP.sub (ws' := [(ruT, .inr (0, [.ref txR, .int txS])), (txR, .inl (cAtxR, txN, .inl txA))]) [6, 7] rfl) (hK.sub (tys' := [(cAtxR, .byte)]) [2] rfl) hST).vir (va_recv (hK.sub (tys' := [(cAtxR, .byte)]) [2] rfl) (hP.sub (ws' := [(ruT, .inr (0, [.ref txR, .int txS])), (txR, .inl (cAtxR, txN, .inl txA))]) [6, 7] rfl) (ci := 0) (q0 := 0) rfl rfl)) rfl rfl hl.1 rfl (lv_room (Nat.le_of_ble_eq_true rfl)) d_ZF_letter_51 ⟨Nat.zero_le _, Nat.zero_le _⟩) rfl ?_
    have e := rs hf
    subst e
    exact hE _ _ d_ZF_letter_54 rfl
  · have hf := it_t c_1 hf
    refine lv_aload_n hx hb d_ZF_letter_13 rfl (lv_at hl 0 rfl) ?_
    refine va_get (D := (dC, dI)) (ci := 9) (v := .ref zfZs) (C := RZoneFiles) (T := TZoneFiles) (N := 9) hx hb hts in_ZoneFiles hown hK hP 0 rfl rfl 2 (by decide) (hts (.fieldLink "ZoneFiles" 23 "ZoneFiles" "zones" "[LZoneFiles$Zone;") m_2_119) (fun _ h9 => h9) rfl d_ZF_letter_14 ?_
    refine lv_iload_n hx hb d_ZF_letter_17 rfl (lv_at hl 1 rfl) ?_
    obtain ⟨c_4, hf⟩ := it_n hf
    refine zf_ald (zz := zz) hx hb hK hP 1 0 rfl rfl c_4 hz d_ZF_letter_18 ?_
    refine va_get (D := (dC, dI)) (ci := 8) (v := .ref zCh) (C := RZone) (T := TZone) (N := 17) hx hb hts in_Zone hown hK hP 2 rfl rfl 13 (by decide) (hts (.fieldLink "ZoneFiles" 144 "ZoneFiles$Zone" "chars" "LZoneFiles$Bytes;") m_1_216) (fun _ h9 => h9) rfl d_ZF_letter_19 ?_
    refine lv_goto (tgt := 37) hx hb d_ZF_letter_22 (by decide) ?_
    refine lv_astore (lv' := [(4, .ref zCh), (0, .ref h0), (1, .int p0), (2, .int x2), (3, .int x3)]) hx hb d_ZF_letter_37 hl (by decide) rfl (fun ls hl => ?_)
    refine lv_iload_n hx hb d_ZF_letter_39 rfl (lv_at hl 4 rfl) ?_
    refine lv_aload hx hb d_ZF_letter_40 (lv_at hl 0 rfl) ?_
    refine va_get (D := (dC, dI)) (ci := 0) (v := .int chS) (C := RBytes) (T := TBytes) (N := 2) hx hb hts in_Bytes hown hK hP 3 rfl rfl 1 (by decide) (hts (.fieldLink "ZoneFiles" 63 "ZoneFiles$Bytes" "size" "I") m_1_39) (fun _ h9 => h9) rfl d_ZF_letter_42 ?_
    obtain ⟨_u, hc, hf⟩ := ob hf
    refine cl_S (v := none) (st1 := []) (va_runS (As := [.int x3, .int chS]) (rest := []) ⟨hx, hb, hml, hown, hts⟩ (c_ZF_checkIndex l dC dI nf x3 chS hc) (va_cwS 2 hts (gdS m_4_234 m_4_235 m_1_1 m_4_236) rfl rfl rfl (by decide +kernel) ⟨Nat.le_trans (Nat.le_of_ble_eq_true rfl) hRf, Nat.le_trans (Nat.le_of_ble_eq_true rfl) hRl⟩) (RO.pre0 hK hST).sta rfl rfl hl.1 rfl (lv_room (Nat.le_of_ble_eq_true rfl)) d_ZF_letter_45 ⟨Nat.zero_le _, Nat.zero_le _⟩) rfl ?_
    refine lv_aload hx hb d_ZF_letter_48 (lv_at hl 0 rfl) ?_
    refine lv_iload_n hx hb d_ZF_letter_50 rfl (lv_at hl 4 rfl) ?_
    obtain ⟨r_5, hc, hf⟩ := ob hf
    refine cl_S (v := (some (.int r_5))) (st1 := [.int r_5]) (va_runV (As := [.int x3]) (rest := []) ⟨hx, hb, hml, hown, hts⟩ (c_By_get l dC dI zCh chR cAchR nf x3 chS chN chA hc) (cwV 1 hts (gdV m_5_21 m_2_71 m_2_72 m_1_2 m_2_73) rfl rfl rfl (by decide +kernel) ⟨Nat.le_trans (Nat.le_of_ble_eq_true rfl) hRf, Nat.le_trans (Nat.le_of_ble_eq_true rfl) hRl⟩) ((RO.pre (hP.sub (ws' := [(zCh, .inr (0, [.ref chR, .int chS])), (chR, .inl (cAchR, chN, .inl chA))]) [3, 4] rfl) (hK.sub (tys' := [(cAchR, .byte)]) [1] rfl) hST).vir (va_recv (hK.sub (tys' := [(cAchR, .byte)]) [1] rfl) (hP.sub (ws' := [(zCh, .inr (0, [.ref chR, .int chS])), (chR, .inl (cAchR, chN, .inl chA))]) [3, 4] rfl) (ci := 0) (q0 := 0) rfl rfl)) rfl rfl hl.1 rfl (lv_room (Nat.le_of_ble_eq_true rfl)) d_ZF_letter_51 ⟨Nat.zero_le _, Nat.zero_le _⟩) rfl ?_
    have e := rs hf
    subst e
    exact hE _ _ d_ZF_letter_54 rfl
end
set_option maxHeartbeats 400000 in
set_option maxRecDepth 100000 in
theorem c_ZF_letter (l : Launch) (dC : Nat → ClassId) (dI : Nat → Nat → Nat) (h0 : Nat) (zfTp : Nat) (zfWr : Nat) (zfZs : Nat) (zfSp : Nat) (zfLt : Nat) (zfSt : Nat) (zfFd : Nat) (zz : Nat) (zTi : Nat) (zTt : Nat) (zOf : Nat) (zDs : Nat) (zIx : Nat) (zSd : Nat) (zUt : Nat) (zCh : Nat) (zLt : Nat) (zLo : Nat) (zRu : Nat) (chR : Nat) (ruT : Nat) (ruB : Nat) (ruE : Nat) (txR : Nat) (cAzfZs : ClassId) (cAchR : ClassId) (cAtxR : ClassId) (nf : Nat) (p0 : Int32) (p1 : Int32) (p2 : Int32) (zfFc : Int32) (zfFp : Int32) (zg : Nat → Option Nat) (zVer : Int32) (zTic : Int32) (zTyc : Int32) (zLec : Int32) (zStc : Int32) (zUtc : Int32) (chS : Int32) (chN : Nat) (chA : Nat → Int32) (ruHas : Int32) (ruWide : Int32) (ruSo : Int32) (ruUo : Int32) (ruSp : Int32) (ruSs : Int32) (ruUp : Int32) (ruUs : Int32) (ruNev : Int32) (txS : Int32) (txN : Nat) (txA : Nat → Int32) {r0 : Int32} (hf : f_ZF_letter nf p0 p1 p2 chS chN chA txS txN txA = some r0) (hz : zg p0.toNatClampNeg = some zz) : Met l y_ZF_letter (wd y_ZF_letter b_ZF_letter 5 (some .int)) ({ frames := 1, cells := 0, slots := 0, locals := 21 }) (RO dC dI [(h0, .inr (9, [.ref zfTp, .ref zfWr, .ref zfZs, .ref zfSp, .ref zfLt, .ref zfSt, .ref zfFd, .int zfFc, .int zfFp])), (zfZs, .inl (cAzfZs, 4, .inr (.inr (.inr (.inr zg))))), (zz, .inr (8, [.int zVer, .int zTic, .int zTyc, .int zLec, .int zStc, .int zUtc, .ref zTi, .ref zTt, .ref zOf, .ref zDs, .ref zIx, .ref zSd, .ref zUt, .ref zCh, .ref zLt, .ref zLo, .ref zRu])), (zCh, .inr (0, [.ref chR, .int chS])), (chR, .inl (cAchR, chN, .inl chA)), (zRu, .inr (5, [.ref ruT, .ref ruB, .ref ruE, .int ruHas, .int ruWide, .int ruSo, .int ruUo, .int ruSp, .int ruSs, .int ruUp, .int ruUs, .int ruNev])), (ruT, .inr (0, [.ref txR, .int txS])), (txR, .inl (cAtxR, txN, .inl txA))] [(cAzfZs, .object "ZoneFiles$Zone"), (cAchR, .byte), (cAtxR, .byte)] [.ref h0, .int p0, .int p1, .int p2]) (SV (some (.int r0))) 0 0 (fun _ => False) :=
  met_S (plainFor_of_name (by decide)) (Nat.le_of_ble_eq_true rfl) (fun p e R s m args below meth c ls C0 hST hK hP hl => by
    obtain ⟨hx, hb, hr, hml, hown, hts, hlocks, hRf, hRl⟩ := id C0
    unfold f_ZF_letter at hf
    exact k_ZF_letter_0 C0 hST hK hP hz (fun pc ls hd hn => W.zret hx hb hr hn (fun t ht hW => ⟨rfl, ht⟩) (fun q h => by cases h) hd) hf (lv_sub hl [0, 1, 2, 3] rfl))
-- ZoneFiles.leap(III)J
def f_ZF_leap_52 (nf : Nat) (s0 : Int64) : Option (Int64) :=
  some s0
def f_ZF_leap_0 (nf : Nat) (p0 : Int32) (zLec : Int32) (zLtA : Nat → Int64) (zLoA : Nat → Int32) (x2 : Int32) (x3 : Int32) : Option (Int64) :=
  (f_ZF_checkZone nf p0).bind fun _u =>
  if p0 < 0 ∨ 4 ≤ p0.toNatClampNeg then none else
  (f_ZF_checkIndex nf x2 zLec).bind fun _u =>
  (f_ZF_checkIndex nf x3 2).bind fun _u =>
  if x3 = 0 then
  if p0 < 0 ∨ 4 ≤ p0.toNatClampNeg then none else
    if x2 < 0 ∨ 40 ≤ x2.toNatClampNeg then none else
    f_ZF_leap_52 nf (zLtA x2.toNatClampNeg)
  else
  if p0 < 0 ∨ 4 ≤ p0.toNatClampNeg then none else
    if x2 < 0 ∨ 40 ≤ x2.toNatClampNeg then none else
    f_ZF_leap_52 nf ((zLoA x2.toNatClampNeg).toInt64)
def f_ZF_leap (nf : Nat) (p0 : Int32) (p1 : Int32) (p2 : Int32) (zLec : Int32) (zLtA : Nat → Int64) (zLoA : Nat → Int32) : Option (Int64) :=
  f_ZF_leap_0 nf p0 zLec zLtA zLoA p1 p2
section
variable {p : Program} {l : Launch} {e : Env} {R : Room} {s : State} {m : MethodId} {args : Array Value} {below : List Frame} {meth : Method} {c : Code} {Q : State → Prop} {dC : Nat → ClassId} {dI : Nat → Nat → Nat} {nf : Nat}
variable {h0 : Nat} {zfTp : Nat} {zfWr : Nat} {zfZs : Nat} {zfSp : Nat} {zfLt : Nat} {zfSt : Nat} {zfFd : Nat} {zz : Nat} {zTi : Nat} {zTt : Nat} {zOf : Nat} {zDs : Nat} {zIx : Nat} {zSd : Nat} {zUt : Nat} {zCh : Nat} {zLt : Nat} {zLo : Nat} {zRu : Nat} {cAzfZs : ClassId} {cAzLt : ClassId} {cAzLo : ClassId} {p0 : Int32} {zfFc : Int32} {zfFp : Int32} {zg : Nat → Option Nat} {zVer : Int32} {zTic : Int32} {zTyc : Int32} {zLec : Int32} {zStc : Int32} {zUtc : Int32} {zLtA : Nat → Int64} {zLoA : Nat → Int32} {r0 : Int64}
set_option maxHeartbeats 400000 in
set_option maxRecDepth 100000 in
theorem k_ZF_leap_52 (C0 : Cx p s m meth c args R b_ZF_leap "ZoneFiles" 4 (some .long) 1 21) (hST : ST (fun _ => False) s s.heap) (hK : va_K (dC, dI) classes [(cAzfZs, .object "ZoneFiles$Zone"), (cAzLt, .long), (cAzLo, .int)] s) (hP : va_P (dC, dI) classes [(h0, .inr (9, [.ref zfTp, .ref zfWr, .ref zfZs, .ref zfSp, .ref zfLt, .ref zfSt, .ref zfFd, .int zfFc, .int zfFp])), (zfZs, .inl (cAzfZs, 4, .inr (.inr (.inr (.inr zg))))), (zz, .inr (8, [.int zVer, .int zTic, .int zTyc, .int zLec, .int zStc, .int zUtc, .ref zTi, .ref zTt, .ref zOf, .ref zDs, .ref zIx, .ref zSd, .ref zUt, .ref zCh, .ref zLt, .ref zLo, .ref zRu])), (zLt, .inl (cAzLt, 40, .inr (.inl zLtA))), (zLo, .inl (cAzLo, 40, .inl zLoA))] s.heap) (hz : zg p0.toNatClampNeg = some zz) (hE : ∀ (pc : Nat) (ls : Array Slot), decode b_ZF_leap pc = .ok (.lreturn, 1) → W p l e R s m args below meth c s.heap [] 0 0 Q (F0 m pc ls [.long r0])) {s0 : Int64} (hf : f_ZF_leap_52 nf s0 = some r0) {ls : Array Slot} (hl : lv_has ls 4 []) : W p l e R s m args below meth c s.heap [] 0 0 Q (F0 m 52 ls [.long s0]) := by
  obtain ⟨hx, hb, hr, hml, hown, hts, hlocks, hRf, hRl⟩ := id C0
  obtain ⟨tms, hZms, hTms, tmg, hZmg, hTmg, hNW⟩ := id hST
  unfold f_ZF_leap_52 at hf
  have e := rs hf
  subst e
  exact hE _ _ d_ZF_leap_52
set_option maxHeartbeats 400000 in
set_option maxRecDepth 100000 in
theorem k_ZF_leap_0 (C0 : Cx p s m meth c args R b_ZF_leap "ZoneFiles" 4 (some .long) 1 21) (hST : ST (fun _ => False) s s.heap) (hK : va_K (dC, dI) classes [(cAzfZs, .object "ZoneFiles$Zone"), (cAzLt, .long), (cAzLo, .int)] s) (hP : va_P (dC, dI) classes [(h0, .inr (9, [.ref zfTp, .ref zfWr, .ref zfZs, .ref zfSp, .ref zfLt, .ref zfSt, .ref zfFd, .int zfFc, .int zfFp])), (zfZs, .inl (cAzfZs, 4, .inr (.inr (.inr (.inr zg))))), (zz, .inr (8, [.int zVer, .int zTic, .int zTyc, .int zLec, .int zStc, .int zUtc, .ref zTi, .ref zTt, .ref zOf, .ref zDs, .ref zIx, .ref zSd, .ref zUt, .ref zCh, .ref zLt, .ref zLo, .ref zRu])), (zLt, .inl (cAzLt, 40, .inr (.inl zLtA))), (zLo, .inl (cAzLo, 40, .inl zLoA))] s.heap) (hz : zg p0.toNatClampNeg = some zz) (hE : ∀ (pc : Nat) (ls : Array Slot), decode b_ZF_leap pc = .ok (.lreturn, 1) → W p l e R s m args below meth c s.heap [] 0 0 Q (F0 m pc ls [.long r0])) {x2 : Int32} {x3 : Int32} (hf : f_ZF_leap_0 nf p0 zLec zLtA zLoA x2 x3 = some r0) {ls : Array Slot} (hl : lv_has ls 4 [(0, .ref h0), (1, .int p0), (2, .int x2), (3, .int x3)]) : W p l e R s m args below meth c s.heap [] 0 0 Q (F0 m 0 ls []) := by
  obtain ⟨hx, hb, hr, hml, hown, hts, hlocks, hRf, hRl⟩ := id C0
  obtain ⟨tms, hZms, hTms, tmg, hZmg, hTmg, hNW⟩ := id hST
  unfold f_ZF_leap_0 at hf
  refine lv_iload_n hx hb d_ZF_leap_0 rfl (lv_at hl 1 rfl) ?_
  obtain ⟨_u, hc, hf⟩ := ob hf
  refine cl_S (v := none) (st1 := []) (va_runS (As := [.int p0]) (rest := []) ⟨hx, hb, hml, hown, hts⟩ (c_ZF_checkZone l dC dI nf p0 hc) (va_cwS 1 hts (gdS m_3_131 m_3_132 m_1_1 m_3_133) rfl rfl rfl (by decide +kernel) ⟨Nat.le_trans (Nat.le_of_ble_eq_true rfl) hRf, Nat.le_trans (Nat.le_of_ble_eq_true rfl) hRl⟩) (RO.pre0 hK hST).sta rfl rfl hl.1 rfl (lv_room (Nat.le_of_ble_eq_true rfl)) d_ZF_leap_1 ⟨Nat.zero_le _, Nat.zero_le _⟩) rfl ?_
  refine lv_iload_n hx hb d_ZF_leap_4 rfl (lv_at hl 2 rfl) ?_
  refine lv_aload_n hx hb d_ZF_leap_5 rfl (lv_at hl 0 rfl) ?_
  refine va_get (D := (dC, dI)) (ci := 9) (v := .ref zfZs) (C := RZoneFiles) (T := TZoneFiles) (N := 9) hx hb hts in_ZoneFiles hown hK hP 0 rfl rfl 2 (by decide) (hts (.fieldLink "ZoneFiles" 23 "ZoneFiles" "zones" "[LZoneFiles$Zone;") m_2_119) (fun _ h9 => h9) rfl d_ZF_leap_6 ?_
  refine lv_iload_n hx hb d_ZF_leap_9 rfl (lv_at hl 1 rfl) ?_
  obtain ⟨c_1, hf⟩ := it_n hf
  refine zf_ald (zz := zz) hx hb hK hP 1 0 rfl rfl c_1 hz d_ZF_leap_10 ?_
  refine va_get (D := (dC, dI)) (ci := 8) (v := .int zLec) (C := RZone) (T := TZone) (N := 17) hx hb hts in_Zone hown hK hP 2 rfl rfl 3 (by decide) (hts (.fieldLink "ZoneFiles" 147 "ZoneFiles$Zone" "leapCount" "I") m_1_176) (fun _ h9 => h9) rfl d_ZF_leap_11 ?_
  obtain ⟨_u, hc, hf⟩ := ob hf
  refine cl_S (v := none) (st1 := []) (va_runS (As := [.int x2, .int zLec]) (rest := []) ⟨hx, hb, hml, hown, hts⟩ (c_ZF_checkIndex l dC dI nf x2 zLec hc) (va_cwS 2 hts (gdS m_4_234 m_4_235 m_1_1 m_4_236) rfl rfl rfl (by decide +kernel) ⟨Nat.le_trans (Nat.le_of_ble_eq_true rfl) hRf, Nat.le_trans (Nat.le_of_ble_eq_true rfl) hRl⟩) (RO.pre0 hK hST).sta rfl rfl hl.1 rfl (lv_room (Nat.le_of_ble_eq_true rfl)) d_ZF_leap_14 ⟨Nat.zero_le _, Nat.zero_le _⟩) rfl ?_
  refine lv_iload_n hx hb d_ZF_leap_17 rfl (lv_at hl 3 rfl) ?_
  refine lv_iconst (v := 2) hx hb d_ZF_leap_18 (by decide) ?_
  obtain ⟨_u, hc, hf⟩ := ob hf
  refine cl_S (v := none) (st1 := []) (va_runS (As := [.int x3, .int 2]) (rest := []) ⟨hx, hb, hml, hown, hts⟩ (c_ZF_checkIndex l dC dI nf x3 2 hc) (va_cwS 2 hts (gdS m_4_234 m_4_235 m_1_1 m_4_236) rfl rfl rfl (by decide +kernel) ⟨Nat.le_trans (Nat.le_of_ble_eq_true rfl) hRf, Nat.le_trans (Nat.le_of_ble_eq_true rfl) hRl⟩) (RO.pre0 hK hST).sta rfl rfl hl.1 rfl (lv_room (Nat.le_of_ble_eq_true rfl)) d_ZF_leap_19 ⟨Nat.zero_le _, Nat.zero_le _⟩) rfl ?_
  refine lv_iload_n hx hb d_ZF_leap_22 rfl (lv_at hl 3 rfl) ?_
  refine lv_if_ne (tgt := 40) hx hb d_ZF_leap_23 (by decide) (fun c_2 => ?_) (fun c_2 => ?_)
  · have hf := it_f c_2 hf
    refine lv_aload_n hx hb d_ZF_leap_40 rfl (lv_at hl 0 rfl) ?_
    refine va_get (D := (dC, dI)) (ci := 9) (v := .ref zfZs) (C := RZoneFiles) (T := TZoneFiles) (N := 9) hx hb hts in_ZoneFiles hown hK hP 0 rfl rfl 2 (by decide) (hts (.fieldLink "ZoneFiles" 23 "ZoneFiles" "zones" "[LZoneFiles$Zone;") m_2_119) (fun _ h9 => h9) rfl d_ZF_leap_41 ?_
    refine lv_iload_n hx hb d_ZF_leap_44 rfl (lv_at hl 1 rfl) ?_
    obtain ⟨c_3, hf⟩ := it_n hf
    refine zf_ald (zz := zz) hx hb hK hP 1 0 rfl rfl c_3 hz d_ZF_leap_45 ?_
    refine va_get (D := (dC, dI)) (ci := 8) (v := .ref zLo) (C := RZone) (T := TZone) (N := 17) hx hb hts in_Zone hown hK hP 2 rfl rfl 15 (by decide) (hts (.fieldLink "ZoneFiles" 203 "ZoneFiles$Zone" "leapCorrections" "[I") m_1_224) (fun _ h9 => h9) rfl d_ZF_leap_46 ?_
    refine lv_iload_n hx hb d_ZF_leap_49 rfl (lv_at hl 2 rfl) ?_
    obtain ⟨c_4, hf⟩ := it_n hf
    refine va_iald hx hb hK hP 4 2 rfl rfl c_4 d_ZF_leap_50 ?_
    refine lv_i2l hx hb d_ZF_leap_51 rfl ?_
    exact k_ZF_leap_52 C0 hST hK hP hz hE hf (lv_sub hl [] rfl)
  · have hf := it_t c_2 hf
    refine lv_aload_n hx hb d_ZF_leap_26 rfl (lv_at hl 0 rfl) ?_
    refine va_get (D := (dC, dI)) (ci := 9) (v := .ref zfZs) (C := RZoneFiles) (T := TZoneFiles) (N := 9) hx hb hts in_ZoneFiles hown hK hP 0 rfl rfl 2 (by decide) (hts (.fieldLink "ZoneFiles" 23 "ZoneFiles" "zones" "[LZoneFiles$Zone;") m_2_119) (fun _ h9 => h9) rfl d_ZF_leap_27 ?_
    refine lv_iload_n hx hb d_ZF_leap_30 rfl (lv_at hl 1 rfl) ?_
    obtain ⟨c_5, hf⟩ := it_n hf
    refine zf_ald (zz := zz) hx hb hK hP 1 0 rfl rfl c_5 hz d_ZF_leap_31 ?_
    refine va_get (D := (dC, dI)) (ci := 8) (v := .ref zLt) (C := RZone) (T := TZone) (N := 17) hx hb hts in_Zone hown hK hP 2 rfl rfl 14 (by decide) (hts (.fieldLink "ZoneFiles" 200 "ZoneFiles$Zone" "leapTimes" "[J") m_1_220) (fun _ h9 => h9) rfl d_ZF_leap_32 ?_
    refine lv_iload_n hx hb d_ZF_leap_35 rfl (lv_at hl 2 rfl) ?_
    obtain ⟨c_6, hf⟩ := it_n hf
    refine va_lald hx hb hK hP 3 1 rfl rfl c_6 d_ZF_leap_36 ?_
    refine lv_goto (tgt := 52) hx hb d_ZF_leap_37 (by decide) ?_
    exact k_ZF_leap_52 C0 hST hK hP hz hE hf (lv_sub hl [] rfl)
end
set_option maxHeartbeats 400000 in
set_option maxRecDepth 100000 in
theorem c_ZF_leap (l : Launch) (dC : Nat → ClassId) (dI : Nat → Nat → Nat) (h0 : Nat) (zfTp : Nat) (zfWr : Nat) (zfZs : Nat) (zfSp : Nat) (zfLt : Nat) (zfSt : Nat) (zfFd : Nat) (zz : Nat) (zTi : Nat) (zTt : Nat) (zOf : Nat) (zDs : Nat) (zIx : Nat) (zSd : Nat) (zUt : Nat) (zCh : Nat) (zLt : Nat) (zLo : Nat) (zRu : Nat) (cAzfZs : ClassId) (cAzLt : ClassId) (cAzLo : ClassId) (nf : Nat) (p0 : Int32) (p1 : Int32) (p2 : Int32) (zfFc : Int32) (zfFp : Int32) (zg : Nat → Option Nat) (zVer : Int32) (zTic : Int32) (zTyc : Int32) (zLec : Int32) (zStc : Int32) (zUtc : Int32) (zLtA : Nat → Int64) (zLoA : Nat → Int32) {r0 : Int64} (hf : f_ZF_leap nf p0 p1 p2 zLec zLtA zLoA = some r0) (hz : zg p0.toNatClampNeg = some zz) : Met l y_ZF_leap (wd y_ZF_leap b_ZF_leap 4 (some .long)) ({ frames := 1, cells := 0, slots := 0, locals := 21 }) (RO dC dI [(h0, .inr (9, [.ref zfTp, .ref zfWr, .ref zfZs, .ref zfSp, .ref zfLt, .ref zfSt, .ref zfFd, .int zfFc, .int zfFp])), (zfZs, .inl (cAzfZs, 4, .inr (.inr (.inr (.inr zg))))), (zz, .inr (8, [.int zVer, .int zTic, .int zTyc, .int zLec, .int zStc, .int zUtc, .ref zTi, .ref zTt, .ref zOf, .ref zDs, .ref zIx, .ref zSd, .ref zUt, .ref zCh, .ref zLt, .ref zLo, .ref zRu])), (zLt, .inl (cAzLt, 40, .inr (.inl zLtA))), (zLo, .inl (cAzLo, 40, .inl zLoA))] [(cAzfZs, .object "ZoneFiles$Zone"), (cAzLt, .long), (cAzLo, .int)] [.ref h0, .int p0, .int p1, .int p2]) (SV (some (.long r0))) 0 0 (fun _ => False) :=
  met_S (plainFor_of_name (by decide)) (Nat.le_of_ble_eq_true rfl) (fun p e R s m args below meth c ls C0 hST hK hP hl => by
    obtain ⟨hx, hb, hr, hml, hown, hts, hlocks, hRf, hRl⟩ := id C0
    unfold f_ZF_leap at hf
    exact k_ZF_leap_0 C0 hST hK hP hz (fun pc ls hd => W.lret hx hb hr (fun t ht hW => ⟨rfl, ht⟩) (fun q h => by cases h) hd) hf (lv_sub hl [0, 1, 2, 3] rfl))
-- ZoneFiles.at(IJI)I
def f_ZF_at_103 (nf : Nat) (s0 : Int32) : Option (Int32) :=
  some s0
def f_ZF_at_0 (nf : Nat) (p0 : Int32) (zTic : Int32) (zTyc : Int32) (zTiA : Nat → Int64) (zTtA : Nat → Int32) (zOfA : Nat → Int32) (zDsA : Nat → Int32) (zIxA : Nat → Int32) (chS : Int32) (chN : Nat) (chA : Nat → Int32) (ruHas : Int32) (ruSo : Int32) (ruUo : Int32) (ruSs : Int32) (ruUs : Int32) (txS : Int32) (ebKind : Int32) (ebMonth : Int32) (ebWeek : Int32) (ebDay : Int32) (ebTime : Int32) (ebClock : Int32) (eeKind : Int32) (eeMonth : Int32) (eeWeek : Int32) (eeDay : Int32) (eeTime : Int32) (eeClock : Int32) (x2 : Int64) (x4 : Int32) : Option (Int32) :=
  (f_ZF_checkZone nf p0).bind fun _u =>
  (f_ZF_checkIndex nf x4 4).bind fun _u =>
  (f_ZF_checkInstant nf x2).bind fun _u =>
  if p0 < 0 ∨ 4 ≤ p0.toNatClampNeg then none else
  (f_Zone_stateAt nf x2 zTic zTiA zTtA ruHas txS ebKind ebMonth ebWeek ebDay ebTime ebClock eeKind eeMonth eeWeek eeDay eeTime eeClock).bind fun r_2 =>
  if r_2 = (-3 : Int32) then
  some (-2147483648)
  else
  if x4 = 0 then
    (f_Zone_offsetOf nf r_2 zTyc zOfA ruSo ruUo).bind fun r_5 =>
      some r_5
    else
    if x4 = 1 then
      (f_Zone_dstOf nf r_2 zTyc zDsA).bind fun r_7 =>
        some r_7
      else
      if x4 = 2 then
        (f_Zone_nameSize nf r_2 zTyc zIxA chS chN chA ruSs ruUs).bind fun r_9 =>
          some r_9
        else
        if r_2 < 0 then
          f_ZF_at_103 nf (-1)
          else
          f_ZF_at_103 nf r_2
def f_ZF_at (nf : Nat) (p0 : Int32) (p1 : Int64) (p2 : Int32) (zTic : Int32) (zTyc : Int32) (zTiA : Nat → Int64) (zTtA : Nat → Int32) (zOfA : Nat → Int32) (zDsA : Nat → Int32) (zIxA : Nat → Int32) (chS : Int32) (chN : Nat) (chA : Nat → Int32) (ruHas : Int32) (ruSo : Int32) (ruUo : Int32) (ruSs : Int32) (ruUs : Int32) (txS : Int32) (ebKind : Int32) (ebMonth : Int32) (ebWeek : Int32) (ebDay : Int32) (ebTime : Int32) (ebClock : Int32) (eeKind : Int32) (eeMonth : Int32) (eeWeek : Int32) (eeDay : Int32) (eeTime : Int32) (eeClock : Int32) : Option (Int32) :=
  f_ZF_at_0 nf p0 zTic zTyc zTiA zTtA zOfA zDsA zIxA chS chN chA ruHas ruSo ruUo ruSs ruUs txS ebKind ebMonth ebWeek ebDay ebTime ebClock eeKind eeMonth eeWeek eeDay eeTime eeClock p1 p2
section
variable {p : Program} {l : Launch} {e : Env} {R : Room} {s : State} {m : MethodId} {args : Array Value} {below : List Frame} {meth : Method} {c : Code} {Q : State → Prop} {dC : Nat → ClassId} {dI : Nat → Nat → Nat} {nf : Nat}
variable {h0 : Nat} {zfTp : Nat} {zfWr : Nat} {zfZs : Nat} {zfSp : Nat} {zfLt : Nat} {zfSt : Nat} {zfFd : Nat} {zz : Nat} {zTi : Nat} {zTt : Nat} {zOf : Nat} {zDs : Nat} {zIx : Nat} {zSd : Nat} {zUt : Nat} {zCh : Nat} {zLt : Nat} {zLo : Nat} {zRu : Nat} {chR : Nat} {ruT : Nat} {ruB : Nat} {ruE : Nat} {txR : Nat} {cAzfZs : ClassId} {cAzTi : ClassId} {cAzTt : ClassId} {cAzOf : ClassId} {cAzDs : ClassId} {cAzIx : ClassId} {cAchR : ClassId} {p0 : Int32} {zfFc : Int32} {zfFp : Int32} {zg : Nat → Option Nat} {zVer : Int32} {zTic : Int32} {zTyc : Int32} {zLec : Int32} {zStc : Int32} {zUtc : Int32} {zTiA : Nat → Int64} {zTtA : Nat → Int32} {zOfA : Nat → Int32} {zDsA : Nat → Int32} {zIxA : Nat → Int32} {chS : Int32} {chN : Nat} {chA : Nat → Int32} {ruHas : Int32} {ruWide : Int32} {ruSo : Int32} {ruUo : Int32} {ruSp : Int32} {ruSs : Int32} {ruUp : Int32} {ruUs : Int32} {ruNev : Int32} {txS : Int32} {ebKind : Int32} {ebMonth : Int32} {ebWeek : Int32} {ebDay : Int32} {ebTime : Int32} {ebClock : Int32} {eeKind : Int32} {eeMonth : Int32} {eeWeek : Int32} {eeDay : Int32} {eeTime : Int32} {eeClock : Int32} {r0 : Int32}
set_option maxHeartbeats 400000 in
set_option maxRecDepth 100000 in
theorem k_ZF_at_103 (C0 : Cx p s m meth c args R b_ZF_at "ZoneFiles" 7 (some .int) 6 148) (hST : ST (fun _ => False) s s.heap) (hK : va_K (dC, dI) classes [(cAzfZs, .object "ZoneFiles$Zone"), (cAzTi, .long), (cAzTt, .int), (cAzOf, .int), (cAzDs, .int), (cAzIx, .int), (cAchR, .byte)] s) (hP : va_P (dC, dI) classes [(h0, .inr (9, [.ref zfTp, .ref zfWr, .ref zfZs, .ref zfSp, .ref zfLt, .ref zfSt, .ref zfFd, .int zfFc, .int zfFp])), (zfZs, .inl (cAzfZs, 4, .inr (.inr (.inr (.inr zg))))), (zz, .inr (8, [.int zVer, .int zTic, .int zTyc, .int zLec, .int zStc, .int zUtc, .ref zTi, .ref zTt, .ref zOf, .ref zDs, .ref zIx, .ref zSd, .ref zUt, .ref zCh, .ref zLt, .ref zLo, .ref zRu])), (zTi, .inl (cAzTi, 200, .inr (.inl zTiA))), (zTt, .inl (cAzTt, 200, .inl zTtA)), (zOf, .inl (cAzOf, 40, .inl zOfA)), (zDs, .inl (cAzDs, 40, .inl zDsA)), (zIx, .inl (cAzIx, 40, .inl zIxA)), (zCh, .inr (0, [.ref chR, .int chS])), (chR, .inl (cAchR, chN, .inl chA)), (zRu, .inr (5, [.ref ruT, .ref ruB, .ref ruE, .int ruHas, .int ruWide, .int ruSo, .int ruUo, .int ruSp, .int ruSs, .int ruUp, .int ruUs, .int ruNev])), (ruT, .inr (0, [.ref txR, .int txS])), (ruB, .inr (1, [.int ebKind, .int ebMonth, .int ebWeek, .int ebDay, .int ebTime, .int ebClock])), (ruE, .inr (1, [.int eeKind, .int eeMonth, .int eeWeek, .int eeDay, .int eeTime, .int eeClock]))] s.heap) (hz : zg p0.toNatClampNeg = some zz) (hE : ∀ (pc : Nat) (ls : Array Slot), decode b_ZF_at pc = .ok (.ireturn, 1) → narrow .int (.int r0) = .int r0 → W p l e R s m args below meth c s.heap [] 0 0 Q (F0 m pc ls [.int r0])) {s0 : Int32} (hf : f_ZF_at_103 nf s0 = some r0) {ls : Array Slot} (hl : lv_has ls 7 []) : W p l e R s m args below meth c s.heap [] 0 0 Q (F0 m 103 ls [.int s0]) := by
  obtain ⟨hx, hb, hr, hml, hown, hts, hlocks, hRf, hRl⟩ := id C0
  obtain ⟨tms, hZms, hTms, tmg, hZmg, hTmg, hNW⟩ := id hST
  unfold f_ZF_at_103 at hf
  have e := rs hf
  subst e
  exact hE _ _ d_ZF_at_103 rfl
set_option maxHeartbeats 400000 in
set_option maxRecDepth 100000 in
theorem k_ZF_at_0 (C0 : Cx p s m meth c args R b_ZF_at "ZoneFiles" 7 (some .int) 6 148) (hST : ST (fun _ => False) s s.heap) (hK : va_K (dC, dI) classes [(cAzfZs, .object "ZoneFiles$Zone"), (cAzTi, .long), (cAzTt, .int), (cAzOf, .int), (cAzDs, .int), (cAzIx, .int), (cAchR, .byte)] s) (hP : va_P (dC, dI) classes [(h0, .inr (9, [.ref zfTp, .ref zfWr, .ref zfZs, .ref zfSp, .ref zfLt, .ref zfSt, .ref zfFd, .int zfFc, .int zfFp])), (zfZs, .inl (cAzfZs, 4, .inr (.inr (.inr (.inr zg))))), (zz, .inr (8, [.int zVer, .int zTic, .int zTyc, .int zLec, .int zStc, .int zUtc, .ref zTi, .ref zTt, .ref zOf, .ref zDs, .ref zIx, .ref zSd, .ref zUt, .ref zCh, .ref zLt, .ref zLo, .ref zRu])), (zTi, .inl (cAzTi, 200, .inr (.inl zTiA))), (zTt, .inl (cAzTt, 200, .inl zTtA)), (zOf, .inl (cAzOf, 40, .inl zOfA)), (zDs, .inl (cAzDs, 40, .inl zDsA)), (zIx, .inl (cAzIx, 40, .inl zIxA)), (zCh, .inr (0, [.ref chR, .int chS])), (chR, .inl (cAchR, chN, .inl chA)), (zRu, .inr (5, [.ref ruT, .ref ruB, .ref ruE, .int ruHas, .int ruWide, .int ruSo, .int ruUo, .int ruSp, .int ruSs, .int ruUp, .int ruUs, .int ruNev])), (ruT, .inr (0, [.ref txR, .int txS])), (ruB, .inr (1, [.int ebKind, .int ebMonth, .int ebWeek, .int ebDay, .int ebTime, .int ebClock])), (ruE, .inr (1, [.int eeKind, .int eeMonth, .int eeWeek, .int eeDay, .int eeTime, .int eeClock]))] s.heap) (hz : zg p0.toNatClampNeg = some zz) (hE : ∀ (pc : Nat) (ls : Array Slot), decode b_ZF_at pc = .ok (.ireturn, 1) → narrow .int (.int r0) = .int r0 → W p l e R s m args below meth c s.heap [] 0 0 Q (F0 m pc ls [.int r0])) {x2 : Int64} {x4 : Int32} (hf : f_ZF_at_0 nf p0 zTic zTyc zTiA zTtA zOfA zDsA zIxA chS chN chA ruHas ruSo ruUo ruSs ruUs txS ebKind ebMonth ebWeek ebDay ebTime ebClock eeKind eeMonth eeWeek eeDay eeTime eeClock x2 x4 = some r0) {ls : Array Slot} (hl : lv_has ls 7 [(0, .ref h0), (1, .int p0), (2, .long x2), (4, .int x4)]) : W p l e R s m args below meth c s.heap [] 0 0 Q (F0 m 0 ls []) := by
  obtain ⟨hx, hb, hr, hml, hown, hts, hlocks, hRf, hRl⟩ := id C0
  obtain ⟨tms, hZms, hTms, tmg, hZmg, hTmg, hNW⟩ := id hST
  unfold f_ZF_at_0 at hf
  refine lv_iload_n hx hb d_ZF_at_0 rfl (lv_at hl 1 rfl) ?_
  obtain ⟨_u, hc, hf⟩ := ob hf
  refine cl_S (v := none) (st1 := []) (va_runS (As := [.int p0]) (rest := []) ⟨hx, hb, hml, hown, hts⟩ (c_ZF_checkZone l dC dI nf p0 hc) (va_cwS 1 hts (gdS m_3_131 m_3_132 m_1_1 m_3_133) rfl rfl rfl (by decide +kernel) ⟨Nat.le_trans (Nat.le_of_ble_eq_true rfl) hRf, Nat.le_trans (Nat.le_of_ble_eq_true rfl) hRl⟩) (RO.pre0 hK hST).sta rfl rfl hl.1 rfl (lv_room (Nat.le_of_ble_eq_true rfl)) d_ZF_at_1 ⟨Nat.zero_le _, Nat.zero_le _⟩) rfl ?_
  refine lv_iload hx hb d_ZF_at_4 (lv_at hl 3 rfl) ?_
  refine lv_iconst (v := 4) hx hb d_ZF_at_6 (by decide) ?_
  obtain ⟨_u, hc, hf⟩ := ob hf
  refine cl_S (v := none) (st1 := []) (va_runS (As := [.int x4, .int 4]) (rest := []) ⟨hx, hb, hml, hown, hts⟩ (c_ZF_checkIndex l dC dI nf x4 4 hc) (va_cwS 2 hts (gdS m_4_234 m_4_235 m_1_1 m_4_236) rfl rfl rfl (by decide +kernel) ⟨Nat.le_trans (Nat.le_of_ble_eq_true rfl) hRf, Nat.le_trans (Nat.le_of_ble_eq_true rfl) hRl⟩) (RO.pre0 hK hST).sta rfl rfl hl.1 rfl (lv_room (Nat.le_of_ble_eq_true rfl)) d_ZF_at_7 ⟨Nat.zero_le _, Nat.zero_le _⟩) rfl ?_
  refine lv_lload_n hx hb d_ZF_at_10 rfl (lv_at hl 2 rfl) ?_
  obtain ⟨_u, hc, hf⟩ := ob hf
  refine cl_S (v := none) (st1 := []) (va_runS (As := [.long x2]) (rest := []) ⟨hx, hb, hml, hown, hts⟩ (c_ZF_checkInstant l dC dI nf x2 hc) (va_cwS 1 hts (gdS m_5_36 m_5_37 m_1_1 m_5_38) rfl rfl rfl (by decide +kernel) ⟨Nat.le_trans (Nat.le_of_ble_eq_true rfl) hRf, Nat.le_trans (Nat.le_of_ble_eq_true rfl) hRl⟩) (RO.pre0 hK hST).sta rfl rfl hl.1 rfl (lv_room (Nat.le_of_ble_eq_true rfl)) d_ZF_at_11 ⟨Nat.zero_le _, Nat.zero_le _⟩) rfl ?_
  refine lv_aload_n hx hb d_ZF_at_14 rfl (lv_at hl 0 rfl) ?_
  refine va_get (D := (dC, dI)) (ci := 9) (v := .ref zfZs) (C := RZoneFiles) (T := TZoneFiles) (N := 9) hx hb hts in_ZoneFiles hown hK hP 0 rfl rfl 2 (by decide) (hts (.fieldLink "ZoneFiles" 23 "ZoneFiles" "zones" "[LZoneFiles$Zone;") m_2_119) (fun _ h9 => h9) rfl d_ZF_at_15 ?_
  refine lv_iload_n hx hb d_ZF_at_18 rfl (lv_at hl 1 rfl) ?_
  obtain ⟨c_1, hf⟩ := it_n hf
  refine zf_ald (zz := zz) hx hb hK hP 1 0 rfl rfl c_1 hz d_ZF_at_19 ?_
  refine lv_astore (lv' := [(5, .ref zz), (0, .ref h0), (1, .int p0), (2, .long x2), (4, .int x4)]) hx hb d_ZF_at_20 hl (by decide) rfl (fun ls hl => ?_)
  refine lv_aload hx hb d_ZF_at_22 (lv_at hl 0 rfl) ?_
  refine lv_lload_n hx hb d_ZF_at_24 rfl (lv_at hl 3 rfl) ?_
  obtain ⟨r_2, hc, hf⟩ := ob hf
  refine cl_S (v := (some (.int r_2))) (st1 := [.int r_2]) (va_runV (As := [.long x2]) (rest := []) ⟨hx, hb, hml, hown, hts⟩ (c_Zone_stateAt l dC dI zz zTi zTt zOf zDs zIx zSd zUt zCh zLt zLo zRu ruT ruB ruE txR cAzTi cAzTt nf x2 zVer zTic zTyc zLec zStc zUtc zTiA zTtA ruHas ruWide ruSo ruUo ruSp ruSs ruUp ruUs ruNev txS ebKind ebMonth ebWeek ebDay ebTime ebClock eeKind eeMonth eeWeek eeDay eeTime eeClock hc) (cwV 1 hts (gdV m_5_41 m_4_142 m_4_143 m_1_3 m_4_144) rfl rfl rfl (by decide +kernel) ⟨Nat.le_trans (Nat.le_of_ble_eq_true rfl) hRf, Nat.le_trans (Nat.le_of_ble_eq_true rfl) hRl⟩) ((RO.pre (hP.sub (ws' := [(zz, .inr (8, [.int zVer, .int zTic, .int zTyc, .int zLec, .int zStc, .int zUtc, .ref zTi, .ref zTt, .ref zOf, .ref zDs, .ref zIx, .ref zSd, .ref zUt, .ref zCh, .ref zLt, .ref zLo, .ref zRu])), (zTi, .inl (cAzTi, 200, .inr (.inl zTiA))), (zTt, .inl (cAzTt, 200, .inl zTtA)), (zRu, .inr (5, [.ref ruT, .ref ruB, .ref ruE, .int ruHas, .int ruWide, .int ruSo, .int ruUo, .int ruSp, .int ruSs, .int ruUp, .int ruUs, .int ruNev])), (ruT, .inr (0, [.ref txR, .int txS])), (ruB, .inr (1, [.int ebKind, .int ebMonth, .int ebWeek, .int ebDay, .int ebTime, .int ebClock])), (ruE, .inr (1, [.int eeKind, .int eeMonth, .int eeWeek, .int eeDay, .int eeTime, .int eeClock]))]) [2, 3, 4, 10, 11, 12, 13] rfl) (hK.sub (tys' := [(cAzTi, .long), (cAzTt, .int)]) [1, 2] rfl) hST).vir (va_recv (hK.sub (tys' := [(cAzTi, .long), (cAzTt, .int)]) [1, 2] rfl) (hP.sub (ws' := [(zz, .inr (8, [.int zVer, .int zTic, .int zTyc, .int zLec, .int zStc, .int zUtc, .ref zTi, .ref zTt, .ref zOf, .ref zDs, .ref zIx, .ref zSd, .ref zUt, .ref zCh, .ref zLt, .ref zLo, .ref zRu])), (zTi, .inl (cAzTi, 200, .inr (.inl zTiA))), (zTt, .inl (cAzTt, 200, .inl zTtA)), (zRu, .inr (5, [.ref ruT, .ref ruB, .ref ruE, .int ruHas, .int ruWide, .int ruSo, .int ruUo, .int ruSp, .int ruSs, .int ruUp, .int ruUs, .int ruNev])), (ruT, .inr (0, [.ref txR, .int txS])), (ruB, .inr (1, [.int ebKind, .int ebMonth, .int ebWeek, .int ebDay, .int ebTime, .int ebClock])), (ruE, .inr (1, [.int eeKind, .int eeMonth, .int eeWeek, .int eeDay, .int eeTime, .int eeClock]))]) [2, 3, 4, 10, 11, 12, 13] rfl) (ci := 8) (q0 := 0) rfl rfl)) rfl rfl hl.1 rfl (lv_room (Nat.le_of_ble_eq_true rfl)) d_ZF_at_25 ⟨Nat.zero_le _, Nat.zero_le _⟩) rfl ?_
  refine lv_istore (lv' := [(6, .int r_2), (5, .ref zz), (0, .ref h0), (1, .int p0), (2, .long x2), (4, .int x4)]) hx hb d_ZF_at_28 hl (by decide) rfl (fun ls hl => ?_)
  refine lv_iload hx hb d_ZF_at_30 (lv_at hl 0 rfl) ?_
  refine lv_bipush (v := -3) hx hb d_ZF_at_32 (by decide) ?_
  refine lv_icmp_ne (tgt := 40) hx hb d_ZF_at_34 (by decide) (fun c_3 => ?_) (fun c_3 => ?_)
  · have hf := it_f c_3 hf
    refine lv_iload hx hb d_ZF_at_40 (lv_at hl 5 rfl) ?_
    by_cases c_4 : x4 = 0
    · have hf := it_t c_4 hf
      refine lv_tableIn (tgt := 68) hx hb d_ZF_at_42 (by rw [c_4]; decide) (by rw [c_4]; decide) (by rw [c_4]; rfl) (by decide) ?_
      refine lv_aload hx hb d_ZF_at_68 (lv_at hl 1 rfl) ?_
      refine lv_iload hx hb d_ZF_at_70 (lv_at hl 0 rfl) ?_
      obtain ⟨r_5, hc, hf⟩ := ob hf
      refine cl_S (v := (some (.int r_5))) (st1 := [.int r_5]) (va_runV (As := [.int r_2]) (rest := []) ⟨hx, hb, hml, hown, hts⟩ (c_Zone_offsetOf l dC dI zz zTi zTt zOf zDs zIx zSd zUt zCh zLt zLo zRu ruT ruB ruE cAzOf nf r_2 zVer zTic zTyc zLec zStc zUtc zOfA ruHas ruWide ruSo ruUo ruSp ruSs ruUp ruUs ruNev hc) (cwV 1 hts (gdV m_5_43 m_2_83 m_2_84 m_1_3 m_2_85) rfl rfl rfl (by decide +kernel) ⟨Nat.le_trans (Nat.le_of_ble_eq_true rfl) hRf, Nat.le_trans (Nat.le_of_ble_eq_true rfl) hRl⟩) ((RO.pre (hP.sub (ws' := [(zz, .inr (8, [.int zVer, .int zTic, .int zTyc, .int zLec, .int zStc, .int zUtc, .ref zTi, .ref zTt, .ref zOf, .ref zDs, .ref zIx, .ref zSd, .ref zUt, .ref zCh, .ref zLt, .ref zLo, .ref zRu])), (zOf, .inl (cAzOf, 40, .inl zOfA)), (zRu, .inr (5, [.ref ruT, .ref ruB, .ref ruE, .int ruHas, .int ruWide, .int ruSo, .int ruUo, .int ruSp, .int ruSs, .int ruUp, .int ruUs, .int ruNev]))]) [2, 5, 10] rfl) (hK.sub (tys' := [(cAzOf, .int)]) [3] rfl) hST).vir (va_recv (hK.sub (tys' := [(cAzOf, .int)]) [3] rfl) (hP.sub (ws' := [(zz, .inr (8, [.int zVer, .int zTic, .int zTyc, .int zLec, .int zStc, .int zUtc, .ref zTi, .ref zTt, .ref zOf, .ref zDs, .ref zIx, .ref zSd, .ref zUt, .ref zCh, .ref zLt, .ref zLo, .ref zRu])), (zOf, .inl (cAzOf, 40, .inl zOfA)), (zRu, .inr (5, [.ref ruT, .ref ruB, .ref ruE, .int ruHas, .int ruWide, .int ruSo, .int ruUo, .int ruSp, .int ruSs, .int ruUp, .int ruUs, .int ruNev]))]) [2, 5, 10] rfl) (ci := 8) (q0 := 0) rfl rfl)) rfl rfl hl.1 rfl (lv_room (Nat.le_of_ble_eq_true rfl)) d_ZF_at_72 ⟨Nat.zero_le _, Nat.zero_le _⟩) rfl ?_
      have e := rs hf
      subst e
      exact hE _ _ d_ZF_at_75 rfl
    · have hf := it_f c_4 hf
      by_cases c_6 : x4 = 1
      · have hf := it_t c_6 hf
        refine lv_tableIn (tgt := 76) hx hb d_ZF_at_42 (by rw [c_6]; decide) (by rw [c_6]; decide) (by rw [c_6]; rfl) (by decide) ?_
        refine lv_aload hx hb d_ZF_at_76 (lv_at hl 1 rfl) ?_
        refine lv_iload hx hb d_ZF_at_78 (lv_at hl 0 rfl) ?_
        obtain ⟨r_7, hc, hf⟩ := ob hf
        refine cl_S (v := (some (.int r_7))) (st1 := [.int r_7]) (va_runV (As := [.int r_2]) (rest := []) ⟨hx, hb, hml, hown, hts⟩ (c_Zone_dstOf l dC dI zz zTi zTt zOf zDs zIx zSd zUt zCh zLt zLo zRu cAzDs nf r_2 zVer zTic zTyc zLec zStc zUtc zDsA hc) (cwV 1 hts (gdV m_5_44 m_2_87 m_2_88 m_1_3 m_2_89) rfl rfl rfl (by decide +kernel) ⟨Nat.le_trans (Nat.le_of_ble_eq_true rfl) hRf, Nat.le_trans (Nat.le_of_ble_eq_true rfl) hRl⟩) ((RO.pre (hP.sub (ws' := [(zz, .inr (8, [.int zVer, .int zTic, .int zTyc, .int zLec, .int zStc, .int zUtc, .ref zTi, .ref zTt, .ref zOf, .ref zDs, .ref zIx, .ref zSd, .ref zUt, .ref zCh, .ref zLt, .ref zLo, .ref zRu])), (zDs, .inl (cAzDs, 40, .inl zDsA))]) [2, 6] rfl) (hK.sub (tys' := [(cAzDs, .int)]) [4] rfl) hST).vir (va_recv (hK.sub (tys' := [(cAzDs, .int)]) [4] rfl) (hP.sub (ws' := [(zz, .inr (8, [.int zVer, .int zTic, .int zTyc, .int zLec, .int zStc, .int zUtc, .ref zTi, .ref zTt, .ref zOf, .ref zDs, .ref zIx, .ref zSd, .ref zUt, .ref zCh, .ref zLt, .ref zLo, .ref zRu])), (zDs, .inl (cAzDs, 40, .inl zDsA))]) [2, 6] rfl) (ci := 8) (q0 := 0) rfl rfl)) rfl rfl hl.1 rfl (lv_room (Nat.le_of_ble_eq_true rfl)) d_ZF_at_80 ⟨Nat.zero_le _, Nat.zero_le _⟩) rfl ?_
        have e := rs hf
        subst e
        exact hE _ _ d_ZF_at_83 rfl
      · have hf := it_f c_6 hf
        by_cases c_8 : x4 = 2
        · have hf := it_t c_8 hf
          refine lv_tableIn (tgt := 84) hx hb d_ZF_at_42 (by rw [c_8]; decide) (by rw [c_8]; decide) (by rw [c_8]; rfl) (by decide) ?_
          refine lv_aload hx hb d_ZF_at_84 (lv_at hl 1 rfl) ?_
          refine lv_iload hx hb d_ZF_at_86 (lv_at hl 0 rfl) ?_
          obtain ⟨r_9, hc, hf⟩ := ob hf
          refine cl_S (v := (some (.int r_9))) (st1 := [.int r_9]) (va_runV (As := [.int r_2]) (rest := []) ⟨hx, hb, hml, hown, hts⟩ (c_Zone_nameSize l dC dI zz zTi zTt zOf zDs zIx zSd zUt zCh zLt zLo zRu chR ruT ruB ruE cAzIx cAchR nf r_2 zVer zTic zTyc zLec zStc zUtc zIxA chS chN chA ruHas ruWide ruSo ruUo ruSp ruSs ruUp ruUs ruNev hc) (cwV 1 hts (gdV m_5_12 m_2_67 m_2_68 m_1_3 m_2_69) rfl rfl rfl (by decide +kernel) ⟨Nat.le_trans (Nat.le_of_ble_eq_true rfl) hRf, Nat.le_trans (Nat.le_of_ble_eq_true rfl) hRl⟩) ((RO.pre (hP.sub (ws' := [(zz, .inr (8, [.int zVer, .int zTic, .int zTyc, .int zLec, .int zStc, .int zUtc, .ref zTi, .ref zTt, .ref zOf, .ref zDs, .ref zIx, .ref zSd, .ref zUt, .ref zCh, .ref zLt, .ref zLo, .ref zRu])), (zIx, .inl (cAzIx, 40, .inl zIxA)), (zCh, .inr (0, [.ref chR, .int chS])), (chR, .inl (cAchR, chN, .inl chA)), (zRu, .inr (5, [.ref ruT, .ref ruB, .ref ruE, .int ruHas, .int ruWide, .int ruSo, .int ruUo, .int ruSp, .int ruSs, .int ruUp, .int ruUs, .int ruNev]))]) [2, 7, 8, 9, 10] rfl) (hK.sub (tys' := [(cAzIx, .int), (cAchR, .byte)]) [5, 6] rfl) hST).vir (va_recv (hK.sub (tys' := [(cAzIx, .int), (cAchR, .byte)]) [5, 6] rfl) (hP.sub (ws' := [(zz, .inr (8, [.int zVer, .int zTic, .int zTyc, .int zLec, .int zStc, .int zUtc, .ref zTi, .ref zTt, .ref zOf, .ref zDs, .ref zIx, .ref zSd, .ref zUt, .ref zCh, .ref zLt, .ref zLo, .ref zRu])), (zIx, .inl (cAzIx, 40, .inl zIxA)), (zCh, .inr (0, [.ref chR, .int chS])), (chR, .inl (cAchR, chN, .inl chA)), (zRu, .inr (5, [.ref ruT, .ref ruB, .ref ruE, .int ruHas, .int ruWide, .int ruSo, .int ruUo, .int ruSp, .int ruSs, .int ruUp, .int ruUs, .int ruNev]))]) [2, 7, 8, 9, 10] rfl) (ci := 8) (q0 := 0) rfl rfl)) rfl rfl hl.1 rfl (lv_room (Nat.le_of_ble_eq_true rfl)) d_ZF_at_88 ⟨Nat.zero_le _, Nat.zero_le _⟩) rfl ?_
          have e := rs hf
          subst e
          exact hE _ _ d_ZF_at_91 rfl
        · have hf := it_f c_8 hf
          have hsw : x4.toInt < 0 ∨ 2 < x4.toInt := by
            have hsw0 := lv_neT c_4 (a := 0) rfl
            have hsw1 := lv_neT c_6 (a := 1) rfl
            have hsw2 := lv_neT c_8 (a := 2) rfl
            omega
          refine lv_tableOut (tgt := 92) hx hb d_ZF_at_42 hsw (by decide) ?_
          refine lv_iload hx hb d_ZF_at_92 (lv_at hl 0 rfl) ?_
          refine lv_if_lt (tgt := 102) hx hb d_ZF_at_94 (by decide) (fun c_10 => ?_) (fun c_10 => ?_)
          · have hf := it_t c_10 hf
            refine lv_iconst (v := -1) hx hb d_ZF_at_102 (by decide) ?_
            exact k_ZF_at_103 C0 hST hK hP hz hE hf (lv_sub hl [] rfl)
          · have hf := it_f c_10 hf
            refine lv_iload hx hb d_ZF_at_97 (lv_at hl 0 rfl) ?_
            refine lv_goto (tgt := 103) hx hb d_ZF_at_99 (by decide) ?_
            exact k_ZF_at_103 C0 hST hK hP hz hE hf (lv_sub hl [] rfl)
  · have hf := it_t c_3 hf
    refine lv_ldc (v := (-2147483648)) hx hb hown (hts (.constant "ZoneFiles" 214 (-2147483648)) m_5_42) d_ZF_at_37 ?_
    have e := rs hf
    subst e
    exact hE _ _ d_ZF_at_39 rfl
end
set_option maxHeartbeats 400000 in
set_option maxRecDepth 100000 in
theorem c_ZF_at (l : Launch) (dC : Nat → ClassId) (dI : Nat → Nat → Nat) (h0 : Nat) (zfTp : Nat) (zfWr : Nat) (zfZs : Nat) (zfSp : Nat) (zfLt : Nat) (zfSt : Nat) (zfFd : Nat) (zz : Nat) (zTi : Nat) (zTt : Nat) (zOf : Nat) (zDs : Nat) (zIx : Nat) (zSd : Nat) (zUt : Nat) (zCh : Nat) (zLt : Nat) (zLo : Nat) (zRu : Nat) (chR : Nat) (ruT : Nat) (ruB : Nat) (ruE : Nat) (txR : Nat) (cAzfZs : ClassId) (cAzTi : ClassId) (cAzTt : ClassId) (cAzOf : ClassId) (cAzDs : ClassId) (cAzIx : ClassId) (cAchR : ClassId) (nf : Nat) (p0 : Int32) (p1 : Int64) (p2 : Int32) (zfFc : Int32) (zfFp : Int32) (zg : Nat → Option Nat) (zVer : Int32) (zTic : Int32) (zTyc : Int32) (zLec : Int32) (zStc : Int32) (zUtc : Int32) (zTiA : Nat → Int64) (zTtA : Nat → Int32) (zOfA : Nat → Int32) (zDsA : Nat → Int32) (zIxA : Nat → Int32) (chS : Int32) (chN : Nat) (chA : Nat → Int32) (ruHas : Int32) (ruWide : Int32) (ruSo : Int32) (ruUo : Int32) (ruSp : Int32) (ruSs : Int32) (ruUp : Int32) (ruUs : Int32) (ruNev : Int32) (txS : Int32) (ebKind : Int32) (ebMonth : Int32) (ebWeek : Int32) (ebDay : Int32) (ebTime : Int32) (ebClock : Int32) (eeKind : Int32) (eeMonth : Int32) (eeWeek : Int32) (eeDay : Int32) (eeTime : Int32) (eeClock : Int32) {r0 : Int32} (hf : f_ZF_at nf p0 p1 p2 zTic zTyc zTiA zTtA zOfA zDsA zIxA chS chN chA ruHas ruSo ruUo ruSs ruUs txS ebKind ebMonth ebWeek ebDay ebTime ebClock eeKind eeMonth eeWeek eeDay eeTime eeClock = some r0) (hz : zg p0.toNatClampNeg = some zz) : Met l y_ZF_at (wd y_ZF_at b_ZF_at 7 (some .int)) ({ frames := 6, cells := 0, slots := 0, locals := 148 }) (RO dC dI [(h0, .inr (9, [.ref zfTp, .ref zfWr, .ref zfZs, .ref zfSp, .ref zfLt, .ref zfSt, .ref zfFd, .int zfFc, .int zfFp])), (zfZs, .inl (cAzfZs, 4, .inr (.inr (.inr (.inr zg))))), (zz, .inr (8, [.int zVer, .int zTic, .int zTyc, .int zLec, .int zStc, .int zUtc, .ref zTi, .ref zTt, .ref zOf, .ref zDs, .ref zIx, .ref zSd, .ref zUt, .ref zCh, .ref zLt, .ref zLo, .ref zRu])), (zTi, .inl (cAzTi, 200, .inr (.inl zTiA))), (zTt, .inl (cAzTt, 200, .inl zTtA)), (zOf, .inl (cAzOf, 40, .inl zOfA)), (zDs, .inl (cAzDs, 40, .inl zDsA)), (zIx, .inl (cAzIx, 40, .inl zIxA)), (zCh, .inr (0, [.ref chR, .int chS])), (chR, .inl (cAchR, chN, .inl chA)), (zRu, .inr (5, [.ref ruT, .ref ruB, .ref ruE, .int ruHas, .int ruWide, .int ruSo, .int ruUo, .int ruSp, .int ruSs, .int ruUp, .int ruUs, .int ruNev])), (ruT, .inr (0, [.ref txR, .int txS])), (ruB, .inr (1, [.int ebKind, .int ebMonth, .int ebWeek, .int ebDay, .int ebTime, .int ebClock])), (ruE, .inr (1, [.int eeKind, .int eeMonth, .int eeWeek, .int eeDay, .int eeTime, .int eeClock]))] [(cAzfZs, .object "ZoneFiles$Zone"), (cAzTi, .long), (cAzTt, .int), (cAzOf, .int), (cAzDs, .int), (cAzIx, .int), (cAchR, .byte)] [.ref h0, .int p0, .long p1, .int p2]) (SV (some (.int r0))) 0 0 (fun _ => False) :=
  met_S (plainFor_of_name (by decide)) (Nat.le_of_ble_eq_true rfl) (fun p e R s m args below meth c ls C0 hST hK hP hl => by
    obtain ⟨hx, hb, hr, hml, hown, hts, hlocks, hRf, hRl⟩ := id C0
    unfold f_ZF_at at hf
    exact k_ZF_at_0 C0 hST hK hP hz (fun pc ls hd hn => W.zret hx hb hr hn (fun t ht hW => ⟨rfl, ht⟩) (fun q h => by cases h) hd) hf (lv_sub hl [0, 1, 2, 3] rfl))
-- ZoneFiles.name(IJI)I
def f_ZF_name_41 (nf : Nat) : Option (Int32) :=
  none
def f_ZF_name_0 (nf : Nat) (p0 : Int32) (zTic : Int32) (zTyc : Int32) (zTiA : Nat → Int64) (zTtA : Nat → Int32) (zIxA : Nat → Int32) (chS : Int32) (chN : Nat) (chA : Nat → Int32) (ruHas : Int32) (ruSp : Int32) (ruSs : Int32) (ruUp : Int32) (ruUs : Int32) (txS : Int32) (txN : Nat) (txA : Nat → Int32) (ebKind : Int32) (ebMonth : Int32) (ebWeek : Int32) (ebDay : Int32) (ebTime : Int32) (ebClock : Int32) (eeKind : Int32) (eeMonth : Int32) (eeWeek : Int32) (eeDay : Int32) (eeTime : Int32) (eeClock : Int32) (x2 : Int64) (x4 : Int32) : Option (Int32) :=
  (f_ZF_checkZone nf p0).bind fun _u =>
  (f_ZF_checkInstant nf x2).bind fun _u =>
  if p0 < 0 ∨ 4 ≤ p0.toNatClampNeg then none else
  (f_Zone_stateAt nf x2 zTic zTiA zTtA ruHas txS ebKind ebMonth ebWeek ebDay ebTime ebClock eeKind eeMonth eeWeek eeDay eeTime eeClock).bind fun r_2 =>
  if x4 < 0 then
  f_ZF_name_41 nf
  else
  if p0 < 0 ∨ 4 ≤ p0.toNatClampNeg then none else
    (f_Zone_nameSize nf r_2 zTyc zIxA chS chN chA ruSs ruUs).bind fun r_5 =>
    if x4 < r_5 then
    if p0 < 0 ∨ 4 ≤ p0.toNatClampNeg then none else
      (f_Zone_nameByte nf r_2 x4 zTyc zIxA chS chN chA ruSp ruUp txS txN txA).bind fun r_8 =>
      some r_8
    else
    f_ZF_name_41 nf
def f_ZF_name (nf : Nat) (p0 : Int32) (p1 : Int64) (p2 : Int32) (zTic : Int32) (zTyc : Int32) (zTiA : Nat → Int64) (zTtA : Nat → Int32) (zIxA : Nat → Int32) (chS : Int32) (chN : Nat) (chA : Nat → Int32) (ruHas : Int32) (ruSp : Int32) (ruSs : Int32) (ruUp : Int32) (ruUs : Int32) (txS : Int32) (txN : Nat) (txA : Nat → Int32) (ebKind : Int32) (ebMonth : Int32) (ebWeek : Int32) (ebDay : Int32) (ebTime : Int32) (ebClock : Int32) (eeKind : Int32) (eeMonth : Int32) (eeWeek : Int32) (eeDay : Int32) (eeTime : Int32) (eeClock : Int32) : Option (Int32) :=
  f_ZF_name_0 nf p0 zTic zTyc zTiA zTtA zIxA chS chN chA ruHas ruSp ruSs ruUp ruUs txS txN txA ebKind ebMonth ebWeek ebDay ebTime ebClock eeKind eeMonth eeWeek eeDay eeTime eeClock p1 p2
section
variable {p : Program} {l : Launch} {e : Env} {R : Room} {s : State} {m : MethodId} {args : Array Value} {below : List Frame} {meth : Method} {c : Code} {Q : State → Prop} {dC : Nat → ClassId} {dI : Nat → Nat → Nat} {nf : Nat}
variable {h0 : Nat} {zfTp : Nat} {zfWr : Nat} {zfZs : Nat} {zfSp : Nat} {zfLt : Nat} {zfSt : Nat} {zfFd : Nat} {zz : Nat} {zTi : Nat} {zTt : Nat} {zOf : Nat} {zDs : Nat} {zIx : Nat} {zSd : Nat} {zUt : Nat} {zCh : Nat} {zLt : Nat} {zLo : Nat} {zRu : Nat} {chR : Nat} {ruT : Nat} {ruB : Nat} {ruE : Nat} {txR : Nat} {cAzfZs : ClassId} {cAzTi : ClassId} {cAzTt : ClassId} {cAzIx : ClassId} {cAchR : ClassId} {cAtxR : ClassId} {p0 : Int32} {zfFc : Int32} {zfFp : Int32} {zg : Nat → Option Nat} {zVer : Int32} {zTic : Int32} {zTyc : Int32} {zLec : Int32} {zStc : Int32} {zUtc : Int32} {zTiA : Nat → Int64} {zTtA : Nat → Int32} {zIxA : Nat → Int32} {chS : Int32} {chN : Nat} {chA : Nat → Int32} {ruHas : Int32} {ruWide : Int32} {ruSo : Int32} {ruUo : Int32} {ruSp : Int32} {ruSs : Int32} {ruUp : Int32} {ruUs : Int32} {ruNev : Int32} {txS : Int32} {txN : Nat} {txA : Nat → Int32} {ebKind : Int32} {ebMonth : Int32} {ebWeek : Int32} {ebDay : Int32} {ebTime : Int32} {ebClock : Int32} {eeKind : Int32} {eeMonth : Int32} {eeWeek : Int32} {eeDay : Int32} {eeTime : Int32} {eeClock : Int32} {r0 : Int32}
set_option maxHeartbeats 400000 in
set_option maxRecDepth 100000 in
theorem k_ZF_name_41 (C0 : Cx p s m meth c args R b_ZF_name "ZoneFiles" 6 (some .int) 6 148) (hST : ST (fun _ => False) s s.heap) (hK : va_K (dC, dI) classes [(cAzfZs, .object "ZoneFiles$Zone"), (cAzTi, .long), (cAzTt, .int), (cAzIx, .int), (cAchR, .byte), (cAtxR, .byte)] s) (hP : va_P (dC, dI) classes [(h0, .inr (9, [.ref zfTp, .ref zfWr, .ref zfZs, .ref zfSp, .ref zfLt, .ref zfSt, .ref zfFd, .int zfFc, .int zfFp])), (zfZs, .inl (cAzfZs, 4, .inr (.inr (.inr (.inr zg))))), (zz, .inr (8, [.int zVer, .int zTic, .int zTyc, .int zLec, .int zStc, .int zUtc, .ref zTi, .ref zTt, .ref zOf, .ref zDs, .ref zIx, .ref zSd, .ref zUt, .ref zCh, .ref zLt, .ref zLo, .ref zRu])), (zTi, .inl (cAzTi, 200, .inr (.inl zTiA))), (zTt, .inl (cAzTt, 200, .inl zTtA)), (zIx, .inl (cAzIx, 40, .inl zIxA)), (zCh, .inr (0, [.ref chR, .int chS])), (chR, .inl (cAchR, chN, .inl chA)), (zRu, .inr (5, [.ref ruT, .ref ruB, .ref ruE, .int ruHas, .int ruWide, .int ruSo, .int ruUo, .int ruSp, .int ruSs, .int ruUp, .int ruUs, .int ruNev])), (ruT, .inr (0, [.ref txR, .int txS])), (txR, .inl (cAtxR, txN, .inl txA)), (ruB, .inr (1, [.int ebKind, .int ebMonth, .int ebWeek, .int ebDay, .int ebTime, .int ebClock])), (ruE, .inr (1, [.int eeKind, .int eeMonth, .int eeWeek, .int eeDay, .int eeTime, .int eeClock]))] s.heap) (hz : zg p0.toNatClampNeg = some zz) (hE : ∀ (pc : Nat) (ls : Array Slot), decode b_ZF_name pc = .ok (.ireturn, 1) → narrow .int (.int r0) = .int r0 → W p l e R s m args below meth c s.heap [] 0 0 Q (F0 m pc ls [.int r0])) (hf : f_ZF_name_41 nf = some r0) {ls : Array Slot} (hl : lv_has ls 6 []) : W p l e R s m args below meth c s.heap [] 0 0 Q (F0 m 41 ls []) := by
  obtain ⟨hx, hb, hr, hml, hown, hts, hlocks, hRf, hRl⟩ := id C0
  obtain ⟨tms, hZms, hTms, tmg, hZmg, hTmg, hNW⟩ := id hST
  unfold f_ZF_name_41 at hf
  exact absurd hf (by simp)
set_option maxHeartbeats 400000 in
set_option maxRecDepth 100000 in
theorem k_ZF_name_0 (C0 : Cx p s m meth c args R b_ZF_name "ZoneFiles" 6 (some .int) 6 148) (hST : ST (fun _ => False) s s.heap) (hK : va_K (dC, dI) classes [(cAzfZs, .object "ZoneFiles$Zone"), (cAzTi, .long), (cAzTt, .int), (cAzIx, .int), (cAchR, .byte), (cAtxR, .byte)] s) (hP : va_P (dC, dI) classes [(h0, .inr (9, [.ref zfTp, .ref zfWr, .ref zfZs, .ref zfSp, .ref zfLt, .ref zfSt, .ref zfFd, .int zfFc, .int zfFp])), (zfZs, .inl (cAzfZs, 4, .inr (.inr (.inr (.inr zg))))), (zz, .inr (8, [.int zVer, .int zTic, .int zTyc, .int zLec, .int zStc, .int zUtc, .ref zTi, .ref zTt, .ref zOf, .ref zDs, .ref zIx, .ref zSd, .ref zUt, .ref zCh, .ref zLt, .ref zLo, .ref zRu])), (zTi, .inl (cAzTi, 200, .inr (.inl zTiA))), (zTt, .inl (cAzTt, 200, .inl zTtA)), (zIx, .inl (cAzIx, 40, .inl zIxA)), (zCh, .inr (0, [.ref chR, .int chS])), (chR, .inl (cAchR, chN, .inl chA)), (zRu, .inr (5, [.ref ruT, .ref ruB, .ref ruE, .int ruHas, .int ruWide, .int ruSo, .int ruUo, .int ruSp, .int ruSs, .int ruUp, .int ruUs, .int ruNev])), (ruT, .inr (0, [.ref txR, .int txS])), (txR, .inl (cAtxR, txN, .inl txA)), (ruB, .inr (1, [.int ebKind, .int ebMonth, .int ebWeek, .int ebDay, .int ebTime, .int ebClock])), (ruE, .inr (1, [.int eeKind, .int eeMonth, .int eeWeek, .int eeDay, .int eeTime, .int eeClock]))] s.heap) (hz : zg p0.toNatClampNeg = some zz) (hE : ∀ (pc : Nat) (ls : Array Slot), decode b_ZF_name pc = .ok (.ireturn, 1) → narrow .int (.int r0) = .int r0 → W p l e R s m args below meth c s.heap [] 0 0 Q (F0 m pc ls [.int r0])) {x2 : Int64} {x4 : Int32} (hf : f_ZF_name_0 nf p0 zTic zTyc zTiA zTtA zIxA chS chN chA ruHas ruSp ruSs ruUp ruUs txS txN txA ebKind ebMonth ebWeek ebDay ebTime ebClock eeKind eeMonth eeWeek eeDay eeTime eeClock x2 x4 = some r0) {ls : Array Slot} (hl : lv_has ls 6 [(0, .ref h0), (1, .int p0), (2, .long x2), (4, .int x4)]) : W p l e R s m args below meth c s.heap [] 0 0 Q (F0 m 0 ls []) := by
  obtain ⟨hx, hb, hr, hml, hown, hts, hlocks, hRf, hRl⟩ := id C0
  obtain ⟨tms, hZms, hTms, tmg, hZmg, hTmg, hNW⟩ := id hST
  unfold f_ZF_name_0 at hf
  refine lv_iload_n hx hb d_ZF_name_0 rfl (lv_at hl 1 rfl) ?_
  obtain ⟨_u, hc, hf⟩ := ob hf
  refine cl_S (v := none) (st1 := []) (va_runS (As := [.int p0]) (rest := []) ⟨hx, hb, hml, hown, hts⟩ (c_ZF_checkZone l dC dI nf p0 hc) (va_cwS 1 hts (gdS m_3_131 m_3_132 m_1_1 m_3_133) rfl rfl rfl (by decide +kernel) ⟨Nat.le_trans (Nat.le_of_ble_eq_true rfl) hRf, Nat.le_trans (Nat.le_of_ble_eq_true rfl) hRl⟩) (RO.pre0 hK hST).sta rfl rfl hl.1 rfl (lv_room (Nat.le_of_ble_eq_true rfl)) d_ZF_name_1 ⟨Nat.zero_le _, Nat.zero_le _⟩) rfl ?_
  refine lv_lload_n hx hb d_ZF_name_4 rfl (lv_at hl 2 rfl) ?_
  obtain ⟨_u, hc, hf⟩ := ob hf
  refine cl_S (v := none) (st1 := []) (va_runS (As := [.long x2]) (rest := []) ⟨hx, hb, hml, hown, hts⟩ (c_ZF_checkInstant l dC dI nf x2 hc) (va_cwS 1 hts (gdS m_5_36 m_5_37 m_1_1 m_5_38) rfl rfl rfl (by decide +kernel) ⟨Nat.le_trans (Nat.le_of_ble_eq_true rfl) hRf, Nat.le_trans (Nat.le_of_ble_eq_true rfl) hRl⟩) (RO.pre0 hK hST).sta rfl rfl hl.1 rfl (lv_room (Nat.le_of_ble_eq_true rfl)) d_ZF_name_5 ⟨Nat.zero_le _, Nat.zero_le _⟩) rfl ?_
  refine lv_aload_n hx hb d_ZF_name_8 rfl (lv_at hl 0 rfl) ?_
  refine va_get (D := (dC, dI)) (ci := 9) (v := .ref zfZs) (C := RZoneFiles) (T := TZoneFiles) (N := 9) hx hb hts in_ZoneFiles hown hK hP 0 rfl rfl 2 (by decide) (hts (.fieldLink "ZoneFiles" 23 "ZoneFiles" "zones" "[LZoneFiles$Zone;") m_2_119) (fun _ h9 => h9) rfl d_ZF_name_9 ?_
  refine lv_iload_n hx hb d_ZF_name_12 rfl (lv_at hl 1 rfl) ?_
  obtain ⟨c_1, hf⟩ := it_n hf
  refine zf_ald (zz := zz) hx hb hK hP 1 0 rfl rfl c_1 hz d_ZF_name_13 ?_
  refine lv_lload_n hx hb d_ZF_name_14 rfl (lv_at hl 2 rfl) ?_
  obtain ⟨r_2, hc, hf⟩ := ob hf
  refine cl_S (v := (some (.int r_2))) (st1 := [.int r_2]) (va_runV (As := [.long x2]) (rest := []) ⟨hx, hb, hml, hown, hts⟩ (c_Zone_stateAt l dC dI zz zTi zTt zOf zDs zIx zSd zUt zCh zLt zLo zRu ruT ruB ruE txR cAzTi cAzTt nf x2 zVer zTic zTyc zLec zStc zUtc zTiA zTtA ruHas ruWide ruSo ruUo ruSp ruSs ruUp ruUs ruNev txS ebKind ebMonth ebWeek ebDay ebTime ebClock eeKind eeMonth eeWeek eeDay eeTime eeClock hc) (cwV 1 hts (gdV m_5_41 m_4_142 m_4_143 m_1_3 m_4_144) rfl rfl rfl (by decide +kernel) ⟨Nat.le_trans (Nat.le_of_ble_eq_true rfl) hRf, Nat.le_trans (Nat.le_of_ble_eq_true rfl) hRl⟩) ((RO.pre (hP.sub (ws' := [(zz, .inr (8, [.int zVer, .int zTic, .int zTyc, .int zLec, .int zStc, .int zUtc, .ref zTi, .ref zTt, .ref zOf, .ref zDs, .ref zIx, .ref zSd, .ref zUt, .ref zCh, .ref zLt, .ref zLo, .ref zRu])), (zTi, .inl (cAzTi, 200, .inr (.inl zTiA))), (zTt, .inl (cAzTt, 200, .inl zTtA)), (zRu, .inr (5, [.ref ruT, .ref ruB, .ref ruE, .int ruHas, .int ruWide, .int ruSo, .int ruUo, .int ruSp, .int ruSs, .int ruUp, .int ruUs, .int ruNev])), (ruT, .inr (0, [.ref txR, .int txS])), (ruB, .inr (1, [.int ebKind, .int ebMonth, .int ebWeek, .int ebDay, .int ebTime, .int ebClock])), (ruE, .inr (1, [.int eeKind, .int eeMonth, .int eeWeek, .int eeDay, .int eeTime, .int eeClock]))]) [2, 3, 4, 8, 9, 11, 12] rfl) (hK.sub (tys' := [(cAzTi, .long), (cAzTt, .int)]) [1, 2] rfl) hST).vir (va_recv (hK.sub (tys' := [(cAzTi, .long), (cAzTt, .int)]) [1, 2] rfl) (hP.sub (ws' := [(zz, .inr (8, [.int zVer, .int zTic, .int zTyc, .int zLec, .int zStc, .int zUtc, .ref zTi, .ref zTt, .ref zOf, .ref zDs, .ref zIx, .ref zSd, .ref zUt, .ref zCh, .ref zLt, .ref zLo, .ref zRu])), (zTi, .inl (cAzTi, 200, .inr (.inl zTiA))), (zTt, .inl (cAzTt, 200, .inl zTtA)), (zRu, .inr (5, [.ref ruT, .ref ruB, .ref ruE, .int ruHas, .int ruWide, .int ruSo, .int ruUo, .int ruSp, .int ruSs, .int ruUp, .int ruUs, .int ruNev])), (ruT, .inr (0, [.ref txR, .int txS])), (ruB, .inr (1, [.int ebKind, .int ebMonth, .int ebWeek, .int ebDay, .int ebTime, .int ebClock])), (ruE, .inr (1, [.int eeKind, .int eeMonth, .int eeWeek, .int eeDay, .int eeTime, .int eeClock]))]) [2, 3, 4, 8, 9, 11, 12] rfl) (ci := 8) (q0 := 0) rfl rfl)) rfl rfl hl.1 rfl (lv_room (Nat.le_of_ble_eq_true rfl)) d_ZF_name_15 ⟨Nat.zero_le _, Nat.zero_le _⟩) rfl ?_
  refine lv_istore (lv' := [(5, .int r_2), (0, .ref h0), (1, .int p0), (2, .long x2), (4, .int x4)]) hx hb d_ZF_name_18 hl (by decide) rfl (fun ls hl => ?_)
  refine lv_iload hx hb d_ZF_name_20 (lv_at hl 4 rfl) ?_
  refine lv_if_lt (tgt := 41) hx hb d_ZF_name_22 (by decide) (fun c_3 => ?_) (fun c_3 => ?_)
  · have hf := it_t c_3 hf
    exact k_ZF_name_41 C0 hST hK hP hz hE hf (lv_sub hl [] rfl)
  · have hf := it_f c_3 hf
    refine lv_iload hx hb d_ZF_name_25 (lv_at hl 4 rfl) ?_
    refine lv_aload_n hx hb d_ZF_name_27 rfl (lv_at hl 1 rfl) ?_
    refine va_get (D := (dC, dI)) (ci := 9) (v := .ref zfZs) (C := RZoneFiles) (T := TZoneFiles) (N := 9) hx hb hts in_ZoneFiles hown hK hP 0 rfl rfl 2 (by decide) (hts (.fieldLink "ZoneFiles" 23 "ZoneFiles" "zones" "[LZoneFiles$Zone;") m_2_119) (fun _ h9 => h9) rfl d_ZF_name_28 ?_
    refine lv_iload_n hx hb d_ZF_name_31 rfl (lv_at hl 2 rfl) ?_
    obtain ⟨c_4, hf⟩ := it_n hf
    refine zf_ald (zz := zz) hx hb hK hP 1 0 rfl rfl c_4 hz d_ZF_name_32 ?_
    refine lv_iload hx hb d_ZF_name_33 (lv_at hl 0 rfl) ?_
    obtain ⟨r_5, hc, hf⟩ := ob hf
    refine cl_S (v := (some (.int r_5))) (st1 := [.int r_5, .int x4]) (va_runV (As := [.int r_2]) (rest := [.int x4]) ⟨hx, hb, hml, hown, hts⟩ (c_Zone_nameSize l dC dI zz zTi zTt zOf zDs zIx zSd zUt zCh zLt zLo zRu chR ruT ruB ruE cAzIx cAchR nf r_2 zVer zTic zTyc zLec zStc zUtc zIxA chS chN chA ruHas ruWide ruSo ruUo ruSp ruSs ruUp ruUs ruNev hc) (cwV 1 hts (gdV m_5_12 m_2_67 m_2_68 m_1_3 m_2_69) rfl rfl rfl (by decide +kernel) ⟨Nat.le_trans (Nat.le_of_ble_eq_true rfl) hRf, Nat.le_trans (Nat.le_of_ble_eq_true rfl) hRl⟩) ((RO.pre (hP.sub (ws' := [(zz, .inr (8, [.int zVer, .int zTic, .int zTyc, .int zLec, .int zStc, .int zUtc, .ref zTi, .ref zTt, .ref zOf, .ref zDs, .ref zIx, .ref zSd, .ref zUt, .ref zCh, .ref zLt, .ref zLo, .ref zRu])), (zIx, .inl (cAzIx, 40, .inl zIxA)), (zCh, .inr (0, [.ref chR, .int chS])), (chR, .inl (cAchR, chN, .inl chA)), (zRu, .inr (5, [.ref ruT, .ref ruB, .ref ruE, .int ruHas, .int ruWide, .int ruSo, .int ruUo, .int ruSp, .int ruSs, .int ruUp, .int ruUs, .int ruNev]))]) [2, 5, 6, 7, 8] rfl) (hK.sub (tys' := [(cAzIx, .int), (cAchR, .byte)]) [3, 4] rfl) hST).vir (va_recv (hK.sub (tys' := [(cAzIx, .int), (cAchR, .byte)]) [3, 4] rfl) (hP.sub (ws' := [(zz, .inr (8, [.int zVer, .int zTic, .int zTyc, .int zLec, .int zStc, .int zUtc, .ref zTi, .ref zTt, .ref zOf, .ref zDs, .ref zIx, .ref zSd, .ref zUt, .ref zCh, .ref zLt, .ref zLo, .ref zRu])), (zIx, .inl (cAzIx, 40, .inl zIxA)), (zCh, .inr (0, [.ref chR, .int chS])), (chR, .inl (cAchR, chN, .inl chA)), (zRu, .inr (5, [.ref ruT, .ref ruB, .ref ruE, .int ruHas, .int ruWide, .int ruSo, .int ruUo, .int ruSp, .int ruSs, .int ruUp, .int ruUs, .int ruNev]))]) [2, 5, 6, 7, 8] rfl) (ci := 8) (q0 := 0) rfl rfl)) rfl rfl hl.1 rfl (lv_room (Nat.le_of_ble_eq_true rfl)) d_ZF_name_35 ⟨Nat.zero_le _, Nat.zero_le _⟩) rfl ?_
    refine lv_icmp_lt (tgt := 51) hx hb d_ZF_name_38 (by decide) (fun c_6 => ?_) (fun c_6 => ?_)
    · have hf := it_t c_6 hf
      refine lv_aload_n hx hb d_ZF_name_51 rfl (lv_at hl 1 rfl) ?_
      refine va_get (D := (dC, dI)) (ci := 9) (v := .ref zfZs) (C := RZoneFiles) (T := TZoneFiles) (N := 9) hx hb hts in_ZoneFiles hown hK hP 0 rfl rfl 2 (by decide) (hts (.fieldLink "ZoneFiles" 23 "ZoneFiles" "zones" "[LZoneFiles$Zone;") m_2_119) (fun _ h9 => h9) rfl d_ZF_name_52 ?_
      refine lv_iload_n hx hb d_ZF_name_55 rfl (lv_at hl 2 rfl) ?_
      obtain ⟨c_7, hf⟩ := it_n hf
      refine zf_ald (zz := zz) hx hb hK hP 1 0 rfl rfl c_7 hz d_ZF_name_56 ?_
      refine lv_iload hx hb d_ZF_name_57 (lv_at hl 0 rfl) ?_
      refine lv_iload hx hb d_ZF_name_59 (lv_at hl 4 rfl) ?_
      obtain ⟨r_8, hc, hf⟩ := ob hf
      refine cl_S (v := (some (.int r_8))) (st1 := [.int r_8]) (va_runV (As := [.int r_2, .int x4]) (rest := []) ⟨hx, hb, hml, hown, hts⟩ (c_Zone_nameByte l dC dI zz zTi zTt zOf zDs zIx zSd zUt zCh zLt zLo zRu chR ruT ruB ruE txR cAzIx cAchR cAtxR nf r_2 x4 zVer zTic zTyc zLec zStc zUtc zIxA chS chN chA ruHas ruWide ruSo ruUo ruSp ruSs ruUp ruUs ruNev txS txN txA hc) (cwV 2 hts (gdV m_5_69 m_2_75 m_2_76 m_1_3 m_2_77) rfl rfl rfl (by decide +kernel) ⟨Nat.le_trans (Nat.le_of_ble_eq_true rfl) hRf, Nat.le_trans (Nat.le_of_ble_eq_true rfl) hRl⟩) ((RO.pre (hP.sub (ws' := [(zz, .inr (8, [.int zVer, .int zTic, .int zTyc, .int zLec, .int zStc, .int zUtc, .ref zTi, .ref zTt, .ref zOf, .ref zDs, .ref zIx, .ref zSd, .ref zUt, .ref zCh, .ref zLt, .ref zLo, .ref zRu])), (zIx, .inl (cAzIx, 40, .inl zIxA)), (zCh, .inr (0, [.ref chR, .int chS])), (chR, .inl (cAchR, chN, .inl chA)), (zRu, .inr (5, [.ref ruT, .ref ruB, .ref ruE, .int ruHas, .int ruWide, .int ruSo, .int ruUo, .int ruSp, .int ruSs, .int ruUp, .int ruUs, .int ruNev])), (ruT, .inr (0, [.ref txR, .int txS])), (txR, .inl (cAtxR, txN, .inl txA))]) [2, 5, 6, 7, 8, 9, 10] rfl) (hK.sub (tys' := [(cAzIx, .int), (cAchR, .byte), (cAtxR, .byte)]) [3, 4, 5] rfl) hST).vir (va_recv (hK.sub (tys' := [(cAzIx, .int), (cAchR, .byte), (cAtxR, .byte)]) [3, 4, 5] rfl) (hP.sub (ws' := [(zz, .inr (8, [.int zVer, .int zTic, .int zTyc, .int zLec, .int zStc, .int zUtc, .ref zTi, .ref zTt, .ref zOf, .ref zDs, .ref zIx, .ref zSd, .ref zUt, .ref zCh, .ref zLt, .ref zLo, .ref zRu])), (zIx, .inl (cAzIx, 40, .inl zIxA)), (zCh, .inr (0, [.ref chR, .int chS])), (chR, .inl (cAchR, chN, .inl chA)), (zRu, .inr (5, [.ref ruT, .ref ruB, .ref ruE, .int ruHas, .int ruWide, .int ruSo, .int ruUo, .int ruSp, .int ruSs, .int ruUp, .int ruUs, .int ruNev])), (ruT, .inr (0, [.ref txR, .int txS])), (txR, .inl (cAtxR, txN, .inl txA))]) [2, 5, 6, 7, 8, 9, 10] rfl) (ci := 8) (q0 := 0) rfl rfl)) rfl rfl hl.1 rfl (lv_room (Nat.le_of_ble_eq_true rfl)) d_ZF_name_61 ⟨Nat.zero_le _, Nat.zero_le _⟩) rfl ?_
      have e := rs hf
      subst e
      exact hE _ _ d_ZF_name_64 rfl
    · have hf := it_f c_6 hf
      exact k_ZF_name_41 C0 hST hK hP hz hE hf (lv_sub hl [] rfl)
end
set_option maxHeartbeats 400000 in
set_option maxRecDepth 100000 in
theorem c_ZF_name (l : Launch) (dC : Nat → ClassId) (dI : Nat → Nat → Nat) (h0 : Nat) (zfTp : Nat) (zfWr : Nat) (zfZs : Nat) (zfSp : Nat) (zfLt : Nat) (zfSt : Nat) (zfFd : Nat) (zz : Nat) (zTi : Nat) (zTt : Nat) (zOf : Nat) (zDs : Nat) (zIx : Nat) (zSd : Nat) (zUt : Nat) (zCh : Nat) (zLt : Nat) (zLo : Nat) (zRu : Nat) (chR : Nat) (ruT : Nat) (ruB : Nat) (ruE : Nat) (txR : Nat) (cAzfZs : ClassId) (cAzTi : ClassId) (cAzTt : ClassId) (cAzIx : ClassId) (cAchR : ClassId) (cAtxR : ClassId) (nf : Nat) (p0 : Int32) (p1 : Int64) (p2 : Int32) (zfFc : Int32) (zfFp : Int32) (zg : Nat → Option Nat) (zVer : Int32) (zTic : Int32) (zTyc : Int32) (zLec : Int32) (zStc : Int32) (zUtc : Int32) (zTiA : Nat → Int64) (zTtA : Nat → Int32) (zIxA : Nat → Int32) (chS : Int32) (chN : Nat) (chA : Nat → Int32) (ruHas : Int32) (ruWide : Int32) (ruSo : Int32) (ruUo : Int32) (ruSp : Int32) (ruSs : Int32) (ruUp : Int32) (ruUs : Int32) (ruNev : Int32) (txS : Int32) (txN : Nat) (txA : Nat → Int32) (ebKind : Int32) (ebMonth : Int32) (ebWeek : Int32) (ebDay : Int32) (ebTime : Int32) (ebClock : Int32) (eeKind : Int32) (eeMonth : Int32) (eeWeek : Int32) (eeDay : Int32) (eeTime : Int32) (eeClock : Int32) {r0 : Int32} (hf : f_ZF_name nf p0 p1 p2 zTic zTyc zTiA zTtA zIxA chS chN chA ruHas ruSp ruSs ruUp ruUs txS txN txA ebKind ebMonth ebWeek ebDay ebTime ebClock eeKind eeMonth eeWeek eeDay eeTime eeClock = some r0) (hz : zg p0.toNatClampNeg = some zz) : Met l y_ZF_name (wd y_ZF_name b_ZF_name 6 (some .int)) ({ frames := 6, cells := 0, slots := 0, locals := 148 }) (RO dC dI [(h0, .inr (9, [.ref zfTp, .ref zfWr, .ref zfZs, .ref zfSp, .ref zfLt, .ref zfSt, .ref zfFd, .int zfFc, .int zfFp])), (zfZs, .inl (cAzfZs, 4, .inr (.inr (.inr (.inr zg))))), (zz, .inr (8, [.int zVer, .int zTic, .int zTyc, .int zLec, .int zStc, .int zUtc, .ref zTi, .ref zTt, .ref zOf, .ref zDs, .ref zIx, .ref zSd, .ref zUt, .ref zCh, .ref zLt, .ref zLo, .ref zRu])), (zTi, .inl (cAzTi, 200, .inr (.inl zTiA))), (zTt, .inl (cAzTt, 200, .inl zTtA)), (zIx, .inl (cAzIx, 40, .inl zIxA)), (zCh, .inr (0, [.ref chR, .int chS])), (chR, .inl (cAchR, chN, .inl chA)), (zRu, .inr (5, [.ref ruT, .ref ruB, .ref ruE, .int ruHas, .int ruWide, .int ruSo, .int ruUo, .int ruSp, .int ruSs, .int ruUp, .int ruUs, .int ruNev])), (ruT, .inr (0, [.ref txR, .int txS])), (txR, .inl (cAtxR, txN, .inl txA)), (ruB, .inr (1, [.int ebKind, .int ebMonth, .int ebWeek, .int ebDay, .int ebTime, .int ebClock])), (ruE, .inr (1, [.int eeKind, .int eeMonth, .int eeWeek, .int eeDay, .int eeTime, .int eeClock]))] [(cAzfZs, .object "ZoneFiles$Zone"), (cAzTi, .long), (cAzTt, .int), (cAzIx, .int), (cAchR, .byte), (cAtxR, .byte)] [.ref h0, .int p0, .long p1, .int p2]) (SV (some (.int r0))) 0 0 (fun _ => False) :=
  met_S (plainFor_of_name (by decide)) (Nat.le_of_ble_eq_true rfl) (fun p e R s m args below meth c ls C0 hST hK hP hl => by
    obtain ⟨hx, hb, hr, hml, hown, hts, hlocks, hRf, hRl⟩ := id C0
    unfold f_ZF_name at hf
    exact k_ZF_name_0 C0 hST hK hP hz (fun pc ls hd hn => W.zret hx hb hr hn (fun t ht hW => ⟨rfl, ht⟩) (fun q h => by cases h) hd) hf (lv_sub hl [0, 1, 2, 3] rfl))
